theorem dX12_init_0 : decode cX12_init 0 = .ok (.aload_n 0, 1) := by decide +kernel
theorem dX12_init_1 : decode cX12_init 1 = .ok (.invokespecial 1, 3) := by decide +kernel
theorem dX12_init_4 : decode cX12_init 4 = .ok (.aload_n 0, 1) := by decide +kernel
theorem dX12_init_5 : decode cX12_init 5 = .ok (.bipush 39, 2) := by decide +kernel
theorem dX12_init_7 : decode cX12_init 7 = .ok (.newarray .int, 2) := by decide +kernel
theorem dX12_init_9 : decode cX12_init 9 = .ok (.putfield 9, 3) := by decide +kernel
theorem dX12_init_12 : decode cX12_init 12 = .ok (.aload_n 0, 1) := by decide +kernel
theorem dX12_init_13 : decode cX12_init 13 = .ok (.bipush 39, 2) := by decide +kernel
theorem dX12_init_15 : decode cX12_init 15 = .ok (.newarray .int, 2) := by decide +kernel
theorem dX12_init_17 : decode cX12_init 17 = .ok (.putfield 13, 3) := by decide +kernel
theorem dX12_init_20 : decode cX12_init 20 = .ok (.aload_n 0, 1) := by decide +kernel
theorem dX12_init_21 : decode cX12_init 21 = .ok (.bipush 39, 2) := by decide +kernel
theorem dX12_init_23 : decode cX12_init 23 = .ok (.newarray .int, 2) := by decide +kernel
theorem dX12_init_25 : decode cX12_init 25 = .ok (.putfield 16, 3) := by decide +kernel
theorem dX12_init_28 : decode cX12_init 28 = .ok (.aload_n 0, 1) := by decide +kernel
theorem dX12_init_29 : decode cX12_init 29 = .ok (.bipush 39, 2) := by decide +kernel
theorem dX12_init_31 : decode cX12_init 31 = .ok (.newarray .int, 2) := by decide +kernel
theorem dX12_init_33 : decode cX12_init 33 = .ok (.putfield 19, 3) := by decide +kernel
theorem dX12_init_36 : decode cX12_init 36 = .ok (.aload_n 0, 1) := by decide +kernel
theorem dX12_init_37 : decode cX12_init 37 = .ok (.iconst 3, 1) := by decide +kernel
theorem dX12_init_38 : decode cX12_init 38 = .ok (.newarray .int, 2) := by decide +kernel
theorem dX12_init_40 : decode cX12_init 40 = .ok (.putfield 22, 3) := by decide +kernel
theorem dX12_init_43 : decode cX12_init 43 = .ok (.aload_n 0, 1) := by decide +kernel
theorem dX12_init_44 : decode cX12_init 44 = .ok (.bipush 8, 2) := by decide +kernel
theorem dX12_init_46 : decode cX12_init 46 = .ok (.newarray .int, 2) := by decide +kernel
theorem dX12_init_48 : decode cX12_init 48 = .ok (.putfield 25, 3) := by decide +kernel
theorem dX12_init_51 : decode cX12_init 51 = .ok (.aload_n 0, 1) := by decide +kernel
theorem dX12_init_52 : decode cX12_init 52 = .ok (.bipush 8, 2) := by decide +kernel
theorem dX12_init_54 : decode cX12_init 54 = .ok (.newarray .int, 2) := by decide +kernel
theorem dX12_init_56 : decode cX12_init 56 = .ok (.putfield 28, 3) := by decide +kernel
theorem dX12_init_59 : decode cX12_init 59 = .ok (.aload_n 0, 1) := by decide +kernel
theorem dX12_init_60 : decode cX12_init 60 = .ok (.bipush 8, 2) := by decide +kernel
theorem dX12_init_62 : decode cX12_init 62 = .ok (.newarray .int, 2) := by decide +kernel
theorem dX12_init_64 : decode cX12_init 64 = .ok (.putfield 31, 3) := by decide +kernel
theorem dX12_init_67 : decode cX12_init 67 = .ok (.aload_n 0, 1) := by decide +kernel
theorem dX12_init_68 : decode cX12_init 68 = .ok (.bipush 8, 2) := by decide +kernel
theorem dX12_init_70 : decode cX12_init 70 = .ok (.newarray .int, 2) := by decide +kernel
theorem dX12_init_72 : decode cX12_init 72 = .ok (.putfield 34, 3) := by decide +kernel
theorem dX12_init_75 : decode cX12_init 75 = .ok (.aload_n 0, 1) := by decide +kernel
theorem dX12_init_76 : decode cX12_init 76 = .ok (.bipush 8, 2) := by decide +kernel
theorem dX12_init_78 : decode cX12_init 78 = .ok (.newarray .int, 2) := by decide +kernel
theorem dX12_init_80 : decode cX12_init 80 = .ok (.putfield 37, 3) := by decide +kernel
theorem dX12_init_83 : decode cX12_init 83 = .ok (.aload_n 0, 1) := by decide +kernel
theorem dX12_init_84 : decode cX12_init 84 = .ok (.sipush 800, 3) := by decide +kernel
theorem dX12_init_87 : decode cX12_init 87 = .ok (.newarray .int, 2) := by decide +kernel
theorem dX12_init_89 : decode cX12_init 89 = .ok (.putfield 40, 3) := by decide +kernel
theorem dX12_init_92 : decode cX12_init 92 = .ok (.aload_n 0, 1) := by decide +kernel
theorem dX12_init_93 : decode cX12_init 93 = .ok (.getfield 9, 3) := by decide +kernel
theorem dX12_init_96 : decode cX12_init 96 = .ok (.iconst 2, 1) := by decide +kernel
theorem dX12_init_97 : decode cX12_init 97 = .ok (.iconst 3, 1) := by decide +kernel
theorem dX12_init_98 : decode cX12_init 98 = .ok (.iastore, 1) := by decide +kernel
theorem dX12_init_99 : decode cX12_init 99 = .ok (.aload_n 0, 1) := by decide +kernel
theorem dX12_init_100 : decode cX12_init 100 = .ok (.getfield 9, 3) := by decide +kernel
theorem dX12_init_103 : decode cX12_init 103 = .ok (.iconst 3, 1) := by decide +kernel
theorem dX12_init_104 : decode cX12_init 104 = .ok (.bipush 40, 2) := by decide +kernel
theorem dX12_init_106 : decode cX12_init 106 = .ok (.iastore, 1) := by decide +kernel
theorem dX12_init_107 : decode cX12_init 107 = .ok (.return_, 1) := by decide +kernel
theorem dX12_isIn_0 : decode cX12_isIn 0 = .ok (.iload_n 0, 1) := by decide +kernel
theorem dX12_isIn_1 : decode cX12_isIn 1 = .ok (.iload_n 1, 1) := by decide +kernel
theorem dX12_isIn_2 : decode cX12_isIn 2 = .ok (.if_icmp .lt 12, 3) := by decide +kernel
theorem dX12_isIn_5 : decode cX12_isIn 5 = .ok (.iload_n 0, 1) := by decide +kernel
theorem dX12_isIn_6 : decode cX12_isIn 6 = .ok (.iload_n 2, 1) := by decide +kernel
theorem dX12_isIn_7 : decode cX12_isIn 7 = .ok (.if_icmp .gt 7, 3) := by decide +kernel
theorem dX12_isIn_10 : decode cX12_isIn 10 = .ok (.iconst 1, 1) := by decide +kernel
theorem dX12_isIn_11 : decode cX12_isIn 11 = .ok (.goto 4, 3) := by decide +kernel
theorem dX12_isIn_14 : decode cX12_isIn 14 = .ok (.iconst 0, 1) := by decide +kernel
theorem dX12_isIn_15 : decode cX12_isIn 15 = .ok (.ireturn, 1) := by decide +kernel
theorem dX12_least_0 : decode cX12_least 0 = .ok (.iload_n 0, 1) := by decide +kernel
theorem dX12_least_1 : decode cX12_least 1 = .ok (.iload_n 1, 1) := by decide +kernel
theorem dX12_least_2 : decode cX12_least 2 = .ok (.if_icmp .ge 7, 3) := by decide +kernel
theorem dX12_least_5 : decode cX12_least 5 = .ok (.iload_n 0, 1) := by decide +kernel
theorem dX12_least_6 : decode cX12_least 6 = .ok (.goto 4, 3) := by decide +kernel
theorem dX12_least_9 : decode cX12_least 9 = .ok (.iload_n 1, 1) := by decide +kernel
theorem dX12_least_10 : decode cX12_least 10 = .ok (.ireturn, 1) := by decide +kernel
theorem dX12_lessBy_0 : decode cX12_lessBy 0 = .ok (.iload_n 0, 1) := by decide +kernel
theorem dX12_lessBy_1 : decode cX12_lessBy 1 = .ok (.iload_n 1, 1) := by decide +kernel
theorem dX12_lessBy_2 : decode cX12_lessBy 2 = .ok (.if_icmp .ge 7, 3) := by decide +kernel
theorem dX12_lessBy_5 : decode cX12_lessBy 5 = .ok (.iconst 0, 1) := by decide +kernel
theorem dX12_lessBy_6 : decode cX12_lessBy 6 = .ok (.goto 6, 3) := by decide +kernel
theorem dX12_lessBy_9 : decode cX12_lessBy 9 = .ok (.iload_n 0, 1) := by decide +kernel
theorem dX12_lessBy_10 : decode cX12_lessBy 10 = .ok (.iload_n 1, 1) := by decide +kernel
theorem dX12_lessBy_11 : decode cX12_lessBy 11 = .ok (.isub, 1) := by decide +kernel
theorem dX12_lessBy_12 : decode cX12_lessBy 12 = .ok (.ireturn, 1) := by decide +kernel
theorem dX12_copies_0 : decode cX12_copies 0 = .ok (.iconst 0, 1) := by decide +kernel
theorem dX12_copies_1 : decode cX12_copies 1 = .ok (.istore_n 2, 1) := by decide +kernel
theorem dX12_copies_2 : decode cX12_copies 2 = .ok (.iload_n 2, 1) := by decide +kernel
theorem dX12_copies_3 : decode cX12_copies 3 = .ok (.bipush 39, 2) := by decide +kernel
theorem dX12_copies_5 : decode cX12_copies 5 = .ok (.if_icmp .ge 15, 3) := by decide +kernel
theorem dX12_copies_8 : decode cX12_copies 8 = .ok (.aload_n 1, 1) := by decide +kernel
theorem dX12_copies_9 : decode cX12_copies 9 = .ok (.iload_n 2, 1) := by decide +kernel
theorem dX12_copies_10 : decode cX12_copies 10 = .ok (.aload_n 0, 1) := by decide +kernel
theorem dX12_copies_11 : decode cX12_copies 11 = .ok (.iload_n 2, 1) := by decide +kernel
theorem dX12_copies_12 : decode cX12_copies 12 = .ok (.iaload, 1) := by decide +kernel
theorem dX12_copies_13 : decode cX12_copies 13 = .ok (.iastore, 1) := by decide +kernel
theorem dX12_copies_14 : decode cX12_copies 14 = .ok (.iinc 2 1, 3) := by decide +kernel
theorem dX12_copies_17 : decode cX12_copies 17 = .ok (.goto (-15), 3) := by decide +kernel
theorem dX12_copies_20 : decode cX12_copies 20 = .ok (.return_, 1) := by decide +kernel
theorem dX12_of_0 : decode cX12_of 0 = .ok (.iconst 4, 1) := by decide +kernel
theorem dX12_of_1 : decode cX12_of 1 = .ok (.iconst 5, 1) := by decide +kernel
theorem dX12_of_2 : decode cX12_of 2 = .ok (.iload_n 0, 1) := by decide +kernel
theorem dX12_of_3 : decode cX12_of 3 = .ok (.imul, 1) := by decide +kernel
theorem dX12_of_4 : decode cX12_of 4 = .ok (.iadd, 1) := by decide +kernel
theorem dX12_of_5 : decode cX12_of 5 = .ok (.iload_n 1, 1) := by decide +kernel
theorem dX12_of_6 : decode cX12_of 6 = .ok (.iadd, 1) := by decide +kernel
theorem dX12_of_7 : decode cX12_of 7 = .ok (.ireturn, 1) := by decide +kernel
set_option maxRecDepth 20000 in
theorem ggX12_isTenant_X12_isIn : GoodIn wsX12_isTenant wsX12_isIn := goodIn_r _ [5] (by decide +kernel) (by decide +kernel)
set_option maxRecDepth 20000 in
theorem gX12_isTenant_X12_isIn : GoodIn wsX12_isTenant (va_wsS RX12 43 yX12_isIn wsX12_isIn) := goodIn_app (goodIn_of _ (by decide +kernel)) ggX12_isTenant_X12_isIn
theorem dX12_isTenant_0 : decode cX12_isTenant 0 = .ok (.iload_n 1, 1) := by decide +kernel
theorem dX12_isTenant_1 : decode cX12_isTenant 1 = .ok (.iconst 0, 1) := by decide +kernel
theorem dX12_isTenant_2 : decode cX12_isTenant 2 = .ok (.aload_n 0, 1) := by decide +kernel
theorem dX12_isTenant_3 : decode cX12_isTenant 3 = .ok (.getfield 9, 3) := by decide +kernel
theorem dX12_isTenant_6 : decode cX12_isTenant 6 = .ok (.iconst 0, 1) := by decide +kernel
theorem dX12_isTenant_7 : decode cX12_isTenant 7 = .ok (.iaload, 1) := by decide +kernel
theorem dX12_isTenant_8 : decode cX12_isTenant 8 = .ok (.iconst 1, 1) := by decide +kernel
theorem dX12_isTenant_9 : decode cX12_isTenant 9 = .ok (.isub, 1) := by decide +kernel
theorem dX12_isTenant_10 : decode cX12_isTenant 10 = .ok (.invokestatic 43, 3) := by decide +kernel
theorem dX12_isTenant_13 : decode cX12_isTenant 13 = .ok (.ireturn, 1) := by decide +kernel
set_option maxRecDepth 20000 in
theorem ggX12_areTwo_X12_isTenant : GoodIn wsX12_areTwo wsX12_isTenant := goodIn_r _ [5, 6, 7, 8, 4, 9, 10, 11, 12, 13, 14, 15, 16, 17, 18, 19, 20, 21, 22, 23, 24, 25, 26] (by decide +kernel) (by decide +kernel)
set_option maxRecDepth 20000 in
theorem gX12_areTwo_X12_isTenant : GoodIn wsX12_areTwo (wsV RX12 47 RX12 yX12_isTenant wsX12_isTenant) := goodIn_app (goodIn_of _ (by decide +kernel)) ggX12_areTwo_X12_isTenant
theorem dX12_areTwo_0 : decode cX12_areTwo 0 = .ok (.aload_n 0, 1) := by decide +kernel
theorem dX12_areTwo_1 : decode cX12_areTwo 1 = .ok (.iload_n 1, 1) := by decide +kernel
theorem dX12_areTwo_2 : decode cX12_areTwo 2 = .ok (.invokevirtual 47, 3) := by decide +kernel
theorem dX12_areTwo_5 : decode cX12_areTwo 5 = .ok (.ifCond .eq 20, 3) := by decide +kernel
theorem dX12_areTwo_8 : decode cX12_areTwo 8 = .ok (.aload_n 0, 1) := by decide +kernel
theorem dX12_areTwo_9 : decode cX12_areTwo 9 = .ok (.iload_n 2, 1) := by decide +kernel
theorem dX12_areTwo_10 : decode cX12_areTwo 10 = .ok (.invokevirtual 47, 3) := by decide +kernel
theorem dX12_areTwo_13 : decode cX12_areTwo 13 = .ok (.ifCond .eq 12, 3) := by decide +kernel
theorem dX12_areTwo_16 : decode cX12_areTwo 16 = .ok (.iload_n 1, 1) := by decide +kernel
theorem dX12_areTwo_17 : decode cX12_areTwo 17 = .ok (.iload_n 2, 1) := by decide +kernel
theorem dX12_areTwo_18 : decode cX12_areTwo 18 = .ok (.if_icmp .eq 7, 3) := by decide +kernel
theorem dX12_areTwo_21 : decode cX12_areTwo 21 = .ok (.iconst 1, 1) := by decide +kernel
theorem dX12_areTwo_22 : decode cX12_areTwo 22 = .ok (.goto 4, 3) := by decide +kernel
theorem dX12_areTwo_25 : decode cX12_areTwo 25 = .ok (.iconst 0, 1) := by decide +kernel
theorem dX12_areTwo_26 : decode cX12_areTwo 26 = .ok (.ireturn, 1) := by decide +kernel
set_option maxRecDepth 20000 in
theorem ggX12_isHere_X12_of : GoodIn wsX12_isHere wsX12_of := goodIn_r _ [4] (by decide +kernel) (by decide +kernel)
set_option maxRecDepth 20000 in
theorem gX12_isHere_X12_of : GoodIn wsX12_isHere (va_wsS RX12 51 yX12_of wsX12_of) := goodIn_app (goodIn_of _ (by decide +kernel)) ggX12_isHere_X12_of
theorem dX12_isHere_0 : decode cX12_isHere 0 = .ok (.aload_n 0, 1) := by decide +kernel
theorem dX12_isHere_1 : decode cX12_isHere 1 = .ok (.iload_n 1, 1) := by decide +kernel
theorem dX12_isHere_2 : decode cX12_isHere 2 = .ok (.iconst 4, 1) := by decide +kernel
theorem dX12_isHere_3 : decode cX12_isHere 3 = .ok (.invokestatic 51, 3) := by decide +kernel
theorem dX12_isHere_6 : decode cX12_isHere 6 = .ok (.iaload, 1) := by decide +kernel
theorem dX12_isHere_7 : decode cX12_isHere 7 = .ok (.iconst 1, 1) := by decide +kernel
theorem dX12_isHere_8 : decode cX12_isHere 8 = .ok (.if_icmp .ne 7, 3) := by decide +kernel
theorem dX12_isHere_11 : decode cX12_isHere 11 = .ok (.iconst 1, 1) := by decide +kernel
theorem dX12_isHere_12 : decode cX12_isHere 12 = .ok (.goto 4, 3) := by decide +kernel
theorem dX12_isHere_15 : decode cX12_isHere 15 = .ok (.iconst 0, 1) := by decide +kernel
theorem dX12_isHere_16 : decode cX12_isHere 16 = .ok (.ireturn, 1) := by decide +kernel
theorem dX12_has_0 : decode cX12_has 0 = .ok (.iload_n 0, 1) := by decide +kernel
theorem dX12_has_1 : decode cX12_has 1 = .ok (.iload_n 1, 1) := by decide +kernel
theorem dX12_has_2 : decode cX12_has 2 = .ok (.ishr, 1) := by decide +kernel
theorem dX12_has_3 : decode cX12_has 3 = .ok (.iconst 1, 1) := by decide +kernel
theorem dX12_has_4 : decode cX12_has 4 = .ok (.iand, 1) := by decide +kernel
theorem dX12_has_5 : decode cX12_has 5 = .ok (.iconst 1, 1) := by decide +kernel
theorem dX12_has_6 : decode cX12_has 6 = .ok (.if_icmp .ne 7, 3) := by decide +kernel
theorem dX12_has_9 : decode cX12_has 9 = .ok (.iconst 1, 1) := by decide +kernel
theorem dX12_has_10 : decode cX12_has 10 = .ok (.goto 4, 3) := by decide +kernel
theorem dX12_has_13 : decode cX12_has 13 = .ok (.iconst 0, 1) := by decide +kernel
theorem dX12_has_14 : decode cX12_has 14 = .ok (.ireturn, 1) := by decide +kernel
theorem dX12_bits_0 : decode cX12_bits 0 = .ok (.iconst 0, 1) := by decide +kernel
theorem dX12_bits_1 : decode cX12_bits 1 = .ok (.istore_n 1, 1) := by decide +kernel
theorem dX12_bits_2 : decode cX12_bits 2 = .ok (.iconst 0, 1) := by decide +kernel
theorem dX12_bits_3 : decode cX12_bits 3 = .ok (.istore_n 2, 1) := by decide +kernel
theorem dX12_bits_4 : decode cX12_bits 4 = .ok (.iload_n 2, 1) := by decide +kernel
theorem dX12_bits_5 : decode cX12_bits 5 = .ok (.bipush 10, 2) := by decide +kernel
theorem dX12_bits_7 : decode cX12_bits 7 = .ok (.if_icmp .ge 17, 3) := by decide +kernel
theorem dX12_bits_10 : decode cX12_bits 10 = .ok (.iload_n 1, 1) := by decide +kernel
theorem dX12_bits_11 : decode cX12_bits 11 = .ok (.iload_n 0, 1) := by decide +kernel
theorem dX12_bits_12 : decode cX12_bits 12 = .ok (.iload_n 2, 1) := by decide +kernel
theorem dX12_bits_13 : decode cX12_bits 13 = .ok (.ishr, 1) := by decide +kernel
theorem dX12_bits_14 : decode cX12_bits 14 = .ok (.iconst 1, 1) := by decide +kernel
theorem dX12_bits_15 : decode cX12_bits 15 = .ok (.iand, 1) := by decide +kernel
theorem dX12_bits_16 : decode cX12_bits 16 = .ok (.iadd, 1) := by decide +kernel
theorem dX12_bits_17 : decode cX12_bits 17 = .ok (.istore_n 1, 1) := by decide +kernel
theorem dX12_bits_18 : decode cX12_bits 18 = .ok (.iinc 2 1, 3) := by decide +kernel
theorem dX12_bits_21 : decode cX12_bits 21 = .ok (.goto (-17), 3) := by decide +kernel
theorem dX12_bits_24 : decode cX12_bits 24 = .ok (.iload_n 1, 1) := by decide +kernel
theorem dX12_bits_25 : decode cX12_bits 25 = .ok (.ireturn, 1) := by decide +kernel
theorem dX12_catchesBy_0 : decode cX12_catchesBy 0 = .ok (.iload_n 0, 1) := by decide +kernel
theorem dX12_catchesBy_1 : decode cX12_catchesBy 1 = .ok (.tableswitch 87 1 7 #[43, 49, 51, 55, 67, 51, 85], 43) := by decide +kernel
theorem dX12_catchesBy_44 : decode cX12_catchesBy 44 = .ok (.iload_n 2, 1) := by decide +kernel
theorem dX12_catchesBy_45 : decode cX12_catchesBy 45 = .ok (.iload_n 1, 1) := by decide +kernel
theorem dX12_catchesBy_46 : decode cX12_catchesBy 46 = .ok (.iconst 3, 1) := by decide +kernel
theorem dX12_catchesBy_47 : decode cX12_catchesBy 47 = .ok (.idiv, 1) := by decide +kernel
theorem dX12_catchesBy_48 : decode cX12_catchesBy 48 = .ok (.iadd, 1) := by decide +kernel
theorem dX12_catchesBy_49 : decode cX12_catchesBy 49 = .ok (.ireturn, 1) := by decide +kernel
theorem dX12_catchesBy_50 : decode cX12_catchesBy 50 = .ok (.iconst 2, 1) := by decide +kernel
theorem dX12_catchesBy_51 : decode cX12_catchesBy 51 = .ok (.ireturn, 1) := by decide +kernel
theorem dX12_catchesBy_52 : decode cX12_catchesBy 52 = .ok (.iload_n 2, 1) := by decide +kernel
theorem dX12_catchesBy_53 : decode cX12_catchesBy 53 = .ok (.iconst 2, 1) := by decide +kernel
theorem dX12_catchesBy_54 : decode cX12_catchesBy 54 = .ok (.idiv, 1) := by decide +kernel
theorem dX12_catchesBy_55 : decode cX12_catchesBy 55 = .ok (.ireturn, 1) := by decide +kernel
theorem dX12_catchesBy_56 : decode cX12_catchesBy 56 = .ok (.iload_n 3, 1) := by decide +kernel
theorem dX12_catchesBy_57 : decode cX12_catchesBy 57 = .ok (.iconst 2, 1) := by decide +kernel
theorem dX12_catchesBy_58 : decode cX12_catchesBy 58 = .ok (.irem, 1) := by decide +kernel
theorem dX12_catchesBy_59 : decode cX12_catchesBy 59 = .ok (.ifCond .ne 7, 3) := by decide +kernel
theorem dX12_catchesBy_62 : decode cX12_catchesBy 62 = .ok (.iconst 3, 1) := by decide +kernel
theorem dX12_catchesBy_63 : decode cX12_catchesBy 63 = .ok (.goto 4, 3) := by decide +kernel
theorem dX12_catchesBy_66 : decode cX12_catchesBy 66 = .ok (.iconst 2, 1) := by decide +kernel
theorem dX12_catchesBy_67 : decode cX12_catchesBy 67 = .ok (.ireturn, 1) := by decide +kernel
theorem dX12_catchesBy_68 : decode cX12_catchesBy 68 = .ok (.iload_n 3, 1) := by decide +kernel
theorem dX12_catchesBy_69 : decode cX12_catchesBy 69 = .ok (.iconst 3, 1) := by decide +kernel
theorem dX12_catchesBy_70 : decode cX12_catchesBy 70 = .ok (.irem, 1) := by decide +kernel
theorem dX12_catchesBy_71 : decode cX12_catchesBy 71 = .ok (.ifCond .ne 13, 3) := by decide +kernel
theorem dX12_catchesBy_74 : decode cX12_catchesBy 74 = .ok (.iconst 2, 1) := by decide +kernel
theorem dX12_catchesBy_75 : decode cX12_catchesBy 75 = .ok (.iload_n 2, 1) := by decide +kernel
theorem dX12_catchesBy_76 : decode cX12_catchesBy 76 = .ok (.iload_n 1, 1) := by decide +kernel
theorem dX12_catchesBy_77 : decode cX12_catchesBy 77 = .ok (.iconst 3, 1) := by decide +kernel
theorem dX12_catchesBy_78 : decode cX12_catchesBy 78 = .ok (.idiv, 1) := by decide +kernel
theorem dX12_catchesBy_79 : decode cX12_catchesBy 79 = .ok (.iadd, 1) := by decide +kernel
theorem dX12_catchesBy_80 : decode cX12_catchesBy 80 = .ok (.imul, 1) := by decide +kernel
theorem dX12_catchesBy_81 : decode cX12_catchesBy 81 = .ok (.goto 4, 3) := by decide +kernel
theorem dX12_catchesBy_84 : decode cX12_catchesBy 84 = .ok (.iconst 0, 1) := by decide +kernel
theorem dX12_catchesBy_85 : decode cX12_catchesBy 85 = .ok (.ireturn, 1) := by decide +kernel
theorem dX12_catchesBy_86 : decode cX12_catchesBy 86 = .ok (.iconst 1, 1) := by decide +kernel
theorem dX12_catchesBy_87 : decode cX12_catchesBy 87 = .ok (.ireturn, 1) := by decide +kernel
theorem dX12_catchesBy_88 : decode cX12_catchesBy 88 = .ok (.iload_n 2, 1) := by decide +kernel
theorem dX12_catchesBy_89 : decode cX12_catchesBy 89 = .ok (.ireturn, 1) := by decide +kernel
set_option maxRecDepth 20000 in
theorem ggX12_owesBy_X12_lessBy : GoodIn wsX12_owesBy wsX12_lessBy := goodIn_r _ [4] (by decide +kernel) (by decide +kernel)
set_option maxRecDepth 20000 in
theorem gX12_owesBy_X12_lessBy : GoodIn wsX12_owesBy (va_wsS RX12 55 yX12_lessBy wsX12_lessBy) := goodIn_app (goodIn_of _ (by decide +kernel)) ggX12_owesBy_X12_lessBy
theorem dX12_owesBy_0 : decode cX12_owesBy 0 = .ok (.iload_n 0, 1) := by decide +kernel
theorem dX12_owesBy_1 : decode cX12_owesBy 1 = .ok (.tableswitch 82 1 7 #[43, 46, 53, 61, 43, 70, 80], 43) := by decide +kernel
theorem dX12_owesBy_44 : decode cX12_owesBy 44 = .ok (.bipush 11, 2) := by decide +kernel
theorem dX12_owesBy_46 : decode cX12_owesBy 46 = .ok (.ireturn, 1) := by decide +kernel
theorem dX12_owesBy_47 : decode cX12_owesBy 47 = .ok (.bipush 8, 2) := by decide +kernel
theorem dX12_owesBy_49 : decode cX12_owesBy 49 = .ok (.iload_n 1, 1) := by decide +kernel
theorem dX12_owesBy_50 : decode cX12_owesBy 50 = .ok (.invokestatic 55, 3) := by decide +kernel
theorem dX12_owesBy_53 : decode cX12_owesBy 53 = .ok (.ireturn, 1) := by decide +kernel
theorem dX12_owesBy_54 : decode cX12_owesBy 54 = .ok (.bipush 8, 2) := by decide +kernel
theorem dX12_owesBy_56 : decode cX12_owesBy 56 = .ok (.iload_n 2, 1) := by decide +kernel
theorem dX12_owesBy_57 : decode cX12_owesBy 57 = .ok (.bipush 10, 2) := by decide +kernel
theorem dX12_owesBy_59 : decode cX12_owesBy 59 = .ok (.idiv, 1) := by decide +kernel
theorem dX12_owesBy_60 : decode cX12_owesBy 60 = .ok (.iadd, 1) := by decide +kernel
theorem dX12_owesBy_61 : decode cX12_owesBy 61 = .ok (.ireturn, 1) := by decide +kernel
theorem dX12_owesBy_62 : decode cX12_owesBy 62 = .ok (.bipush 8, 2) := by decide +kernel
theorem dX12_owesBy_64 : decode cX12_owesBy 64 = .ok (.iload_n 1, 1) := by decide +kernel
theorem dX12_owesBy_65 : decode cX12_owesBy 65 = .ok (.invokestatic 55, 3) := by decide +kernel
theorem dX12_owesBy_68 : decode cX12_owesBy 68 = .ok (.iconst 2, 1) := by decide +kernel
theorem dX12_owesBy_69 : decode cX12_owesBy 69 = .ok (.idiv, 1) := by decide +kernel
theorem dX12_owesBy_70 : decode cX12_owesBy 70 = .ok (.ireturn, 1) := by decide +kernel
theorem dX12_owesBy_71 : decode cX12_owesBy 71 = .ok (.bipush 8, 2) := by decide +kernel
theorem dX12_owesBy_73 : decode cX12_owesBy 73 = .ok (.iload_n 2, 1) := by decide +kernel
theorem dX12_owesBy_74 : decode cX12_owesBy 74 = .ok (.bipush 10, 2) := by decide +kernel
theorem dX12_owesBy_76 : decode cX12_owesBy 76 = .ok (.idiv, 1) := by decide +kernel
theorem dX12_owesBy_77 : decode cX12_owesBy 77 = .ok (.iadd, 1) := by decide +kernel
theorem dX12_owesBy_78 : decode cX12_owesBy 78 = .ok (.iconst 2, 1) := by decide +kernel
theorem dX12_owesBy_79 : decode cX12_owesBy 79 = .ok (.idiv, 1) := by decide +kernel
theorem dX12_owesBy_80 : decode cX12_owesBy 80 = .ok (.ireturn, 1) := by decide +kernel
theorem dX12_owesBy_81 : decode cX12_owesBy 81 = .ok (.iconst 0, 1) := by decide +kernel
theorem dX12_owesBy_82 : decode cX12_owesBy 82 = .ok (.ireturn, 1) := by decide +kernel
theorem dX12_owesBy_83 : decode cX12_owesBy 83 = .ok (.bipush 8, 2) := by decide +kernel
theorem dX12_owesBy_85 : decode cX12_owesBy 85 = .ok (.ireturn, 1) := by decide +kernel
set_option maxRecDepth 20000 in
theorem ggX12_owes_X12_of : GoodIn wsX12_owes wsX12_of := goodIn_r _ [4] (by decide +kernel) (by decide +kernel)
set_option maxRecDepth 20000 in
theorem gX12_owes_X12_of : GoodIn wsX12_owes (va_wsS RX12 51 yX12_of wsX12_of) := goodIn_app (goodIn_of _ (by decide +kernel)) ggX12_owes_X12_of
set_option maxRecDepth 20000 in
theorem ggX12_owes_X12_owesBy : GoodIn wsX12_owes wsX12_owesBy := goodIn_r _ [7, 8, 9, 3, 10] (by decide +kernel) (by decide +kernel)
set_option maxRecDepth 20000 in
theorem gX12_owes_X12_owesBy : GoodIn wsX12_owes (va_wsS RX12 58 yX12_owesBy wsX12_owesBy) := goodIn_app (goodIn_of _ (by decide +kernel)) ggX12_owes_X12_owesBy
theorem dX12_owes_0 : decode cX12_owes 0 = .ok (.aload_n 0, 1) := by decide +kernel
theorem dX12_owes_1 : decode cX12_owes 1 = .ok (.iload_n 1, 1) := by decide +kernel
theorem dX12_owes_2 : decode cX12_owes 2 = .ok (.iconst 0, 1) := by decide +kernel
theorem dX12_owes_3 : decode cX12_owes 3 = .ok (.invokestatic 51, 3) := by decide +kernel
theorem dX12_owes_6 : decode cX12_owes 6 = .ok (.iaload, 1) := by decide +kernel
theorem dX12_owes_7 : decode cX12_owes 7 = .ok (.aload_n 0, 1) := by decide +kernel
theorem dX12_owes_8 : decode cX12_owes 8 = .ok (.iload_n 1, 1) := by decide +kernel
theorem dX12_owes_9 : decode cX12_owes 9 = .ok (.iconst 1, 1) := by decide +kernel
theorem dX12_owes_10 : decode cX12_owes 10 = .ok (.invokestatic 51, 3) := by decide +kernel
theorem dX12_owes_13 : decode cX12_owes 13 = .ok (.iaload, 1) := by decide +kernel
theorem dX12_owes_14 : decode cX12_owes 14 = .ok (.aload_n 0, 1) := by decide +kernel
theorem dX12_owes_15 : decode cX12_owes 15 = .ok (.iconst 3, 1) := by decide +kernel
theorem dX12_owes_16 : decode cX12_owes 16 = .ok (.iaload, 1) := by decide +kernel
theorem dX12_owes_17 : decode cX12_owes 17 = .ok (.invokestatic 58, 3) := by decide +kernel
theorem dX12_owes_20 : decode cX12_owes 20 = .ok (.ireturn, 1) := by decide +kernel
set_option maxRecDepth 20000 in
theorem ggX12_catches_X12_of : GoodIn wsX12_catches wsX12_of := goodIn_r _ [4] (by decide +kernel) (by decide +kernel)
set_option maxRecDepth 20000 in
theorem gX12_catches_X12_of : GoodIn wsX12_catches (va_wsS RX12 51 yX12_of wsX12_of) := goodIn_app (goodIn_of _ (by decide +kernel)) ggX12_catches_X12_of
set_option maxRecDepth 20000 in
theorem ggX12_catches_X12_catchesBy : GoodIn wsX12_catches wsX12_catchesBy := goodIn_r _ [7] (by decide +kernel) (by decide +kernel)
set_option maxRecDepth 20000 in
theorem gX12_catches_X12_catchesBy : GoodIn wsX12_catches (va_wsS RX12 62 yX12_catchesBy wsX12_catchesBy) := goodIn_app (goodIn_of _ (by decide +kernel)) ggX12_catches_X12_catchesBy
theorem dX12_catches_0 : decode cX12_catches 0 = .ok (.aload_n 0, 1) := by decide +kernel
theorem dX12_catches_1 : decode cX12_catches 1 = .ok (.iload_n 1, 1) := by decide +kernel
theorem dX12_catches_2 : decode cX12_catches 2 = .ok (.iconst 0, 1) := by decide +kernel
theorem dX12_catches_3 : decode cX12_catches 3 = .ok (.invokestatic 51, 3) := by decide +kernel
theorem dX12_catches_6 : decode cX12_catches 6 = .ok (.iaload, 1) := by decide +kernel
theorem dX12_catches_7 : decode cX12_catches 7 = .ok (.aload_n 0, 1) := by decide +kernel
theorem dX12_catches_8 : decode cX12_catches 8 = .ok (.iload_n 1, 1) := by decide +kernel
theorem dX12_catches_9 : decode cX12_catches 9 = .ok (.iconst 1, 1) := by decide +kernel
theorem dX12_catches_10 : decode cX12_catches 10 = .ok (.invokestatic 51, 3) := by decide +kernel
theorem dX12_catches_13 : decode cX12_catches 13 = .ok (.iaload, 1) := by decide +kernel
theorem dX12_catches_14 : decode cX12_catches 14 = .ok (.iload_n 2, 1) := by decide +kernel
theorem dX12_catches_15 : decode cX12_catches 15 = .ok (.iload_n 3, 1) := by decide +kernel
theorem dX12_catches_16 : decode cX12_catches 16 = .ok (.invokestatic 62, 3) := by decide +kernel
theorem dX12_catches_19 : decode cX12_catches 19 = .ok (.ireturn, 1) := by decide +kernel
set_option maxRecDepth 20000 in
theorem ggX12_wanted_X12_isHere : GoodIn wsX12_wanted wsX12_isHere := goodIn_r _ [4, 5, 6, 3, 7] (by decide +kernel) (by decide +kernel)
set_option maxRecDepth 20000 in
theorem gX12_wanted_X12_isHere : GoodIn wsX12_wanted (va_wsS RX12 66 yX12_isHere wsX12_isHere) := goodIn_app (goodIn_of _ (by decide +kernel)) ggX12_wanted_X12_isHere
set_option maxRecDepth 20000 in
theorem ggX12_wanted_X12_of : GoodIn wsX12_wanted wsX12_of := goodIn_r _ [7] (by decide +kernel) (by decide +kernel)
set_option maxRecDepth 20000 in
theorem gX12_wanted_X12_of : GoodIn wsX12_wanted (va_wsS RX12 51 yX12_of wsX12_of) := goodIn_app (goodIn_of _ (by decide +kernel)) ggX12_wanted_X12_of
set_option maxRecDepth 20000 in
theorem ggX12_wanted_X12_lessBy : GoodIn wsX12_wanted wsX12_lessBy := goodIn_r _ [10] (by decide +kernel) (by decide +kernel)
set_option maxRecDepth 20000 in
theorem gX12_wanted_X12_lessBy : GoodIn wsX12_wanted (va_wsS RX12 55 yX12_lessBy wsX12_lessBy) := goodIn_app (goodIn_of _ (by decide +kernel)) ggX12_wanted_X12_lessBy
theorem dX12_wanted_0 : decode cX12_wanted 0 = .ok (.iload_n 1, 1) := by decide +kernel
theorem dX12_wanted_1 : decode cX12_wanted 1 = .ok (.istore_n 2, 1) := by decide +kernel
theorem dX12_wanted_2 : decode cX12_wanted 2 = .ok (.iconst 0, 1) := by decide +kernel
theorem dX12_wanted_3 : decode cX12_wanted 3 = .ok (.istore_n 3, 1) := by decide +kernel
theorem dX12_wanted_4 : decode cX12_wanted 4 = .ok (.iload_n 3, 1) := by decide +kernel
theorem dX12_wanted_5 : decode cX12_wanted 5 = .ok (.aload_n 0, 1) := by decide +kernel
theorem dX12_wanted_6 : decode cX12_wanted 6 = .ok (.iconst 0, 1) := by decide +kernel
theorem dX12_wanted_7 : decode cX12_wanted 7 = .ok (.iaload, 1) := by decide +kernel
theorem dX12_wanted_8 : decode cX12_wanted 8 = .ok (.if_icmp .ge 55, 3) := by decide +kernel
theorem dX12_wanted_11 : decode cX12_wanted 11 = .ok (.iload_n 2, 1) := by decide +kernel
theorem dX12_wanted_12 : decode cX12_wanted 12 = .ok (.aload_n 0, 1) := by decide +kernel
theorem dX12_wanted_13 : decode cX12_wanted 13 = .ok (.iload_n 3, 1) := by decide +kernel
theorem dX12_wanted_14 : decode cX12_wanted 14 = .ok (.invokestatic 66, 3) := by decide +kernel
theorem dX12_wanted_17 : decode cX12_wanted 17 = .ok (.ifCond .ne 7, 3) := by decide +kernel
theorem dX12_wanted_20 : decode cX12_wanted 20 = .ok (.iconst 0, 1) := by decide +kernel
theorem dX12_wanted_21 : decode cX12_wanted 21 = .ok (.goto 34, 3) := by decide +kernel
theorem dX12_wanted_24 : decode cX12_wanted 24 = .ok (.aload_n 0, 1) := by decide +kernel
theorem dX12_wanted_25 : decode cX12_wanted 25 = .ok (.iload_n 3, 1) := by decide +kernel
theorem dX12_wanted_26 : decode cX12_wanted 26 = .ok (.iconst 0, 1) := by decide +kernel
theorem dX12_wanted_27 : decode cX12_wanted 27 = .ok (.invokestatic 51, 3) := by decide +kernel
theorem dX12_wanted_30 : decode cX12_wanted 30 = .ok (.iaload, 1) := by decide +kernel
theorem dX12_wanted_31 : decode cX12_wanted 31 = .ok (.iconst 1, 1) := by decide +kernel
theorem dX12_wanted_32 : decode cX12_wanted 32 = .ok (.if_icmp .ne 7, 3) := by decide +kernel
theorem dX12_wanted_35 : decode cX12_wanted 35 = .ok (.iconst 1, 1) := by decide +kernel
theorem dX12_wanted_36 : decode cX12_wanted 36 = .ok (.goto 19, 3) := by decide +kernel
theorem dX12_wanted_39 : decode cX12_wanted 39 = .ok (.aload_n 0, 1) := by decide +kernel
theorem dX12_wanted_40 : decode cX12_wanted 40 = .ok (.iload_n 3, 1) := by decide +kernel
theorem dX12_wanted_41 : decode cX12_wanted 41 = .ok (.iconst 0, 1) := by decide +kernel
theorem dX12_wanted_42 : decode cX12_wanted 42 = .ok (.invokestatic 51, 3) := by decide +kernel
theorem dX12_wanted_45 : decode cX12_wanted 45 = .ok (.iaload, 1) := by decide +kernel
theorem dX12_wanted_46 : decode cX12_wanted 46 = .ok (.iconst 5, 1) := by decide +kernel
theorem dX12_wanted_47 : decode cX12_wanted 47 = .ok (.if_icmp .ne 7, 3) := by decide +kernel
theorem dX12_wanted_50 : decode cX12_wanted 50 = .ok (.iconst 2, 1) := by decide +kernel
theorem dX12_wanted_51 : decode cX12_wanted 51 = .ok (.goto 4, 3) := by decide +kernel
theorem dX12_wanted_54 : decode cX12_wanted 54 = .ok (.iconst 0, 1) := by decide +kernel
theorem dX12_wanted_55 : decode cX12_wanted 55 = .ok (.isub, 1) := by decide +kernel
theorem dX12_wanted_56 : decode cX12_wanted 56 = .ok (.istore_n 2, 1) := by decide +kernel
theorem dX12_wanted_57 : decode cX12_wanted 57 = .ok (.iinc 3 1, 3) := by decide +kernel
theorem dX12_wanted_60 : decode cX12_wanted 60 = .ok (.goto (-56), 3) := by decide +kernel
theorem dX12_wanted_63 : decode cX12_wanted 63 = .ok (.aload_n 0, 1) := by decide +kernel
theorem dX12_wanted_64 : decode cX12_wanted 64 = .ok (.iconst 3, 1) := by decide +kernel
theorem dX12_wanted_65 : decode cX12_wanted 65 = .ok (.iaload, 1) := by decide +kernel
theorem dX12_wanted_66 : decode cX12_wanted 66 = .ok (.iconst 5, 1) := by decide +kernel
theorem dX12_wanted_67 : decode cX12_wanted 67 = .ok (.iload_n 2, 1) := by decide +kernel
theorem dX12_wanted_68 : decode cX12_wanted 68 = .ok (.ifCond .ge 7, 3) := by decide +kernel
theorem dX12_wanted_71 : decode cX12_wanted 71 = .ok (.iconst 0, 1) := by decide +kernel
theorem dX12_wanted_72 : decode cX12_wanted 72 = .ok (.goto 4, 3) := by decide +kernel
theorem dX12_wanted_75 : decode cX12_wanted 75 = .ok (.iload_n 2, 1) := by decide +kernel
theorem dX12_wanted_76 : decode cX12_wanted 76 = .ok (.imul, 1) := by decide +kernel
theorem dX12_wanted_77 : decode cX12_wanted 77 = .ok (.invokestatic 55, 3) := by decide +kernel
theorem dX12_wanted_80 : decode cX12_wanted 80 = .ok (.ireturn, 1) := by decide +kernel
set_option maxRecDepth 20000 in
theorem ggX12_rentDay_X12_wanted : GoodIn wsX12_rentDay wsX12_wanted := goodIn_r _ [4, 5, 6, 3, 7, 8, 9, 10, 11, 12, 13] (by decide +kernel) (by decide +kernel)
set_option maxRecDepth 20000 in
theorem gX12_rentDay_X12_wanted : GoodIn wsX12_rentDay (va_wsS RX12 70 yX12_wanted wsX12_wanted) := goodIn_app (goodIn_of _ (by decide +kernel)) ggX12_rentDay_X12_wanted
set_option maxRecDepth 20000 in
theorem ggX12_rentDay_X12_isHere : GoodIn wsX12_rentDay wsX12_isHere := goodIn_r _ [7, 8, 9, 3, 10] (by decide +kernel) (by decide +kernel)
set_option maxRecDepth 20000 in
theorem gX12_rentDay_X12_isHere : GoodIn wsX12_rentDay (va_wsS RX12 66 yX12_isHere wsX12_isHere) := goodIn_app (goodIn_of _ (by decide +kernel)) ggX12_rentDay_X12_isHere
set_option maxRecDepth 20000 in
theorem ggX12_rentDay_X12_owes : GoodIn wsX12_rentDay wsX12_owes := goodIn_r _ [16, 8, 9, 3, 10, 17, 18, 19, 11, 12, 13] (by decide +kernel) (by decide +kernel)
set_option maxRecDepth 20000 in
theorem gX12_rentDay_X12_owes : GoodIn wsX12_rentDay (va_wsS RX12 74 yX12_owes wsX12_owes) := goodIn_app (goodIn_of _ (by decide +kernel)) ggX12_rentDay_X12_owes
set_option maxRecDepth 20000 in
theorem ggX12_rentDay_X12_of : GoodIn wsX12_rentDay wsX12_of := goodIn_r _ [10] (by decide +kernel) (by decide +kernel)
set_option maxRecDepth 20000 in
theorem gX12_rentDay_X12_of : GoodIn wsX12_rentDay (va_wsS RX12 51 yX12_of wsX12_of) := goodIn_app (goodIn_of _ (by decide +kernel)) ggX12_rentDay_X12_of
set_option maxRecDepth 20000 in
theorem ggX12_rentDay_X12_least : GoodIn wsX12_rentDay wsX12_least := goodIn_r _ [22] (by decide +kernel) (by decide +kernel)
set_option maxRecDepth 20000 in
theorem gX12_rentDay_X12_least : GoodIn wsX12_rentDay (va_wsS RX12 77 yX12_least wsX12_least) := goodIn_app (goodIn_of _ (by decide +kernel)) ggX12_rentDay_X12_least
theorem dX12_rentDay_0 : decode cX12_rentDay 0 = .ok (.aload_n 0, 1) := by decide +kernel
theorem dX12_rentDay_1 : decode cX12_rentDay 1 = .ok (.iload_n 1, 1) := by decide +kernel
theorem dX12_rentDay_2 : decode cX12_rentDay 2 = .ok (.invokestatic 70, 3) := by decide +kernel
theorem dX12_rentDay_5 : decode cX12_rentDay 5 = .ok (.istore_n 2, 1) := by decide +kernel
theorem dX12_rentDay_6 : decode cX12_rentDay 6 = .ok (.iconst 0, 1) := by decide +kernel
theorem dX12_rentDay_7 : decode cX12_rentDay 7 = .ok (.istore_n 3, 1) := by decide +kernel
theorem dX12_rentDay_8 : decode cX12_rentDay 8 = .ok (.iconst 0, 1) := by decide +kernel
theorem dX12_rentDay_9 : decode cX12_rentDay 9 = .ok (.istore 4, 2) := by decide +kernel
theorem dX12_rentDay_11 : decode cX12_rentDay 11 = .ok (.iload 4, 2) := by decide +kernel
theorem dX12_rentDay_13 : decode cX12_rentDay 13 = .ok (.aload_n 0, 1) := by decide +kernel
theorem dX12_rentDay_14 : decode cX12_rentDay 14 = .ok (.iconst 0, 1) := by decide +kernel
theorem dX12_rentDay_15 : decode cX12_rentDay 15 = .ok (.iaload, 1) := by decide +kernel
theorem dX12_rentDay_16 : decode cX12_rentDay 16 = .ok (.if_icmp .ge 158, 3) := by decide +kernel
theorem dX12_rentDay_19 : decode cX12_rentDay 19 = .ok (.aload_n 0, 1) := by decide +kernel
theorem dX12_rentDay_20 : decode cX12_rentDay 20 = .ok (.iload 4, 2) := by decide +kernel
theorem dX12_rentDay_22 : decode cX12_rentDay 22 = .ok (.invokestatic 66, 3) := by decide +kernel
theorem dX12_rentDay_25 : decode cX12_rentDay 25 = .ok (.ifCond .ne 6, 3) := by decide +kernel
theorem dX12_rentDay_28 : decode cX12_rentDay 28 = .ok (.goto 140, 3) := by decide +kernel
theorem dX12_rentDay_31 : decode cX12_rentDay 31 = .ok (.aload_n 0, 1) := by decide +kernel
theorem dX12_rentDay_32 : decode cX12_rentDay 32 = .ok (.iload 4, 2) := by decide +kernel
theorem dX12_rentDay_34 : decode cX12_rentDay 34 = .ok (.invokestatic 74, 3) := by decide +kernel
theorem dX12_rentDay_37 : decode cX12_rentDay 37 = .ok (.istore 5, 2) := by decide +kernel
theorem dX12_rentDay_39 : decode cX12_rentDay 39 = .ok (.aload_n 0, 1) := by decide +kernel
theorem dX12_rentDay_40 : decode cX12_rentDay 40 = .ok (.iload 4, 2) := by decide +kernel
theorem dX12_rentDay_42 : decode cX12_rentDay 42 = .ok (.iconst 2, 1) := by decide +kernel
theorem dX12_rentDay_43 : decode cX12_rentDay 43 = .ok (.invokestatic 51, 3) := by decide +kernel
theorem dX12_rentDay_46 : decode cX12_rentDay 46 = .ok (.iaload, 1) := by decide +kernel
theorem dX12_rentDay_47 : decode cX12_rentDay 47 = .ok (.iload 5, 2) := by decide +kernel
theorem dX12_rentDay_49 : decode cX12_rentDay 49 = .ok (.if_icmp .lt 7, 3) := by decide +kernel
theorem dX12_rentDay_52 : decode cX12_rentDay 52 = .ok (.iconst 1, 1) := by decide +kernel
theorem dX12_rentDay_53 : decode cX12_rentDay 53 = .ok (.goto 4, 3) := by decide +kernel
theorem dX12_rentDay_56 : decode cX12_rentDay 56 = .ok (.iconst 0, 1) := by decide +kernel
theorem dX12_rentDay_57 : decode cX12_rentDay 57 = .ok (.istore 6, 2) := by decide +kernel
theorem dX12_rentDay_59 : decode cX12_rentDay 59 = .ok (.iload 6, 2) := by decide +kernel
theorem dX12_rentDay_61 : decode cX12_rentDay 61 = .ok (.ifCond .eq 13, 3) := by decide +kernel
theorem dX12_rentDay_64 : decode cX12_rentDay 64 = .ok (.iload 5, 2) := by decide +kernel
theorem dX12_rentDay_66 : decode cX12_rentDay 66 = .ok (.iload_n 2, 1) := by decide +kernel
theorem dX12_rentDay_67 : decode cX12_rentDay 67 = .ok (.if_icmp .gt 7, 3) := by decide +kernel
theorem dX12_rentDay_70 : decode cX12_rentDay 70 = .ok (.iconst 1, 1) := by decide +kernel
theorem dX12_rentDay_71 : decode cX12_rentDay 71 = .ok (.goto 4, 3) := by decide +kernel
theorem dX12_rentDay_74 : decode cX12_rentDay 74 = .ok (.iconst 0, 1) := by decide +kernel
theorem dX12_rentDay_75 : decode cX12_rentDay 75 = .ok (.istore 7, 2) := by decide +kernel
theorem dX12_rentDay_77 : decode cX12_rentDay 77 = .ok (.iload 6, 2) := by decide +kernel
theorem dX12_rentDay_79 : decode cX12_rentDay 79 = .ok (.ifCond .eq 25, 3) := by decide +kernel
theorem dX12_rentDay_82 : decode cX12_rentDay 82 = .ok (.aload_n 0, 1) := by decide +kernel
theorem dX12_rentDay_83 : decode cX12_rentDay 83 = .ok (.iload 4, 2) := by decide +kernel
theorem dX12_rentDay_85 : decode cX12_rentDay 85 = .ok (.iconst 2, 1) := by decide +kernel
theorem dX12_rentDay_86 : decode cX12_rentDay 86 = .ok (.invokestatic 51, 3) := by decide +kernel
theorem dX12_rentDay_89 : decode cX12_rentDay 89 = .ok (.dup2, 1) := by decide +kernel
theorem dX12_rentDay_90 : decode cX12_rentDay 90 = .ok (.iaload, 1) := by decide +kernel
theorem dX12_rentDay_91 : decode cX12_rentDay 91 = .ok (.iload 5, 2) := by decide +kernel
theorem dX12_rentDay_93 : decode cX12_rentDay 93 = .ok (.isub, 1) := by decide +kernel
theorem dX12_rentDay_94 : decode cX12_rentDay 94 = .ok (.iastore, 1) := by decide +kernel
theorem dX12_rentDay_95 : decode cX12_rentDay 95 = .ok (.iload_n 2, 1) := by decide +kernel
theorem dX12_rentDay_96 : decode cX12_rentDay 96 = .ok (.iload 5, 2) := by decide +kernel
theorem dX12_rentDay_98 : decode cX12_rentDay 98 = .ok (.iload_n 2, 1) := by decide +kernel
theorem dX12_rentDay_99 : decode cX12_rentDay 99 = .ok (.invokestatic 77, 3) := by decide +kernel
theorem dX12_rentDay_102 : decode cX12_rentDay 102 = .ok (.isub, 1) := by decide +kernel
theorem dX12_rentDay_103 : decode cX12_rentDay 103 = .ok (.istore_n 2, 1) := by decide +kernel
theorem dX12_rentDay_104 : decode cX12_rentDay 104 = .ok (.aload_n 0, 1) := by decide +kernel
theorem dX12_rentDay_105 : decode cX12_rentDay 105 = .ok (.iload 4, 2) := by decide +kernel
theorem dX12_rentDay_107 : decode cX12_rentDay 107 = .ok (.iconst 3, 1) := by decide +kernel
theorem dX12_rentDay_108 : decode cX12_rentDay 108 = .ok (.invokestatic 51, 3) := by decide +kernel
theorem dX12_rentDay_111 : decode cX12_rentDay 111 = .ok (.iload 7, 2) := by decide +kernel
theorem dX12_rentDay_113 : decode cX12_rentDay 113 = .ok (.ifCond .eq 7, 3) := by decide +kernel
theorem dX12_rentDay_116 : decode cX12_rentDay 116 = .ok (.iconst 0, 1) := by decide +kernel
theorem dX12_rentDay_117 : decode cX12_rentDay 117 = .ok (.goto 13, 3) := by decide +kernel
theorem dX12_rentDay_120 : decode cX12_rentDay 120 = .ok (.aload_n 0, 1) := by decide +kernel
theorem dX12_rentDay_121 : decode cX12_rentDay 121 = .ok (.iload 4, 2) := by decide +kernel
theorem dX12_rentDay_123 : decode cX12_rentDay 123 = .ok (.iconst 3, 1) := by decide +kernel
theorem dX12_rentDay_124 : decode cX12_rentDay 124 = .ok (.invokestatic 51, 3) := by decide +kernel
theorem dX12_rentDay_127 : decode cX12_rentDay 127 = .ok (.iaload, 1) := by decide +kernel
theorem dX12_rentDay_128 : decode cX12_rentDay 128 = .ok (.iconst 1, 1) := by decide +kernel
theorem dX12_rentDay_129 : decode cX12_rentDay 129 = .ok (.iadd, 1) := by decide +kernel
theorem dX12_rentDay_130 : decode cX12_rentDay 130 = .ok (.iastore, 1) := by decide +kernel
theorem dX12_rentDay_131 : decode cX12_rentDay 131 = .ok (.iload_n 3, 1) := by decide +kernel
theorem dX12_rentDay_132 : decode cX12_rentDay 132 = .ok (.iload 7, 2) := by decide +kernel
theorem dX12_rentDay_134 : decode cX12_rentDay 134 = .ok (.ifCond .eq 7, 3) := by decide +kernel
theorem dX12_rentDay_137 : decode cX12_rentDay 137 = .ok (.iconst 0, 1) := by decide +kernel
theorem dX12_rentDay_138 : decode cX12_rentDay 138 = .ok (.goto 7, 3) := by decide +kernel
theorem dX12_rentDay_141 : decode cX12_rentDay 141 = .ok (.iconst 1, 1) := by decide +kernel
theorem dX12_rentDay_142 : decode cX12_rentDay 142 = .ok (.iload 4, 2) := by decide +kernel
theorem dX12_rentDay_144 : decode cX12_rentDay 144 = .ok (.ishl, 1) := by decide +kernel
theorem dX12_rentDay_145 : decode cX12_rentDay 145 = .ok (.ior, 1) := by decide +kernel
theorem dX12_rentDay_146 : decode cX12_rentDay 146 = .ok (.istore_n 3, 1) := by decide +kernel
theorem dX12_rentDay_147 : decode cX12_rentDay 147 = .ok (.aload_n 0, 1) := by decide +kernel
theorem dX12_rentDay_148 : decode cX12_rentDay 148 = .ok (.iload 4, 2) := by decide +kernel
theorem dX12_rentDay_150 : decode cX12_rentDay 150 = .ok (.iconst 3, 1) := by decide +kernel
theorem dX12_rentDay_151 : decode cX12_rentDay 151 = .ok (.invokestatic 51, 3) := by decide +kernel
theorem dX12_rentDay_154 : decode cX12_rentDay 154 = .ok (.iaload, 1) := by decide +kernel
theorem dX12_rentDay_155 : decode cX12_rentDay 155 = .ok (.iconst 2, 1) := by decide +kernel
theorem dX12_rentDay_156 : decode cX12_rentDay 156 = .ok (.if_icmp .lt 12, 3) := by decide +kernel
theorem dX12_rentDay_159 : decode cX12_rentDay 159 = .ok (.aload_n 0, 1) := by decide +kernel
theorem dX12_rentDay_160 : decode cX12_rentDay 160 = .ok (.iload 4, 2) := by decide +kernel
theorem dX12_rentDay_162 : decode cX12_rentDay 162 = .ok (.iconst 4, 1) := by decide +kernel
theorem dX12_rentDay_163 : decode cX12_rentDay 163 = .ok (.invokestatic 51, 3) := by decide +kernel
theorem dX12_rentDay_166 : decode cX12_rentDay 166 = .ok (.iconst 0, 1) := by decide +kernel
theorem dX12_rentDay_167 : decode cX12_rentDay 167 = .ok (.iastore, 1) := by decide +kernel
theorem dX12_rentDay_168 : decode cX12_rentDay 168 = .ok (.iinc 4 1, 3) := by decide +kernel
theorem dX12_rentDay_171 : decode cX12_rentDay 171 = .ok (.goto (-160), 3) := by decide +kernel
theorem dX12_rentDay_174 : decode cX12_rentDay 174 = .ok (.iload_n 3, 1) := by decide +kernel
theorem dX12_rentDay_175 : decode cX12_rentDay 175 = .ok (.ireturn, 1) := by decide +kernel
set_option maxRecDepth 20000 in
theorem ggX12_day_X12_isHere : GoodIn wsX12_day wsX12_isHere := goodIn_r _ [4, 5, 6, 3, 7] (by decide +kernel) (by decide +kernel)
set_option maxRecDepth 20000 in
theorem gX12_day_X12_isHere : GoodIn wsX12_day (va_wsS RX12 66 yX12_isHere wsX12_isHere) := goodIn_app (goodIn_of _ (by decide +kernel)) ggX12_day_X12_isHere
set_option maxRecDepth 20000 in
theorem ggX12_day_X12_of : GoodIn wsX12_day wsX12_of := goodIn_r _ [7] (by decide +kernel) (by decide +kernel)
set_option maxRecDepth 20000 in
theorem gX12_day_X12_of : GoodIn wsX12_day (va_wsS RX12 51 yX12_of wsX12_of) := goodIn_app (goodIn_of _ (by decide +kernel)) ggX12_day_X12_of
set_option maxRecDepth 20000 in
theorem ggX12_day_X12_catches : GoodIn wsX12_day wsX12_catches := goodIn_r _ [10, 5, 6, 3, 7, 11, 12, 13] (by decide +kernel) (by decide +kernel)
set_option maxRecDepth 20000 in
theorem gX12_day_X12_catches : GoodIn wsX12_day (va_wsS RX12 80 yX12_catches wsX12_catches) := goodIn_app (goodIn_of _ (by decide +kernel)) ggX12_day_X12_catches
set_option maxRecDepth 20000 in
theorem ggX12_day_X12_least : GoodIn wsX12_day wsX12_least := goodIn_r _ [16] (by decide +kernel) (by decide +kernel)
set_option maxRecDepth 20000 in
theorem gX12_day_X12_least : GoodIn wsX12_day (va_wsS RX12 77 yX12_least wsX12_least) := goodIn_app (goodIn_of _ (by decide +kernel)) ggX12_day_X12_least
set_option maxRecDepth 20000 in
theorem ggX12_day_X12_lessBy : GoodIn wsX12_day wsX12_lessBy := goodIn_r _ [19] (by decide +kernel) (by decide +kernel)
set_option maxRecDepth 20000 in
theorem gX12_day_X12_lessBy : GoodIn wsX12_day (va_wsS RX12 55 yX12_lessBy wsX12_lessBy) := goodIn_app (goodIn_of _ (by decide +kernel)) ggX12_day_X12_lessBy
set_option maxRecDepth 20000 in
theorem ggX12_day_X12_rentDay : GoodIn wsX12_day wsX12_rentDay := goodIn_r _ [22, 23, 24, 3, 25, 1, 2, 4, 5, 6, 7, 17, 18, 19, 26, 27, 28, 29, 30, 31, 14, 15, 16] (by decide +kernel) (by decide +kernel)
set_option maxRecDepth 20000 in
theorem gX12_day_X12_rentDay : GoodIn wsX12_day (va_wsS RX12 84 yX12_rentDay wsX12_rentDay) := goodIn_app (goodIn_of _ (by decide +kernel)) ggX12_day_X12_rentDay
theorem dX12_day_0 : decode cX12_day 0 = .ok (.aload_n 0, 1) := by decide +kernel
theorem dX12_day_1 : decode cX12_day 1 = .ok (.iconst 1, 1) := by decide +kernel
theorem dX12_day_2 : decode cX12_day 2 = .ok (.dup2, 1) := by decide +kernel
theorem dX12_day_3 : decode cX12_day 3 = .ok (.iaload, 1) := by decide +kernel
theorem dX12_day_4 : decode cX12_day 4 = .ok (.iconst 1, 1) := by decide +kernel
theorem dX12_day_5 : decode cX12_day 5 = .ok (.iadd, 1) := by decide +kernel
theorem dX12_day_6 : decode cX12_day 6 = .ok (.iastore, 1) := by decide +kernel
theorem dX12_day_7 : decode cX12_day 7 = .ok (.iconst 0, 1) := by decide +kernel
theorem dX12_day_8 : decode cX12_day 8 = .ok (.istore_n 2, 1) := by decide +kernel
theorem dX12_day_9 : decode cX12_day 9 = .ok (.iload_n 2, 1) := by decide +kernel
theorem dX12_day_10 : decode cX12_day 10 = .ok (.aload_n 0, 1) := by decide +kernel
theorem dX12_day_11 : decode cX12_day 11 = .ok (.iconst 0, 1) := by decide +kernel
theorem dX12_day_12 : decode cX12_day 12 = .ok (.iaload, 1) := by decide +kernel
theorem dX12_day_13 : decode cX12_day 13 = .ok (.if_icmp .ge 50, 3) := by decide +kernel
theorem dX12_day_16 : decode cX12_day 16 = .ok (.aload_n 0, 1) := by decide +kernel
theorem dX12_day_17 : decode cX12_day 17 = .ok (.iload_n 2, 1) := by decide +kernel
theorem dX12_day_18 : decode cX12_day 18 = .ok (.invokestatic 66, 3) := by decide +kernel
theorem dX12_day_21 : decode cX12_day 21 = .ok (.ifCond .eq 36, 3) := by decide +kernel
theorem dX12_day_24 : decode cX12_day 24 = .ok (.aload_n 0, 1) := by decide +kernel
theorem dX12_day_25 : decode cX12_day 25 = .ok (.iload_n 2, 1) := by decide +kernel
theorem dX12_day_26 : decode cX12_day 26 = .ok (.iconst 2, 1) := by decide +kernel
theorem dX12_day_27 : decode cX12_day 27 = .ok (.invokestatic 51, 3) := by decide +kernel
theorem dX12_day_30 : decode cX12_day 30 = .ok (.bipush 99, 2) := by decide +kernel
theorem dX12_day_32 : decode cX12_day 32 = .ok (.aload_n 0, 1) := by decide +kernel
theorem dX12_day_33 : decode cX12_day 33 = .ok (.iload_n 2, 1) := by decide +kernel
theorem dX12_day_34 : decode cX12_day 34 = .ok (.iconst 2, 1) := by decide +kernel
theorem dX12_day_35 : decode cX12_day 35 = .ok (.invokestatic 51, 3) := by decide +kernel
theorem dX12_day_38 : decode cX12_day 38 = .ok (.iaload, 1) := by decide +kernel
theorem dX12_day_39 : decode cX12_day 39 = .ok (.aload_n 0, 1) := by decide +kernel
theorem dX12_day_40 : decode cX12_day 40 = .ok (.iload_n 2, 1) := by decide +kernel
theorem dX12_day_41 : decode cX12_day 41 = .ok (.iload_n 1, 1) := by decide +kernel
theorem dX12_day_42 : decode cX12_day 42 = .ok (.aload_n 0, 1) := by decide +kernel
theorem dX12_day_43 : decode cX12_day 43 = .ok (.iconst 1, 1) := by decide +kernel
theorem dX12_day_44 : decode cX12_day 44 = .ok (.iaload, 1) := by decide +kernel
theorem dX12_day_45 : decode cX12_day 45 = .ok (.invokestatic 80, 3) := by decide +kernel
theorem dX12_day_48 : decode cX12_day 48 = .ok (.iadd, 1) := by decide +kernel
theorem dX12_day_49 : decode cX12_day 49 = .ok (.invokestatic 77, 3) := by decide +kernel
theorem dX12_day_52 : decode cX12_day 52 = .ok (.iconst 1, 1) := by decide +kernel
theorem dX12_day_53 : decode cX12_day 53 = .ok (.invokestatic 55, 3) := by decide +kernel
theorem dX12_day_56 : decode cX12_day 56 = .ok (.iastore, 1) := by decide +kernel
theorem dX12_day_57 : decode cX12_day 57 = .ok (.iinc 2 1, 3) := by decide +kernel
theorem dX12_day_60 : decode cX12_day 60 = .ok (.goto (-51), 3) := by decide +kernel
theorem dX12_day_63 : decode cX12_day 63 = .ok (.aload_n 0, 1) := by decide +kernel
theorem dX12_day_64 : decode cX12_day 64 = .ok (.iconst 1, 1) := by decide +kernel
theorem dX12_day_65 : decode cX12_day 65 = .ok (.iaload, 1) := by decide +kernel
theorem dX12_day_66 : decode cX12_day 66 = .ok (.bipush 10, 2) := by decide +kernel
theorem dX12_day_68 : decode cX12_day 68 = .ok (.irem, 1) := by decide +kernel
theorem dX12_day_69 : decode cX12_day 69 = .ok (.ifCond .eq 5, 3) := by decide +kernel
theorem dX12_day_72 : decode cX12_day 72 = .ok (.iconst 0, 1) := by decide +kernel
theorem dX12_day_73 : decode cX12_day 73 = .ok (.ireturn, 1) := by decide +kernel
theorem dX12_day_74 : decode cX12_day 74 = .ok (.aload_n 0, 1) := by decide +kernel
theorem dX12_day_75 : decode cX12_day 75 = .ok (.iload_n 1, 1) := by decide +kernel
theorem dX12_day_76 : decode cX12_day 76 = .ok (.invokestatic 84, 3) := by decide +kernel
theorem dX12_day_79 : decode cX12_day 79 = .ok (.istore_n 2, 1) := by decide +kernel
theorem dX12_day_80 : decode cX12_day 80 = .ok (.aload_n 0, 1) := by decide +kernel
theorem dX12_day_81 : decode cX12_day 81 = .ok (.iconst 3, 1) := by decide +kernel
theorem dX12_day_82 : decode cX12_day 82 = .ok (.bipush 99, 2) := by decide +kernel
theorem dX12_day_84 : decode cX12_day 84 = .ok (.aload_n 0, 1) := by decide +kernel
theorem dX12_day_85 : decode cX12_day 85 = .ok (.iconst 3, 1) := by decide +kernel
theorem dX12_day_86 : decode cX12_day 86 = .ok (.iaload, 1) := by decide +kernel
theorem dX12_day_87 : decode cX12_day 87 = .ok (.iload_n 1, 1) := by decide +kernel
theorem dX12_day_88 : decode cX12_day 88 = .ok (.iadd, 1) := by decide +kernel
theorem dX12_day_89 : decode cX12_day 89 = .ok (.iconst 3, 1) := by decide +kernel
theorem dX12_day_90 : decode cX12_day 90 = .ok (.invokestatic 55, 3) := by decide +kernel
theorem dX12_day_93 : decode cX12_day 93 = .ok (.invokestatic 77, 3) := by decide +kernel
theorem dX12_day_96 : decode cX12_day 96 = .ok (.iastore, 1) := by decide +kernel
theorem dX12_day_97 : decode cX12_day 97 = .ok (.iload_n 2, 1) := by decide +kernel
theorem dX12_day_98 : decode cX12_day 98 = .ok (.ireturn, 1) := by decide +kernel
set_option maxRecDepth 20000 in
theorem ggX12_daysOn_X12_day : GoodIn wsX12_daysOn wsX12_day := goodIn_r _ [4, 5, 6, 3, 7, 8, 9, 10, 11, 12, 13, 14, 15, 16, 17, 18, 19, 20, 21, 22, 23, 24, 25, 26, 27, 28, 29, 30, 31, 32, 33, 34] (by decide +kernel) (by decide +kernel)
set_option maxRecDepth 20000 in
theorem gX12_daysOn_X12_day : GoodIn wsX12_daysOn (va_wsS RX12 87 yX12_day wsX12_day) := goodIn_app (goodIn_of _ (by decide +kernel)) ggX12_daysOn_X12_day
theorem dX12_daysOn_0 : decode cX12_daysOn 0 = .ok (.iconst 0, 1) := by decide +kernel
theorem dX12_daysOn_1 : decode cX12_daysOn 1 = .ok (.istore_n 2, 1) := by decide +kernel
theorem dX12_daysOn_2 : decode cX12_daysOn 2 = .ok (.iconst 0, 1) := by decide +kernel
theorem dX12_daysOn_3 : decode cX12_daysOn 3 = .ok (.istore_n 3, 1) := by decide +kernel
theorem dX12_daysOn_4 : decode cX12_daysOn 4 = .ok (.iload_n 3, 1) := by decide +kernel
theorem dX12_daysOn_5 : decode cX12_daysOn 5 = .ok (.iload_n 1, 1) := by decide +kernel
theorem dX12_daysOn_6 : decode cX12_daysOn 6 = .ok (.if_icmp .ge 17, 3) := by decide +kernel
theorem dX12_daysOn_9 : decode cX12_daysOn 9 = .ok (.aload_n 0, 1) := by decide +kernel
theorem dX12_daysOn_10 : decode cX12_daysOn 10 = .ok (.aload_n 0, 1) := by decide +kernel
theorem dX12_daysOn_11 : decode cX12_daysOn 11 = .ok (.iconst 2, 1) := by decide +kernel
theorem dX12_daysOn_12 : decode cX12_daysOn 12 = .ok (.iaload, 1) := by decide +kernel
theorem dX12_daysOn_13 : decode cX12_daysOn 13 = .ok (.invokestatic 87, 3) := by decide +kernel
theorem dX12_daysOn_16 : decode cX12_daysOn 16 = .ok (.istore_n 2, 1) := by decide +kernel
theorem dX12_daysOn_17 : decode cX12_daysOn 17 = .ok (.iinc 3 1, 3) := by decide +kernel
theorem dX12_daysOn_20 : decode cX12_daysOn 20 = .ok (.goto (-16), 3) := by decide +kernel
theorem dX12_daysOn_23 : decode cX12_daysOn 23 = .ok (.return_, 1) := by decide +kernel
set_option maxRecDepth 20000 in
theorem ggX12_hereIn_X12_of : GoodIn wsX12_hereIn wsX12_of := goodIn_r _ [4] (by decide +kernel) (by decide +kernel)
set_option maxRecDepth 20000 in
theorem gX12_hereIn_X12_of : GoodIn wsX12_hereIn (va_wsS RX12 51 yX12_of wsX12_of) := goodIn_app (goodIn_of _ (by decide +kernel)) ggX12_hereIn_X12_of
theorem dX12_hereIn_0 : decode cX12_hereIn 0 = .ok (.iconst 0, 1) := by decide +kernel
theorem dX12_hereIn_1 : decode cX12_hereIn 1 = .ok (.istore_n 1, 1) := by decide +kernel
theorem dX12_hereIn_2 : decode cX12_hereIn 2 = .ok (.iconst 0, 1) := by decide +kernel
theorem dX12_hereIn_3 : decode cX12_hereIn 3 = .ok (.istore_n 2, 1) := by decide +kernel
theorem dX12_hereIn_4 : decode cX12_hereIn 4 = .ok (.iload_n 2, 1) := by decide +kernel
theorem dX12_hereIn_5 : decode cX12_hereIn 5 = .ok (.aload_n 0, 1) := by decide +kernel
theorem dX12_hereIn_6 : decode cX12_hereIn 6 = .ok (.iconst 0, 1) := by decide +kernel
theorem dX12_hereIn_7 : decode cX12_hereIn 7 = .ok (.iaload, 1) := by decide +kernel
theorem dX12_hereIn_8 : decode cX12_hereIn 8 = .ok (.if_icmp .ge 21, 3) := by decide +kernel
theorem dX12_hereIn_11 : decode cX12_hereIn 11 = .ok (.iload_n 1, 1) := by decide +kernel
theorem dX12_hereIn_12 : decode cX12_hereIn 12 = .ok (.aload_n 0, 1) := by decide +kernel
theorem dX12_hereIn_13 : decode cX12_hereIn 13 = .ok (.iload_n 2, 1) := by decide +kernel
theorem dX12_hereIn_14 : decode cX12_hereIn 14 = .ok (.iconst 4, 1) := by decide +kernel
theorem dX12_hereIn_15 : decode cX12_hereIn 15 = .ok (.invokestatic 51, 3) := by decide +kernel
theorem dX12_hereIn_18 : decode cX12_hereIn 18 = .ok (.iaload, 1) := by decide +kernel
theorem dX12_hereIn_19 : decode cX12_hereIn 19 = .ok (.iload_n 2, 1) := by decide +kernel
theorem dX12_hereIn_20 : decode cX12_hereIn 20 = .ok (.ishl, 1) := by decide +kernel
theorem dX12_hereIn_21 : decode cX12_hereIn 21 = .ok (.ior, 1) := by decide +kernel
theorem dX12_hereIn_22 : decode cX12_hereIn 22 = .ok (.istore_n 1, 1) := by decide +kernel
theorem dX12_hereIn_23 : decode cX12_hereIn 23 = .ok (.iinc 2 1, 3) := by decide +kernel
theorem dX12_hereIn_26 : decode cX12_hereIn 26 = .ok (.goto (-22), 3) := by decide +kernel
theorem dX12_hereIn_29 : decode cX12_hereIn 29 = .ok (.iload_n 1, 1) := by decide +kernel
theorem dX12_hereIn_30 : decode cX12_hereIn 30 = .ok (.ireturn, 1) := by decide +kernel
set_option maxRecDepth 20000 in
theorem ggX12_storesIn_X12_has : GoodIn wsX12_storesIn wsX12_has := goodIn_r _ [4] (by decide +kernel) (by decide +kernel)
set_option maxRecDepth 20000 in
theorem gX12_storesIn_X12_has : GoodIn wsX12_storesIn (va_wsS RX12 90 yX12_has wsX12_has) := goodIn_app (goodIn_of _ (by decide +kernel)) ggX12_storesIn_X12_has
set_option maxRecDepth 20000 in
theorem ggX12_storesIn_X12_of : GoodIn wsX12_storesIn wsX12_of := goodIn_r _ [7] (by decide +kernel) (by decide +kernel)
set_option maxRecDepth 20000 in
theorem gX12_storesIn_X12_of : GoodIn wsX12_storesIn (va_wsS RX12 51 yX12_of wsX12_of) := goodIn_app (goodIn_of _ (by decide +kernel)) ggX12_storesIn_X12_of
theorem dX12_storesIn_0 : decode cX12_storesIn 0 = .ok (.iconst 0, 1) := by decide +kernel
theorem dX12_storesIn_1 : decode cX12_storesIn 1 = .ok (.istore_n 2, 1) := by decide +kernel
theorem dX12_storesIn_2 : decode cX12_storesIn 2 = .ok (.iconst 0, 1) := by decide +kernel
theorem dX12_storesIn_3 : decode cX12_storesIn 3 = .ok (.istore_n 3, 1) := by decide +kernel
theorem dX12_storesIn_4 : decode cX12_storesIn 4 = .ok (.iload_n 3, 1) := by decide +kernel
theorem dX12_storesIn_5 : decode cX12_storesIn 5 = .ok (.aload_n 0, 1) := by decide +kernel
theorem dX12_storesIn_6 : decode cX12_storesIn 6 = .ok (.iconst 0, 1) := by decide +kernel
theorem dX12_storesIn_7 : decode cX12_storesIn 7 = .ok (.iaload, 1) := by decide +kernel
theorem dX12_storesIn_8 : decode cX12_storesIn 8 = .ok (.if_icmp .ge 31, 3) := by decide +kernel
theorem dX12_storesIn_11 : decode cX12_storesIn 11 = .ok (.iload_n 2, 1) := by decide +kernel
theorem dX12_storesIn_12 : decode cX12_storesIn 12 = .ok (.iload_n 1, 1) := by decide +kernel
theorem dX12_storesIn_13 : decode cX12_storesIn 13 = .ok (.iload_n 3, 1) := by decide +kernel
theorem dX12_storesIn_14 : decode cX12_storesIn 14 = .ok (.invokestatic 90, 3) := by decide +kernel
theorem dX12_storesIn_17 : decode cX12_storesIn 17 = .ok (.ifCond .eq 13, 3) := by decide +kernel
theorem dX12_storesIn_20 : decode cX12_storesIn 20 = .ok (.aload_n 0, 1) := by decide +kernel
theorem dX12_storesIn_21 : decode cX12_storesIn 21 = .ok (.iload_n 3, 1) := by decide +kernel
theorem dX12_storesIn_22 : decode cX12_storesIn 22 = .ok (.iconst 2, 1) := by decide +kernel
theorem dX12_storesIn_23 : decode cX12_storesIn 23 = .ok (.invokestatic 51, 3) := by decide +kernel
theorem dX12_storesIn_26 : decode cX12_storesIn 26 = .ok (.iaload, 1) := by decide +kernel
theorem dX12_storesIn_27 : decode cX12_storesIn 27 = .ok (.goto 4, 3) := by decide +kernel
theorem dX12_storesIn_30 : decode cX12_storesIn 30 = .ok (.iconst 0, 1) := by decide +kernel
theorem dX12_storesIn_31 : decode cX12_storesIn 31 = .ok (.iadd, 1) := by decide +kernel
theorem dX12_storesIn_32 : decode cX12_storesIn 32 = .ok (.istore_n 2, 1) := by decide +kernel
theorem dX12_storesIn_33 : decode cX12_storesIn 33 = .ok (.iinc 3 1, 3) := by decide +kernel
theorem dX12_storesIn_36 : decode cX12_storesIn 36 = .ok (.goto (-32), 3) := by decide +kernel
theorem dX12_storesIn_39 : decode cX12_storesIn 39 = .ok (.iload_n 2, 1) := by decide +kernel
theorem dX12_storesIn_40 : decode cX12_storesIn 40 = .ok (.ireturn, 1) := by decide +kernel
set_option maxRecDepth 20000 in
theorem ggX12_canLend_X12_isHere : GoodIn wsX12_canLend wsX12_isHere := goodIn_r _ [4, 5, 6, 3, 7] (by decide +kernel) (by decide +kernel)
set_option maxRecDepth 20000 in
theorem gX12_canLend_X12_isHere : GoodIn wsX12_canLend (va_wsS RX12 66 yX12_isHere wsX12_isHere) := goodIn_app (goodIn_of _ (by decide +kernel)) ggX12_canLend_X12_isHere
set_option maxRecDepth 20000 in
theorem ggX12_canLend_X12_of : GoodIn wsX12_canLend wsX12_of := goodIn_r _ [7] (by decide +kernel) (by decide +kernel)
set_option maxRecDepth 20000 in
theorem gX12_canLend_X12_of : GoodIn wsX12_canLend (va_wsS RX12 51 yX12_of wsX12_of) := goodIn_app (goodIn_of _ (by decide +kernel)) ggX12_canLend_X12_of
theorem dX12_canLend_0 : decode cX12_canLend 0 = .ok (.aload_n 0, 1) := by decide +kernel
theorem dX12_canLend_1 : decode cX12_canLend 1 = .ok (.iload_n 1, 1) := by decide +kernel
theorem dX12_canLend_2 : decode cX12_canLend 2 = .ok (.invokestatic 66, 3) := by decide +kernel
theorem dX12_canLend_5 : decode cX12_canLend 5 = .ok (.ifCond .eq 40, 3) := by decide +kernel
theorem dX12_canLend_8 : decode cX12_canLend 8 = .ok (.aload_n 0, 1) := by decide +kernel
theorem dX12_canLend_9 : decode cX12_canLend 9 = .ok (.iload_n 2, 1) := by decide +kernel
theorem dX12_canLend_10 : decode cX12_canLend 10 = .ok (.invokestatic 66, 3) := by decide +kernel
theorem dX12_canLend_13 : decode cX12_canLend 13 = .ok (.ifCond .eq 32, 3) := by decide +kernel
theorem dX12_canLend_16 : decode cX12_canLend 16 = .ok (.aload_n 0, 1) := by decide +kernel
theorem dX12_canLend_17 : decode cX12_canLend 17 = .ok (.iload_n 1, 1) := by decide +kernel
theorem dX12_canLend_18 : decode cX12_canLend 18 = .ok (.iconst 2, 1) := by decide +kernel
theorem dX12_canLend_19 : decode cX12_canLend 19 = .ok (.invokestatic 51, 3) := by decide +kernel
theorem dX12_canLend_22 : decode cX12_canLend 22 = .ok (.iaload, 1) := by decide +kernel
theorem dX12_canLend_23 : decode cX12_canLend 23 = .ok (.iload_n 3, 1) := by decide +kernel
theorem dX12_canLend_24 : decode cX12_canLend 24 = .ok (.if_icmp .lt 21, 3) := by decide +kernel
theorem dX12_canLend_27 : decode cX12_canLend 27 = .ok (.aload_n 0, 1) := by decide +kernel
theorem dX12_canLend_28 : decode cX12_canLend 28 = .ok (.iload_n 2, 1) := by decide +kernel
theorem dX12_canLend_29 : decode cX12_canLend 29 = .ok (.iconst 2, 1) := by decide +kernel
theorem dX12_canLend_30 : decode cX12_canLend 30 = .ok (.invokestatic 51, 3) := by decide +kernel
theorem dX12_canLend_33 : decode cX12_canLend 33 = .ok (.iaload, 1) := by decide +kernel
theorem dX12_canLend_34 : decode cX12_canLend 34 = .ok (.iload_n 3, 1) := by decide +kernel
theorem dX12_canLend_35 : decode cX12_canLend 35 = .ok (.iadd, 1) := by decide +kernel
theorem dX12_canLend_36 : decode cX12_canLend 36 = .ok (.bipush 99, 2) := by decide +kernel
theorem dX12_canLend_38 : decode cX12_canLend 38 = .ok (.if_icmp .gt 7, 3) := by decide +kernel
theorem dX12_canLend_41 : decode cX12_canLend 41 = .ok (.iconst 1, 1) := by decide +kernel
theorem dX12_canLend_42 : decode cX12_canLend 42 = .ok (.goto 4, 3) := by decide +kernel
theorem dX12_canLend_45 : decode cX12_canLend 45 = .ok (.iconst 0, 1) := by decide +kernel
theorem dX12_canLend_46 : decode cX12_canLend 46 = .ok (.ireturn, 1) := by decide +kernel
set_option maxRecDepth 20000 in
theorem ggX12_lendsIn_X12_of : GoodIn wsX12_lendsIn wsX12_of := goodIn_r _ [4] (by decide +kernel) (by decide +kernel)
set_option maxRecDepth 20000 in
theorem gX12_lendsIn_X12_of : GoodIn wsX12_lendsIn (va_wsS RX12 51 yX12_of wsX12_of) := goodIn_app (goodIn_of _ (by decide +kernel)) ggX12_lendsIn_X12_of
theorem dX12_lendsIn_0 : decode cX12_lendsIn 0 = .ok (.aload_n 0, 1) := by decide +kernel
theorem dX12_lendsIn_1 : decode cX12_lendsIn 1 = .ok (.iload_n 1, 1) := by decide +kernel
theorem dX12_lendsIn_2 : decode cX12_lendsIn 2 = .ok (.iconst 2, 1) := by decide +kernel
theorem dX12_lendsIn_3 : decode cX12_lendsIn 3 = .ok (.invokestatic 51, 3) := by decide +kernel
theorem dX12_lendsIn_6 : decode cX12_lendsIn 6 = .ok (.dup2, 1) := by decide +kernel
theorem dX12_lendsIn_7 : decode cX12_lendsIn 7 = .ok (.iaload, 1) := by decide +kernel
theorem dX12_lendsIn_8 : decode cX12_lendsIn 8 = .ok (.iload_n 3, 1) := by decide +kernel
theorem dX12_lendsIn_9 : decode cX12_lendsIn 9 = .ok (.isub, 1) := by decide +kernel
theorem dX12_lendsIn_10 : decode cX12_lendsIn 10 = .ok (.iastore, 1) := by decide +kernel
theorem dX12_lendsIn_11 : decode cX12_lendsIn 11 = .ok (.aload_n 0, 1) := by decide +kernel
theorem dX12_lendsIn_12 : decode cX12_lendsIn 12 = .ok (.iload_n 2, 1) := by decide +kernel
theorem dX12_lendsIn_13 : decode cX12_lendsIn 13 = .ok (.iconst 2, 1) := by decide +kernel
theorem dX12_lendsIn_14 : decode cX12_lendsIn 14 = .ok (.invokestatic 51, 3) := by decide +kernel
theorem dX12_lendsIn_17 : decode cX12_lendsIn 17 = .ok (.dup2, 1) := by decide +kernel
theorem dX12_lendsIn_18 : decode cX12_lendsIn 18 = .ok (.iaload, 1) := by decide +kernel
theorem dX12_lendsIn_19 : decode cX12_lendsIn 19 = .ok (.iload_n 3, 1) := by decide +kernel
theorem dX12_lendsIn_20 : decode cX12_lendsIn 20 = .ok (.iadd, 1) := by decide +kernel
theorem dX12_lendsIn_21 : decode cX12_lendsIn 21 = .ok (.iastore, 1) := by decide +kernel
theorem dX12_lendsIn_22 : decode cX12_lendsIn 22 = .ok (.return_, 1) := by decide +kernel
theorem dX12_here_0 : decode cX12_here 0 = .ok (.aload_n 0, 1) := by decide +kernel
theorem dX12_here_1 : decode cX12_here 1 = .ok (.getfield 94, 3) := by decide +kernel
theorem dX12_here_4 : decode cX12_here 4 = .ok (.aload_n 0, 1) := by decide +kernel
theorem dX12_here_5 : decode cX12_here 5 = .ok (.getfield 98, 3) := by decide +kernel
theorem dX12_here_8 : decode cX12_here 8 = .ok (.if_icmp .ge 24, 3) := by decide +kernel
theorem dX12_here_11 : decode cX12_here 11 = .ok (.aload_n 0, 1) := by decide +kernel
theorem dX12_here_12 : decode cX12_here 12 = .ok (.getfield 40, 3) := by decide +kernel
theorem dX12_here_15 : decode cX12_here 15 = .ok (.aload_n 0, 1) := by decide +kernel
theorem dX12_here_16 : decode cX12_here 16 = .ok (.getfield 101, 3) := by decide +kernel
theorem dX12_here_19 : decode cX12_here 19 = .ok (.aload_n 0, 1) := by decide +kernel
theorem dX12_here_20 : decode cX12_here 20 = .ok (.getfield 94, 3) := by decide +kernel
theorem dX12_here_23 : decode cX12_here 23 = .ok (.iadd, 1) := by decide +kernel
theorem dX12_here_24 : decode cX12_here 24 = .ok (.iaload, 1) := by decide +kernel
theorem dX12_here_25 : decode cX12_here 25 = .ok (.sipush 255, 3) := by decide +kernel
theorem dX12_here_28 : decode cX12_here 28 = .ok (.iand, 1) := by decide +kernel
theorem dX12_here_29 : decode cX12_here 29 = .ok (.goto 4, 3) := by decide +kernel
theorem dX12_here_32 : decode cX12_here 32 = .ok (.iconst (-1), 1) := by decide +kernel
theorem dX12_here_33 : decode cX12_here 33 = .ok (.ireturn, 1) := by decide +kernel
set_option maxRecDepth 20000 in
theorem ggX12_readsNumber_X12_here : GoodIn wsX12_readsNumber wsX12_here := goodIn_r _ [7, 2, 8, 9, 10, 14, 15, 16, 17, 18, 19, 20, 21, 22, 23, 24, 25, 26, 27, 28, 29, 30] (by decide +kernel) (by decide +kernel)
set_option maxRecDepth 20000 in
theorem gX12_readsNumber_X12_here : GoodIn wsX12_readsNumber (wsV RX12 104 RX12 yX12_here wsX12_here) := goodIn_app (goodIn_of _ (by decide +kernel)) ggX12_readsNumber_X12_here
set_option maxRecDepth 20000 in
theorem ggX12_readsNumber_X12_isIn : GoodIn wsX12_readsNumber wsX12_isIn := goodIn_r _ [13] (by decide +kernel) (by decide +kernel)
set_option maxRecDepth 20000 in
theorem gX12_readsNumber_X12_isIn : GoodIn wsX12_readsNumber (va_wsS RX12 43 yX12_isIn wsX12_isIn) := goodIn_app (goodIn_of _ (by decide +kernel)) ggX12_readsNumber_X12_isIn
theorem dX12_readsNumber_0 : decode cX12_readsNumber 0 = .ok (.aload_n 0, 1) := by decide +kernel
theorem dX12_readsNumber_1 : decode cX12_readsNumber 1 = .ok (.getfield 22, 3) := by decide +kernel
theorem dX12_readsNumber_4 : decode cX12_readsNumber 4 = .ok (.iload_n 1, 1) := by decide +kernel
theorem dX12_readsNumber_5 : decode cX12_readsNumber 5 = .ok (.iconst 0, 1) := by decide +kernel
theorem dX12_readsNumber_6 : decode cX12_readsNumber 6 = .ok (.iastore, 1) := by decide +kernel
theorem dX12_readsNumber_7 : decode cX12_readsNumber 7 = .ok (.iconst 0, 1) := by decide +kernel
theorem dX12_readsNumber_8 : decode cX12_readsNumber 8 = .ok (.istore_n 3, 1) := by decide +kernel
theorem dX12_readsNumber_9 : decode cX12_readsNumber 9 = .ok (.iload_n 3, 1) := by decide +kernel
theorem dX12_readsNumber_10 : decode cX12_readsNumber 10 = .ok (.iload_n 2, 1) := by decide +kernel
theorem dX12_readsNumber_11 : decode cX12_readsNumber 11 = .ok (.if_icmp .ge 58, 3) := by decide +kernel
theorem dX12_readsNumber_14 : decode cX12_readsNumber 14 = .ok (.aload_n 0, 1) := by decide +kernel
theorem dX12_readsNumber_15 : decode cX12_readsNumber 15 = .ok (.invokevirtual 104, 3) := by decide +kernel
theorem dX12_readsNumber_18 : decode cX12_readsNumber 18 = .ok (.bipush 48, 2) := by decide +kernel
theorem dX12_readsNumber_20 : decode cX12_readsNumber 20 = .ok (.bipush 57, 2) := by decide +kernel
theorem dX12_readsNumber_22 : decode cX12_readsNumber 22 = .ok (.invokestatic 43, 3) := by decide +kernel
theorem dX12_readsNumber_25 : decode cX12_readsNumber 25 = .ok (.ifCond .ne 5, 3) := by decide +kernel
theorem dX12_readsNumber_28 : decode cX12_readsNumber 28 = .ok (.iconst 0, 1) := by decide +kernel
theorem dX12_readsNumber_29 : decode cX12_readsNumber 29 = .ok (.ireturn, 1) := by decide +kernel
theorem dX12_readsNumber_30 : decode cX12_readsNumber 30 = .ok (.aload_n 0, 1) := by decide +kernel
theorem dX12_readsNumber_31 : decode cX12_readsNumber 31 = .ok (.getfield 22, 3) := by decide +kernel
theorem dX12_readsNumber_34 : decode cX12_readsNumber 34 = .ok (.iload_n 1, 1) := by decide +kernel
theorem dX12_readsNumber_35 : decode cX12_readsNumber 35 = .ok (.bipush 10, 2) := by decide +kernel
theorem dX12_readsNumber_37 : decode cX12_readsNumber 37 = .ok (.aload_n 0, 1) := by decide +kernel
theorem dX12_readsNumber_38 : decode cX12_readsNumber 38 = .ok (.getfield 22, 3) := by decide +kernel
theorem dX12_readsNumber_41 : decode cX12_readsNumber 41 = .ok (.iload_n 1, 1) := by decide +kernel
theorem dX12_readsNumber_42 : decode cX12_readsNumber 42 = .ok (.iaload, 1) := by decide +kernel
theorem dX12_readsNumber_43 : decode cX12_readsNumber 43 = .ok (.imul, 1) := by decide +kernel
theorem dX12_readsNumber_44 : decode cX12_readsNumber 44 = .ok (.aload_n 0, 1) := by decide +kernel
theorem dX12_readsNumber_45 : decode cX12_readsNumber 45 = .ok (.invokevirtual 104, 3) := by decide +kernel
theorem dX12_readsNumber_48 : decode cX12_readsNumber 48 = .ok (.iadd, 1) := by decide +kernel
theorem dX12_readsNumber_49 : decode cX12_readsNumber 49 = .ok (.bipush 48, 2) := by decide +kernel
theorem dX12_readsNumber_51 : decode cX12_readsNumber 51 = .ok (.isub, 1) := by decide +kernel
theorem dX12_readsNumber_52 : decode cX12_readsNumber 52 = .ok (.iastore, 1) := by decide +kernel
theorem dX12_readsNumber_53 : decode cX12_readsNumber 53 = .ok (.aload_n 0, 1) := by decide +kernel
theorem dX12_readsNumber_54 : decode cX12_readsNumber 54 = .ok (.dup, 1) := by decide +kernel
theorem dX12_readsNumber_55 : decode cX12_readsNumber 55 = .ok (.getfield 94, 3) := by decide +kernel
theorem dX12_readsNumber_58 : decode cX12_readsNumber 58 = .ok (.iconst 1, 1) := by decide +kernel
theorem dX12_readsNumber_59 : decode cX12_readsNumber 59 = .ok (.iadd, 1) := by decide +kernel
theorem dX12_readsNumber_60 : decode cX12_readsNumber 60 = .ok (.putfield 94, 3) := by decide +kernel
theorem dX12_readsNumber_63 : decode cX12_readsNumber 63 = .ok (.iinc 3 1, 3) := by decide +kernel
theorem dX12_readsNumber_66 : decode cX12_readsNumber 66 = .ok (.goto (-57), 3) := by decide +kernel
theorem dX12_readsNumber_69 : decode cX12_readsNumber 69 = .ok (.iconst 1, 1) := by decide +kernel
theorem dX12_readsNumber_70 : decode cX12_readsNumber 70 = .ok (.ireturn, 1) := by decide +kernel
set_option maxRecDepth 20000 in
theorem ggX12_readsStatement_X12_here : GoodIn wsX12_readsStatement wsX12_here := goodIn_r _ [6, 1, 7, 8, 9, 18, 19, 20, 21, 22, 23, 24, 25, 26, 27, 28, 29, 30, 31, 32, 33, 34] (by decide +kernel) (by decide +kernel)
set_option maxRecDepth 20000 in
theorem gX12_readsStatement_X12_here : GoodIn wsX12_readsStatement (wsV RX12 104 RX12 yX12_here wsX12_here) := goodIn_app (goodIn_of _ (by decide +kernel)) ggX12_readsStatement_X12_here
set_option maxRecDepth 20000 in
theorem ggX12_readsStatement_X12_readsNumber : GoodIn wsX12_readsStatement wsX12_readsNumber := goodIn_r _ [13, 14, 1, 2, 3, 4, 5, 6, 7, 8, 9, 15, 16, 17, 18, 19, 20, 21, 22, 23, 24, 25, 26, 27, 28, 29, 30, 31, 32, 33, 34] (by decide +kernel) (by decide +kernel)
set_option maxRecDepth 20000 in
theorem gX12_readsStatement_X12_readsNumber : GoodIn wsX12_readsStatement (wsV RX12 108 RX12 yX12_readsNumber wsX12_readsNumber) := goodIn_app (goodIn_of _ (by decide +kernel)) ggX12_readsStatement_X12_readsNumber
theorem dX12_readsStatement_0 : decode cX12_readsStatement 0 = .ok (.aload_n 0, 1) := by decide +kernel
theorem dX12_readsStatement_1 : decode cX12_readsStatement 1 = .ok (.invokevirtual 104, 3) := by decide +kernel
theorem dX12_readsStatement_4 : decode cX12_readsStatement 4 = .ok (.istore_n 1, 1) := by decide +kernel
theorem dX12_readsStatement_5 : decode cX12_readsStatement 5 = .ok (.aload_n 0, 1) := by decide +kernel
theorem dX12_readsStatement_6 : decode cX12_readsStatement 6 = .ok (.dup, 1) := by decide +kernel
theorem dX12_readsStatement_7 : decode cX12_readsStatement 7 = .ok (.getfield 94, 3) := by decide +kernel
theorem dX12_readsStatement_10 : decode cX12_readsStatement 10 = .ok (.iconst 1, 1) := by decide +kernel
theorem dX12_readsStatement_11 : decode cX12_readsStatement 11 = .ok (.iadd, 1) := by decide +kernel
theorem dX12_readsStatement_12 : decode cX12_readsStatement 12 = .ok (.putfield 94, 3) := by decide +kernel
theorem dX12_readsStatement_15 : decode cX12_readsStatement 15 = .ok (.iload_n 1, 1) := by decide +kernel
theorem dX12_readsStatement_16 : decode cX12_readsStatement 16 = .ok (.tableswitch 214 98 119 #[150, 214, 150, 214, 160, 214, 214, 214, 214, 214, 104, 214, 214, 214, 214, 214, 214, 140, 104, 214, 214, 187], 104) := by decide +kernel
theorem dX12_readsStatement_120 : decode cX12_readsStatement 120 = .ok (.aload_n 0, 1) := by decide +kernel
theorem dX12_readsStatement_121 : decode cX12_readsStatement 121 = .ok (.iconst 0, 1) := by decide +kernel
theorem dX12_readsStatement_122 : decode cX12_readsStatement 122 = .ok (.iconst 1, 1) := by decide +kernel
theorem dX12_readsStatement_123 : decode cX12_readsStatement 123 = .ok (.invokevirtual 108, 3) := by decide +kernel
theorem dX12_readsStatement_126 : decode cX12_readsStatement 126 = .ok (.ifCond .eq 25, 3) := by decide +kernel
theorem dX12_readsStatement_129 : decode cX12_readsStatement 129 = .ok (.aload_n 0, 1) := by decide +kernel
theorem dX12_readsStatement_130 : decode cX12_readsStatement 130 = .ok (.iconst 1, 1) := by decide +kernel
theorem dX12_readsStatement_131 : decode cX12_readsStatement 131 = .ok (.iconst 1, 1) := by decide +kernel
theorem dX12_readsStatement_132 : decode cX12_readsStatement 132 = .ok (.invokevirtual 108, 3) := by decide +kernel
theorem dX12_readsStatement_135 : decode cX12_readsStatement 135 = .ok (.ifCond .eq 16, 3) := by decide +kernel
theorem dX12_readsStatement_138 : decode cX12_readsStatement 138 = .ok (.aload_n 0, 1) := by decide +kernel
theorem dX12_readsStatement_139 : decode cX12_readsStatement 139 = .ok (.iconst 2, 1) := by decide +kernel
theorem dX12_readsStatement_140 : decode cX12_readsStatement 140 = .ok (.iconst 2, 1) := by decide +kernel
theorem dX12_readsStatement_141 : decode cX12_readsStatement 141 = .ok (.invokevirtual 108, 3) := by decide +kernel
theorem dX12_readsStatement_144 : decode cX12_readsStatement 144 = .ok (.ifCond .eq 7, 3) := by decide +kernel
theorem dX12_readsStatement_147 : decode cX12_readsStatement 147 = .ok (.iconst 1, 1) := by decide +kernel
theorem dX12_readsStatement_148 : decode cX12_readsStatement 148 = .ok (.goto 4, 3) := by decide +kernel
theorem dX12_readsStatement_151 : decode cX12_readsStatement 151 = .ok (.iconst 0, 1) := by decide +kernel
theorem dX12_readsStatement_152 : decode cX12_readsStatement 152 = .ok (.istore_n 2, 1) := by decide +kernel
theorem dX12_readsStatement_153 : decode cX12_readsStatement 153 = .ok (.goto 89, 3) := by decide +kernel
theorem dX12_readsStatement_156 : decode cX12_readsStatement 156 = .ok (.aload_n 0, 1) := by decide +kernel
theorem dX12_readsStatement_157 : decode cX12_readsStatement 157 = .ok (.iconst 0, 1) := by decide +kernel
theorem dX12_readsStatement_158 : decode cX12_readsStatement 158 = .ok (.iconst 1, 1) := by decide +kernel
theorem dX12_readsStatement_159 : decode cX12_readsStatement 159 = .ok (.invokevirtual 108, 3) := by decide +kernel
theorem dX12_readsStatement_162 : decode cX12_readsStatement 162 = .ok (.istore_n 2, 1) := by decide +kernel
theorem dX12_readsStatement_163 : decode cX12_readsStatement 163 = .ok (.goto 79, 3) := by decide +kernel
theorem dX12_readsStatement_166 : decode cX12_readsStatement 166 = .ok (.aload_n 0, 1) := by decide +kernel
theorem dX12_readsStatement_167 : decode cX12_readsStatement 167 = .ok (.iconst 0, 1) := by decide +kernel
theorem dX12_readsStatement_168 : decode cX12_readsStatement 168 = .ok (.iconst 2, 1) := by decide +kernel
theorem dX12_readsStatement_169 : decode cX12_readsStatement 169 = .ok (.invokevirtual 108, 3) := by decide +kernel
theorem dX12_readsStatement_172 : decode cX12_readsStatement 172 = .ok (.istore_n 2, 1) := by decide +kernel
theorem dX12_readsStatement_173 : decode cX12_readsStatement 173 = .ok (.goto 69, 3) := by decide +kernel
theorem dX12_readsStatement_176 : decode cX12_readsStatement 176 = .ok (.aload_n 0, 1) := by decide +kernel
theorem dX12_readsStatement_177 : decode cX12_readsStatement 177 = .ok (.iconst 0, 1) := by decide +kernel
theorem dX12_readsStatement_178 : decode cX12_readsStatement 178 = .ok (.iconst 1, 1) := by decide +kernel
theorem dX12_readsStatement_179 : decode cX12_readsStatement 179 = .ok (.invokevirtual 108, 3) := by decide +kernel
theorem dX12_readsStatement_182 : decode cX12_readsStatement 182 = .ok (.ifCond .eq 16, 3) := by decide +kernel
theorem dX12_readsStatement_185 : decode cX12_readsStatement 185 = .ok (.aload_n 0, 1) := by decide +kernel
theorem dX12_readsStatement_186 : decode cX12_readsStatement 186 = .ok (.iconst 1, 1) := by decide +kernel
theorem dX12_readsStatement_187 : decode cX12_readsStatement 187 = .ok (.iconst 2, 1) := by decide +kernel
theorem dX12_readsStatement_188 : decode cX12_readsStatement 188 = .ok (.invokevirtual 108, 3) := by decide +kernel
theorem dX12_readsStatement_191 : decode cX12_readsStatement 191 = .ok (.ifCond .eq 7, 3) := by decide +kernel
theorem dX12_readsStatement_194 : decode cX12_readsStatement 194 = .ok (.iconst 1, 1) := by decide +kernel
theorem dX12_readsStatement_195 : decode cX12_readsStatement 195 = .ok (.goto 4, 3) := by decide +kernel
theorem dX12_readsStatement_198 : decode cX12_readsStatement 198 = .ok (.iconst 0, 1) := by decide +kernel
theorem dX12_readsStatement_199 : decode cX12_readsStatement 199 = .ok (.istore_n 2, 1) := by decide +kernel
theorem dX12_readsStatement_200 : decode cX12_readsStatement 200 = .ok (.goto 42, 3) := by decide +kernel
theorem dX12_readsStatement_203 : decode cX12_readsStatement 203 = .ok (.aload_n 0, 1) := by decide +kernel
theorem dX12_readsStatement_204 : decode cX12_readsStatement 204 = .ok (.iconst 0, 1) := by decide +kernel
theorem dX12_readsStatement_205 : decode cX12_readsStatement 205 = .ok (.iconst 1, 1) := by decide +kernel
theorem dX12_readsStatement_206 : decode cX12_readsStatement 206 = .ok (.invokevirtual 108, 3) := by decide +kernel
theorem dX12_readsStatement_209 : decode cX12_readsStatement 209 = .ok (.ifCond .eq 16, 3) := by decide +kernel
theorem dX12_readsStatement_212 : decode cX12_readsStatement 212 = .ok (.aload_n 0, 1) := by decide +kernel
theorem dX12_readsStatement_213 : decode cX12_readsStatement 213 = .ok (.iconst 1, 1) := by decide +kernel
theorem dX12_readsStatement_214 : decode cX12_readsStatement 214 = .ok (.iconst 1, 1) := by decide +kernel
theorem dX12_readsStatement_215 : decode cX12_readsStatement 215 = .ok (.invokevirtual 108, 3) := by decide +kernel
theorem dX12_readsStatement_218 : decode cX12_readsStatement 218 = .ok (.ifCond .eq 7, 3) := by decide +kernel
theorem dX12_readsStatement_221 : decode cX12_readsStatement 221 = .ok (.iconst 1, 1) := by decide +kernel
theorem dX12_readsStatement_222 : decode cX12_readsStatement 222 = .ok (.goto 4, 3) := by decide +kernel
theorem dX12_readsStatement_225 : decode cX12_readsStatement 225 = .ok (.iconst 0, 1) := by decide +kernel
theorem dX12_readsStatement_226 : decode cX12_readsStatement 226 = .ok (.istore_n 2, 1) := by decide +kernel
theorem dX12_readsStatement_227 : decode cX12_readsStatement 227 = .ok (.goto 15, 3) := by decide +kernel
theorem dX12_readsStatement_230 : decode cX12_readsStatement 230 = .ok (.aload_n 0, 1) := by decide +kernel
theorem dX12_readsStatement_231 : decode cX12_readsStatement 231 = .ok (.dup, 1) := by decide +kernel
theorem dX12_readsStatement_232 : decode cX12_readsStatement 232 = .ok (.getfield 94, 3) := by decide +kernel
theorem dX12_readsStatement_235 : decode cX12_readsStatement 235 = .ok (.iconst 1, 1) := by decide +kernel
theorem dX12_readsStatement_236 : decode cX12_readsStatement 236 = .ok (.isub, 1) := by decide +kernel
theorem dX12_readsStatement_237 : decode cX12_readsStatement 237 = .ok (.putfield 94, 3) := by decide +kernel
theorem dX12_readsStatement_240 : decode cX12_readsStatement 240 = .ok (.iconst 0, 1) := by decide +kernel
theorem dX12_readsStatement_241 : decode cX12_readsStatement 241 = .ok (.ireturn, 1) := by decide +kernel
theorem dX12_readsStatement_242 : decode cX12_readsStatement 242 = .ok (.iload_n 2, 1) := by decide +kernel
theorem dX12_readsStatement_243 : decode cX12_readsStatement 243 = .ok (.ifCond .eq 12, 3) := by decide +kernel
theorem dX12_readsStatement_246 : decode cX12_readsStatement 246 = .ok (.aload_n 0, 1) := by decide +kernel
theorem dX12_readsStatement_247 : decode cX12_readsStatement 247 = .ok (.invokevirtual 104, 3) := by decide +kernel
theorem dX12_readsStatement_250 : decode cX12_readsStatement 250 = .ok (.bipush 59, 2) := by decide +kernel
theorem dX12_readsStatement_252 : decode cX12_readsStatement 252 = .ok (.if_icmp .eq 5, 3) := by decide +kernel
theorem dX12_readsStatement_255 : decode cX12_readsStatement 255 = .ok (.iconst 0, 1) := by decide +kernel
theorem dX12_readsStatement_256 : decode cX12_readsStatement 256 = .ok (.ireturn, 1) := by decide +kernel
theorem dX12_readsStatement_257 : decode cX12_readsStatement 257 = .ok (.aload_n 0, 1) := by decide +kernel
theorem dX12_readsStatement_258 : decode cX12_readsStatement 258 = .ok (.dup, 1) := by decide +kernel
theorem dX12_readsStatement_259 : decode cX12_readsStatement 259 = .ok (.getfield 94, 3) := by decide +kernel
theorem dX12_readsStatement_262 : decode cX12_readsStatement 262 = .ok (.iconst 1, 1) := by decide +kernel
theorem dX12_readsStatement_263 : decode cX12_readsStatement 263 = .ok (.iadd, 1) := by decide +kernel
theorem dX12_readsStatement_264 : decode cX12_readsStatement 264 = .ok (.putfield 94, 3) := by decide +kernel
theorem dX12_readsStatement_267 : decode cX12_readsStatement 267 = .ok (.iconst 1, 1) := by decide +kernel
theorem dX12_readsStatement_268 : decode cX12_readsStatement 268 = .ok (.ireturn, 1) := by decide +kernel
set_option maxRecDepth 20000 in
theorem ggX12_adds_X12_of : GoodIn wsX12_adds wsX12_of := goodIn_r _ [5] (by decide +kernel) (by decide +kernel)
set_option maxRecDepth 20000 in
theorem gX12_adds_X12_of : GoodIn wsX12_adds (va_wsS RX12 51 yX12_of wsX12_of) := goodIn_app (goodIn_of _ (by decide +kernel)) ggX12_adds_X12_of
theorem dX12_adds_0 : decode cX12_adds 0 = .ok (.aload_n 0, 1) := by decide +kernel
theorem dX12_adds_1 : decode cX12_adds 1 = .ok (.getfield 9, 3) := by decide +kernel
theorem dX12_adds_4 : decode cX12_adds 4 = .ok (.iconst 0, 1) := by decide +kernel
theorem dX12_adds_5 : decode cX12_adds 5 = .ok (.iaload, 1) := by decide +kernel
theorem dX12_adds_6 : decode cX12_adds 6 = .ok (.istore 4, 2) := by decide +kernel
theorem dX12_adds_8 : decode cX12_adds 8 = .ok (.aload_n 0, 1) := by decide +kernel
theorem dX12_adds_9 : decode cX12_adds 9 = .ok (.getfield 9, 3) := by decide +kernel
theorem dX12_adds_12 : decode cX12_adds 12 = .ok (.iload 4, 2) := by decide +kernel
theorem dX12_adds_14 : decode cX12_adds 14 = .ok (.iconst 0, 1) := by decide +kernel
theorem dX12_adds_15 : decode cX12_adds 15 = .ok (.invokestatic 51, 3) := by decide +kernel
theorem dX12_adds_18 : decode cX12_adds 18 = .ok (.iload_n 1, 1) := by decide +kernel
theorem dX12_adds_19 : decode cX12_adds 19 = .ok (.iastore, 1) := by decide +kernel
theorem dX12_adds_20 : decode cX12_adds 20 = .ok (.aload_n 0, 1) := by decide +kernel
theorem dX12_adds_21 : decode cX12_adds 21 = .ok (.getfield 9, 3) := by decide +kernel
theorem dX12_adds_24 : decode cX12_adds 24 = .ok (.iload 4, 2) := by decide +kernel
theorem dX12_adds_26 : decode cX12_adds 26 = .ok (.iconst 1, 1) := by decide +kernel
theorem dX12_adds_27 : decode cX12_adds 27 = .ok (.invokestatic 51, 3) := by decide +kernel
theorem dX12_adds_30 : decode cX12_adds 30 = .ok (.iload_n 2, 1) := by decide +kernel
theorem dX12_adds_31 : decode cX12_adds 31 = .ok (.iastore, 1) := by decide +kernel
theorem dX12_adds_32 : decode cX12_adds 32 = .ok (.aload_n 0, 1) := by decide +kernel
theorem dX12_adds_33 : decode cX12_adds 33 = .ok (.getfield 9, 3) := by decide +kernel
theorem dX12_adds_36 : decode cX12_adds 36 = .ok (.iload 4, 2) := by decide +kernel
theorem dX12_adds_38 : decode cX12_adds 38 = .ok (.iconst 2, 1) := by decide +kernel
theorem dX12_adds_39 : decode cX12_adds 39 = .ok (.invokestatic 51, 3) := by decide +kernel
theorem dX12_adds_42 : decode cX12_adds 42 = .ok (.iload_n 3, 1) := by decide +kernel
theorem dX12_adds_43 : decode cX12_adds 43 = .ok (.iastore, 1) := by decide +kernel
theorem dX12_adds_44 : decode cX12_adds 44 = .ok (.aload_n 0, 1) := by decide +kernel
theorem dX12_adds_45 : decode cX12_adds 45 = .ok (.getfield 9, 3) := by decide +kernel
theorem dX12_adds_48 : decode cX12_adds 48 = .ok (.iload 4, 2) := by decide +kernel
theorem dX12_adds_50 : decode cX12_adds 50 = .ok (.iconst 3, 1) := by decide +kernel
theorem dX12_adds_51 : decode cX12_adds 51 = .ok (.invokestatic 51, 3) := by decide +kernel
theorem dX12_adds_54 : decode cX12_adds 54 = .ok (.iconst 0, 1) := by decide +kernel
theorem dX12_adds_55 : decode cX12_adds 55 = .ok (.iastore, 1) := by decide +kernel
theorem dX12_adds_56 : decode cX12_adds 56 = .ok (.aload_n 0, 1) := by decide +kernel
theorem dX12_adds_57 : decode cX12_adds 57 = .ok (.getfield 9, 3) := by decide +kernel
theorem dX12_adds_60 : decode cX12_adds 60 = .ok (.iload 4, 2) := by decide +kernel
theorem dX12_adds_62 : decode cX12_adds 62 = .ok (.iconst 4, 1) := by decide +kernel
theorem dX12_adds_63 : decode cX12_adds 63 = .ok (.invokestatic 51, 3) := by decide +kernel
theorem dX12_adds_66 : decode cX12_adds 66 = .ok (.iconst 1, 1) := by decide +kernel
theorem dX12_adds_67 : decode cX12_adds 67 = .ok (.iastore, 1) := by decide +kernel
theorem dX12_adds_68 : decode cX12_adds 68 = .ok (.aload_n 0, 1) := by decide +kernel
theorem dX12_adds_69 : decode cX12_adds 69 = .ok (.getfield 9, 3) := by decide +kernel
theorem dX12_adds_72 : decode cX12_adds 72 = .ok (.iconst 0, 1) := by decide +kernel
theorem dX12_adds_73 : decode cX12_adds 73 = .ok (.dup2, 1) := by decide +kernel
theorem dX12_adds_74 : decode cX12_adds 74 = .ok (.iaload, 1) := by decide +kernel
theorem dX12_adds_75 : decode cX12_adds 75 = .ok (.iconst 1, 1) := by decide +kernel
theorem dX12_adds_76 : decode cX12_adds 76 = .ok (.iadd, 1) := by decide +kernel
theorem dX12_adds_77 : decode cX12_adds 77 = .ok (.iastore, 1) := by decide +kernel
theorem dX12_adds_78 : decode cX12_adds 78 = .ok (.return_, 1) := by decide +kernel
set_option maxRecDepth 20000 in
theorem ggX12_isDone_X12_adds : GoodIn wsX12_isDone wsX12_adds := goodIn_r _ [7, 2, 8, 9, 6, 10, 61, 62, 63, 64, 65, 66, 67, 68, 69, 70, 71, 72, 73, 74, 75, 76, 77] (by decide +kernel) (by decide +kernel)
set_option maxRecDepth 20000 in
theorem gX12_isDone_X12_adds : GoodIn wsX12_isDone (wsV RX12 111 RX12 yX12_adds wsX12_adds) := goodIn_app (goodIn_of _ (by decide +kernel)) ggX12_isDone_X12_adds
set_option maxRecDepth 20000 in
theorem ggX12_isDone_X12_isTenant : GoodIn wsX12_isDone wsX12_isTenant := goodIn_r _ [14, 2, 15, 16, 6, 17, 61, 62, 63, 64, 65, 66, 67, 68, 69, 70, 71, 72, 73, 74, 75, 76, 77] (by decide +kernel) (by decide +kernel)
set_option maxRecDepth 20000 in
theorem gX12_isDone_X12_isTenant : GoodIn wsX12_isDone (wsV RX12 47 RX12 yX12_isTenant wsX12_isTenant) := goodIn_app (goodIn_of _ (by decide +kernel)) ggX12_isDone_X12_isTenant
set_option maxRecDepth 20000 in
theorem ggX12_isDone_X12_of : GoodIn wsX12_isDone wsX12_of := goodIn_r _ [10] (by decide +kernel) (by decide +kernel)
set_option maxRecDepth 20000 in
theorem gX12_isDone_X12_of : GoodIn wsX12_isDone (va_wsS RX12 51 yX12_of wsX12_of) := goodIn_app (goodIn_of _ (by decide +kernel)) ggX12_isDone_X12_of
set_option maxRecDepth 20000 in
theorem ggX12_isDone_X12_isHere : GoodIn wsX12_isDone wsX12_isHere := goodIn_r _ [20, 8, 9, 6, 10] (by decide +kernel) (by decide +kernel)
set_option maxRecDepth 20000 in
theorem gX12_isDone_X12_isHere : GoodIn wsX12_isDone (va_wsS RX12 66 yX12_isHere wsX12_isHere) := goodIn_app (goodIn_of _ (by decide +kernel)) ggX12_isDone_X12_isHere
set_option maxRecDepth 20000 in
theorem ggX12_isDone_X12_areTwo : GoodIn wsX12_isDone wsX12_areTwo := goodIn_r _ [24, 11, 12, 13, 6, 14, 2, 15, 16, 17, 61, 62, 63, 64, 65, 66, 67, 68, 69, 70, 71, 72, 73, 74, 75, 76, 77] (by decide +kernel) (by decide +kernel)
set_option maxRecDepth 20000 in
theorem gX12_isDone_X12_areTwo : GoodIn wsX12_isDone (wsV RX12 115 RX12 yX12_areTwo wsX12_areTwo) := goodIn_app (goodIn_of _ (by decide +kernel)) ggX12_isDone_X12_areTwo
set_option maxRecDepth 20000 in
theorem ggX12_isDone_X12_canLend : GoodIn wsX12_isDone wsX12_canLend := goodIn_r _ [27, 18, 19, 6, 20, 8, 9, 10] (by decide +kernel) (by decide +kernel)
set_option maxRecDepth 20000 in
theorem gX12_isDone_X12_canLend : GoodIn wsX12_isDone (va_wsS RX12 118 yX12_canLend wsX12_canLend) := goodIn_app (goodIn_of _ (by decide +kernel)) ggX12_isDone_X12_canLend
set_option maxRecDepth 20000 in
theorem ggX12_isDone_X12_lendsIn : GoodIn wsX12_isDone wsX12_lendsIn := goodIn_r _ [30, 8, 9, 6, 10] (by decide +kernel) (by decide +kernel)
set_option maxRecDepth 20000 in
theorem gX12_isDone_X12_lendsIn : GoodIn wsX12_isDone (va_wsS RX12 122 yX12_lendsIn wsX12_lendsIn) := goodIn_app (goodIn_of _ (by decide +kernel)) ggX12_isDone_X12_lendsIn
set_option maxRecDepth 20000 in
theorem ggX12_isDone_X12_isIn : GoodIn wsX12_isDone wsX12_isIn := goodIn_r _ [17] (by decide +kernel) (by decide +kernel)
set_option maxRecDepth 20000 in
theorem gX12_isDone_X12_isIn : GoodIn wsX12_isDone (va_wsS RX12 43 yX12_isIn wsX12_isIn) := goodIn_app (goodIn_of _ (by decide +kernel)) ggX12_isDone_X12_isIn
set_option maxRecDepth 20000 in
theorem ggX12_isDone_X12_daysOn : GoodIn wsX12_isDone wsX12_daysOn := goodIn_r _ [33, 34, 35, 6, 36, 18, 19, 20, 8, 9, 10, 37, 38, 39, 40, 41, 42, 43, 44, 45, 46, 47, 48, 49, 50, 51, 52, 53, 54, 55, 56, 57, 58, 59, 60] (by decide +kernel) (by decide +kernel)
set_option maxRecDepth 20000 in
theorem gX12_isDone_X12_daysOn : GoodIn wsX12_isDone (va_wsS RX12 126 yX12_daysOn wsX12_daysOn) := goodIn_app (goodIn_of _ (by decide +kernel)) ggX12_isDone_X12_daysOn
theorem dX12_isDone_0 : decode cX12_isDone 0 = .ok (.aload_n 0, 1) := by decide +kernel
theorem dX12_isDone_1 : decode cX12_isDone 1 = .ok (.getfield 22, 3) := by decide +kernel
theorem dX12_isDone_4 : decode cX12_isDone 4 = .ok (.iconst 0, 1) := by decide +kernel
theorem dX12_isDone_5 : decode cX12_isDone 5 = .ok (.iaload, 1) := by decide +kernel
theorem dX12_isDone_6 : decode cX12_isDone 6 = .ok (.istore_n 2, 1) := by decide +kernel
theorem dX12_isDone_7 : decode cX12_isDone 7 = .ok (.aload_n 0, 1) := by decide +kernel
theorem dX12_isDone_8 : decode cX12_isDone 8 = .ok (.getfield 22, 3) := by decide +kernel
theorem dX12_isDone_11 : decode cX12_isDone 11 = .ok (.iconst 1, 1) := by decide +kernel
theorem dX12_isDone_12 : decode cX12_isDone 12 = .ok (.iaload, 1) := by decide +kernel
theorem dX12_isDone_13 : decode cX12_isDone 13 = .ok (.istore_n 3, 1) := by decide +kernel
theorem dX12_isDone_14 : decode cX12_isDone 14 = .ok (.iload_n 1, 1) := by decide +kernel
theorem dX12_isDone_15 : decode cX12_isDone 15 = .ok (.lookupswitch 226 #[(98, 99), (102, 108), (108, 170), (115, 90), (116, 57), (119, 131)], 57) := by decide +kernel
theorem dX12_isDone_72 : decode cX12_isDone 72 = .ok (.iload_n 2, 1) := by decide +kernel
theorem dX12_isDone_73 : decode cX12_isDone 73 = .ok (.bipush 8, 2) := by decide +kernel
theorem dX12_isDone_75 : decode cX12_isDone 75 = .ok (.if_icmp .ge 14, 3) := by decide +kernel
theorem dX12_isDone_78 : decode cX12_isDone 78 = .ok (.aload_n 0, 1) := by decide +kernel
theorem dX12_isDone_79 : decode cX12_isDone 79 = .ok (.getfield 9, 3) := by decide +kernel
theorem dX12_isDone_82 : decode cX12_isDone 82 = .ok (.iconst 0, 1) := by decide +kernel
theorem dX12_isDone_83 : decode cX12_isDone 83 = .ok (.iaload, 1) := by decide +kernel
theorem dX12_isDone_84 : decode cX12_isDone 84 = .ok (.bipush 7, 2) := by decide +kernel
theorem dX12_isDone_86 : decode cX12_isDone 86 = .ok (.if_icmp .ne 5, 3) := by decide +kernel
theorem dX12_isDone_89 : decode cX12_isDone 89 = .ok (.iconst 0, 1) := by decide +kernel
theorem dX12_isDone_90 : decode cX12_isDone 90 = .ok (.ireturn, 1) := by decide +kernel
theorem dX12_isDone_91 : decode cX12_isDone 91 = .ok (.aload_n 0, 1) := by decide +kernel
theorem dX12_isDone_92 : decode cX12_isDone 92 = .ok (.iload_n 2, 1) := by decide +kernel
theorem dX12_isDone_93 : decode cX12_isDone 93 = .ok (.iload_n 3, 1) := by decide +kernel
theorem dX12_isDone_94 : decode cX12_isDone 94 = .ok (.aload_n 0, 1) := by decide +kernel
theorem dX12_isDone_95 : decode cX12_isDone 95 = .ok (.getfield 22, 3) := by decide +kernel
theorem dX12_isDone_98 : decode cX12_isDone 98 = .ok (.iconst 2, 1) := by decide +kernel
theorem dX12_isDone_99 : decode cX12_isDone 99 = .ok (.iaload, 1) := by decide +kernel
theorem dX12_isDone_100 : decode cX12_isDone 100 = .ok (.invokevirtual 111, 3) := by decide +kernel
theorem dX12_isDone_103 : decode cX12_isDone 103 = .ok (.iconst 1, 1) := by decide +kernel
theorem dX12_isDone_104 : decode cX12_isDone 104 = .ok (.ireturn, 1) := by decide +kernel
theorem dX12_isDone_105 : decode cX12_isDone 105 = .ok (.aload_n 0, 1) := by decide +kernel
theorem dX12_isDone_106 : decode cX12_isDone 106 = .ok (.getfield 9, 3) := by decide +kernel
theorem dX12_isDone_109 : decode cX12_isDone 109 = .ok (.iconst 2, 1) := by decide +kernel
theorem dX12_isDone_110 : decode cX12_isDone 110 = .ok (.iload_n 2, 1) := by decide +kernel
theorem dX12_isDone_111 : decode cX12_isDone 111 = .ok (.iastore, 1) := by decide +kernel
theorem dX12_isDone_112 : decode cX12_isDone 112 = .ok (.iconst 1, 1) := by decide +kernel
theorem dX12_isDone_113 : decode cX12_isDone 113 = .ok (.ireturn, 1) := by decide +kernel
theorem dX12_isDone_114 : decode cX12_isDone 114 = .ok (.aload_n 0, 1) := by decide +kernel
theorem dX12_isDone_115 : decode cX12_isDone 115 = .ok (.getfield 9, 3) := by decide +kernel
theorem dX12_isDone_118 : decode cX12_isDone 118 = .ok (.iconst 3, 1) := by decide +kernel
theorem dX12_isDone_119 : decode cX12_isDone 119 = .ok (.iload_n 2, 1) := by decide +kernel
theorem dX12_isDone_120 : decode cX12_isDone 120 = .ok (.iastore, 1) := by decide +kernel
theorem dX12_isDone_121 : decode cX12_isDone 121 = .ok (.iconst 1, 1) := by decide +kernel
theorem dX12_isDone_122 : decode cX12_isDone 122 = .ok (.ireturn, 1) := by decide +kernel
theorem dX12_isDone_123 : decode cX12_isDone 123 = .ok (.aload_n 0, 1) := by decide +kernel
theorem dX12_isDone_124 : decode cX12_isDone 124 = .ok (.iload_n 2, 1) := by decide +kernel
theorem dX12_isDone_125 : decode cX12_isDone 125 = .ok (.invokevirtual 47, 3) := by decide +kernel
theorem dX12_isDone_128 : decode cX12_isDone 128 = .ok (.ifCond .ne 5, 3) := by decide +kernel
theorem dX12_isDone_131 : decode cX12_isDone 131 = .ok (.iconst 0, 1) := by decide +kernel
theorem dX12_isDone_132 : decode cX12_isDone 132 = .ok (.ireturn, 1) := by decide +kernel
theorem dX12_isDone_133 : decode cX12_isDone 133 = .ok (.aload_n 0, 1) := by decide +kernel
theorem dX12_isDone_134 : decode cX12_isDone 134 = .ok (.getfield 9, 3) := by decide +kernel
theorem dX12_isDone_137 : decode cX12_isDone 137 = .ok (.iload_n 2, 1) := by decide +kernel
theorem dX12_isDone_138 : decode cX12_isDone 138 = .ok (.iconst 2, 1) := by decide +kernel
theorem dX12_isDone_139 : decode cX12_isDone 139 = .ok (.invokestatic 51, 3) := by decide +kernel
theorem dX12_isDone_142 : decode cX12_isDone 142 = .ok (.iload_n 3, 1) := by decide +kernel
theorem dX12_isDone_143 : decode cX12_isDone 143 = .ok (.iastore, 1) := by decide +kernel
theorem dX12_isDone_144 : decode cX12_isDone 144 = .ok (.iconst 1, 1) := by decide +kernel
theorem dX12_isDone_145 : decode cX12_isDone 145 = .ok (.ireturn, 1) := by decide +kernel
theorem dX12_isDone_146 : decode cX12_isDone 146 = .ok (.aload_n 0, 1) := by decide +kernel
theorem dX12_isDone_147 : decode cX12_isDone 147 = .ok (.iload_n 2, 1) := by decide +kernel
theorem dX12_isDone_148 : decode cX12_isDone 148 = .ok (.invokevirtual 47, 3) := by decide +kernel
theorem dX12_isDone_151 : decode cX12_isDone 151 = .ok (.ifCond .eq 19, 3) := by decide +kernel
theorem dX12_isDone_154 : decode cX12_isDone 154 = .ok (.aload_n 0, 1) := by decide +kernel
theorem dX12_isDone_155 : decode cX12_isDone 155 = .ok (.getfield 9, 3) := by decide +kernel
theorem dX12_isDone_158 : decode cX12_isDone 158 = .ok (.iload_n 2, 1) := by decide +kernel
theorem dX12_isDone_159 : decode cX12_isDone 159 = .ok (.invokestatic 66, 3) := by decide +kernel
theorem dX12_isDone_162 : decode cX12_isDone 162 = .ok (.ifCond .eq 8, 3) := by decide +kernel
theorem dX12_isDone_165 : decode cX12_isDone 165 = .ok (.iload_n 3, 1) := by decide +kernel
theorem dX12_isDone_166 : decode cX12_isDone 166 = .ok (.iconst 1, 1) := by decide +kernel
theorem dX12_isDone_167 : decode cX12_isDone 167 = .ok (.if_icmp .le 5, 3) := by decide +kernel
theorem dX12_isDone_170 : decode cX12_isDone 170 = .ok (.iconst 0, 1) := by decide +kernel
theorem dX12_isDone_171 : decode cX12_isDone 171 = .ok (.ireturn, 1) := by decide +kernel
theorem dX12_isDone_172 : decode cX12_isDone 172 = .ok (.aload_n 0, 1) := by decide +kernel
theorem dX12_isDone_173 : decode cX12_isDone 173 = .ok (.getfield 9, 3) := by decide +kernel
theorem dX12_isDone_176 : decode cX12_isDone 176 = .ok (.iload_n 2, 1) := by decide +kernel
theorem dX12_isDone_177 : decode cX12_isDone 177 = .ok (.iconst 3, 1) := by decide +kernel
theorem dX12_isDone_178 : decode cX12_isDone 178 = .ok (.invokestatic 51, 3) := by decide +kernel
theorem dX12_isDone_181 : decode cX12_isDone 181 = .ok (.iload_n 3, 1) := by decide +kernel
theorem dX12_isDone_182 : decode cX12_isDone 182 = .ok (.iastore, 1) := by decide +kernel
theorem dX12_isDone_183 : decode cX12_isDone 183 = .ok (.iconst 1, 1) := by decide +kernel
theorem dX12_isDone_184 : decode cX12_isDone 184 = .ok (.ireturn, 1) := by decide +kernel
theorem dX12_isDone_185 : decode cX12_isDone 185 = .ok (.aload_n 0, 1) := by decide +kernel
theorem dX12_isDone_186 : decode cX12_isDone 186 = .ok (.iload_n 2, 1) := by decide +kernel
theorem dX12_isDone_187 : decode cX12_isDone 187 = .ok (.iload_n 3, 1) := by decide +kernel
theorem dX12_isDone_188 : decode cX12_isDone 188 = .ok (.invokevirtual 115, 3) := by decide +kernel
theorem dX12_isDone_191 : decode cX12_isDone 191 = .ok (.ifCond .eq 31, 3) := by decide +kernel
theorem dX12_isDone_194 : decode cX12_isDone 194 = .ok (.aload_n 0, 1) := by decide +kernel
theorem dX12_isDone_195 : decode cX12_isDone 195 = .ok (.getfield 22, 3) := by decide +kernel
theorem dX12_isDone_198 : decode cX12_isDone 198 = .ok (.iconst 2, 1) := by decide +kernel
theorem dX12_isDone_199 : decode cX12_isDone 199 = .ok (.iaload, 1) := by decide +kernel
theorem dX12_isDone_200 : decode cX12_isDone 200 = .ok (.iconst 1, 1) := by decide +kernel
theorem dX12_isDone_201 : decode cX12_isDone 201 = .ok (.if_icmp .lt 21, 3) := by decide +kernel
theorem dX12_isDone_204 : decode cX12_isDone 204 = .ok (.aload_n 0, 1) := by decide +kernel
theorem dX12_isDone_205 : decode cX12_isDone 205 = .ok (.getfield 9, 3) := by decide +kernel
theorem dX12_isDone_208 : decode cX12_isDone 208 = .ok (.iload_n 2, 1) := by decide +kernel
theorem dX12_isDone_209 : decode cX12_isDone 209 = .ok (.iload_n 3, 1) := by decide +kernel
theorem dX12_isDone_210 : decode cX12_isDone 210 = .ok (.aload_n 0, 1) := by decide +kernel
theorem dX12_isDone_211 : decode cX12_isDone 211 = .ok (.getfield 22, 3) := by decide +kernel
theorem dX12_isDone_214 : decode cX12_isDone 214 = .ok (.iconst 2, 1) := by decide +kernel
theorem dX12_isDone_215 : decode cX12_isDone 215 = .ok (.iaload, 1) := by decide +kernel
theorem dX12_isDone_216 : decode cX12_isDone 216 = .ok (.invokestatic 118, 3) := by decide +kernel
theorem dX12_isDone_219 : decode cX12_isDone 219 = .ok (.ifCond .ne 5, 3) := by decide +kernel
theorem dX12_isDone_222 : decode cX12_isDone 222 = .ok (.iconst 0, 1) := by decide +kernel
theorem dX12_isDone_223 : decode cX12_isDone 223 = .ok (.ireturn, 1) := by decide +kernel
theorem dX12_isDone_224 : decode cX12_isDone 224 = .ok (.aload_n 0, 1) := by decide +kernel
theorem dX12_isDone_225 : decode cX12_isDone 225 = .ok (.getfield 9, 3) := by decide +kernel
theorem dX12_isDone_228 : decode cX12_isDone 228 = .ok (.iload_n 2, 1) := by decide +kernel
theorem dX12_isDone_229 : decode cX12_isDone 229 = .ok (.iload_n 3, 1) := by decide +kernel
theorem dX12_isDone_230 : decode cX12_isDone 230 = .ok (.aload_n 0, 1) := by decide +kernel
theorem dX12_isDone_231 : decode cX12_isDone 231 = .ok (.getfield 22, 3) := by decide +kernel
theorem dX12_isDone_234 : decode cX12_isDone 234 = .ok (.iconst 2, 1) := by decide +kernel
theorem dX12_isDone_235 : decode cX12_isDone 235 = .ok (.iaload, 1) := by decide +kernel
theorem dX12_isDone_236 : decode cX12_isDone 236 = .ok (.invokestatic 122, 3) := by decide +kernel
theorem dX12_isDone_239 : decode cX12_isDone 239 = .ok (.iconst 1, 1) := by decide +kernel
theorem dX12_isDone_240 : decode cX12_isDone 240 = .ok (.ireturn, 1) := by decide +kernel
theorem dX12_isDone_241 : decode cX12_isDone 241 = .ok (.iload_n 2, 1) := by decide +kernel
theorem dX12_isDone_242 : decode cX12_isDone 242 = .ok (.iconst 1, 1) := by decide +kernel
theorem dX12_isDone_243 : decode cX12_isDone 243 = .ok (.bipush 60, 2) := by decide +kernel
theorem dX12_isDone_245 : decode cX12_isDone 245 = .ok (.invokestatic 43, 3) := by decide +kernel
theorem dX12_isDone_248 : decode cX12_isDone 248 = .ok (.ifCond .eq 17, 3) := by decide +kernel
theorem dX12_isDone_251 : decode cX12_isDone 251 = .ok (.aload_n 0, 1) := by decide +kernel
theorem dX12_isDone_252 : decode cX12_isDone 252 = .ok (.getfield 9, 3) := by decide +kernel
theorem dX12_isDone_255 : decode cX12_isDone 255 = .ok (.iconst 1, 1) := by decide +kernel
theorem dX12_isDone_256 : decode cX12_isDone 256 = .ok (.iaload, 1) := by decide +kernel
theorem dX12_isDone_257 : decode cX12_isDone 257 = .ok (.iload_n 2, 1) := by decide +kernel
theorem dX12_isDone_258 : decode cX12_isDone 258 = .ok (.iadd, 1) := by decide +kernel
theorem dX12_isDone_259 : decode cX12_isDone 259 = .ok (.sipush 999, 3) := by decide +kernel
theorem dX12_isDone_262 : decode cX12_isDone 262 = .ok (.if_icmp .le 5, 3) := by decide +kernel
theorem dX12_isDone_265 : decode cX12_isDone 265 = .ok (.iconst 0, 1) := by decide +kernel
theorem dX12_isDone_266 : decode cX12_isDone 266 = .ok (.ireturn, 1) := by decide +kernel
theorem dX12_isDone_267 : decode cX12_isDone 267 = .ok (.aload_n 0, 1) := by decide +kernel
theorem dX12_isDone_268 : decode cX12_isDone 268 = .ok (.getfield 9, 3) := by decide +kernel
theorem dX12_isDone_271 : decode cX12_isDone 271 = .ok (.iload_n 2, 1) := by decide +kernel
theorem dX12_isDone_272 : decode cX12_isDone 272 = .ok (.invokestatic 126, 3) := by decide +kernel
theorem dX12_isDone_275 : decode cX12_isDone 275 = .ok (.iconst 1, 1) := by decide +kernel
theorem dX12_isDone_276 : decode cX12_isDone 276 = .ok (.ireturn, 1) := by decide +kernel
set_option maxRecDepth 20000 in
theorem ggX12_isle_X12_wrongRow : GoodIn wsX12_isle wsX12_wrongRow := goodIn_r _ [11, 12, 13, 14, 15, 10, 16, 17, 18, 19, 95, 96, 97, 98, 99, 100, 101, 102, 103, 104, 105, 106, 107, 108, 109, 110, 111] (by decide +kernel) (by decide +kernel)
set_option maxRecDepth 20000 in
theorem gX12_isle_X12_wrongRow : GoodIn wsX12_isle (wsV RX12 130 RX12 yX12_wrongRow wsX12_wrongRow) := goodIn_app (goodIn_of _ (by decide +kernel)) ggX12_isle_X12_wrongRow
set_option maxRecDepth 20000 in
theorem ggX12_isle_X12_readsStatement : GoodIn wsX12_isle wsX12_readsStatement := goodIn_r _ [23, 4, 24, 25, 26, 10, 27, 3, 28, 1, 29, 30, 31, 32, 33, 17, 18, 19, 95, 96, 97, 98, 99, 100, 101, 102, 103, 104, 105, 106, 107, 108, 109, 110, 111] (by decide +kernel) (by decide +kernel)
set_option maxRecDepth 20000 in
theorem gX12_isle_X12_readsStatement : GoodIn wsX12_isle (wsV RX12 133 RX12 yX12_readsStatement wsX12_readsStatement) := goodIn_app (goodIn_of _ (by decide +kernel)) ggX12_isle_X12_readsStatement
set_option maxRecDepth 20000 in
theorem ggX12_isle_X12_copies : GoodIn wsX12_isle wsX12_copies := goodIn_r _ [36] (by decide +kernel) (by decide +kernel)
set_option maxRecDepth 20000 in
theorem gX12_isle_X12_copies : GoodIn wsX12_isle (va_wsS RX12 137 yX12_copies wsX12_copies) := goodIn_app (goodIn_of _ (by decide +kernel)) ggX12_isle_X12_copies
set_option maxRecDepth 20000 in
theorem ggX12_isle_X12_here : GoodIn wsX12_isle wsX12_here := goodIn_r _ [27, 4, 3, 28, 1, 95, 96, 97, 98, 99, 100, 101, 102, 103, 104, 105, 106, 107, 108, 109, 110, 111] (by decide +kernel) (by decide +kernel)
set_option maxRecDepth 20000 in
theorem gX12_isle_X12_here : GoodIn wsX12_isle (wsV RX12 104 RX12 yX12_here wsX12_here) := goodIn_app (goodIn_of _ (by decide +kernel)) ggX12_isle_X12_here
set_option maxRecDepth 20000 in
theorem ggX12_isle_X12_isDone : GoodIn wsX12_isle wsX12_isDone := goodIn_r _ [40, 33, 5, 41, 42, 43, 10, 44, 45, 46, 47, 48, 49, 50, 51, 17, 18, 19, 52, 53, 54, 55, 56, 57, 58, 59, 60, 61, 62, 63, 64, 65, 66, 67, 68, 69, 70, 71, 72, 73, 74, 75, 76, 77, 78, 79, 80, 81, 82, 83, 84, 85, 86, 87, 88, 89, 90, 91, 92, 93, 94, 95, 96, 97, 98, 99, 100, 101, 102, 103, 104, 105, 106, 107, 108, 109, 110, 111] (by decide +kernel) (by decide +kernel)
set_option maxRecDepth 20000 in
theorem gX12_isle_X12_isDone : GoodIn wsX12_isle (wsV RX12 141 RX12 yX12_isDone wsX12_isDone) := goodIn_app (goodIn_of _ (by decide +kernel)) ggX12_isle_X12_isDone
theorem dX12_isle_0 : decode cX12_isle 0 = .ok (.aload_n 0, 1) := by decide +kernel
theorem dX12_isle_1 : decode cX12_isle 1 = .ok (.iload_n 1, 1) := by decide +kernel
theorem dX12_isle_2 : decode cX12_isle 2 = .ok (.iconst 0, 1) := by decide +kernel
theorem dX12_isle_3 : decode cX12_isle 3 = .ok (.invokevirtual 130, 3) := by decide +kernel
theorem dX12_isle_6 : decode cX12_isle 6 = .ok (.istore_n 2, 1) := by decide +kernel
theorem dX12_isle_7 : decode cX12_isle 7 = .ok (.iload_n 2, 1) := by decide +kernel
theorem dX12_isle_8 : decode cX12_isle 8 = .ok (.ifCond .eq 5, 3) := by decide +kernel
theorem dX12_isle_11 : decode cX12_isle 11 = .ok (.iload_n 2, 1) := by decide +kernel
theorem dX12_isle_12 : decode cX12_isle 12 = .ok (.ireturn, 1) := by decide +kernel
theorem dX12_isle_13 : decode cX12_isle 13 = .ok (.aload_n 0, 1) := by decide +kernel
theorem dX12_isle_14 : decode cX12_isle 14 = .ok (.bipush 100, 2) := by decide +kernel
theorem dX12_isle_16 : decode cX12_isle 16 = .ok (.iload_n 1, 1) := by decide +kernel
theorem dX12_isle_17 : decode cX12_isle 17 = .ok (.imul, 1) := by decide +kernel
theorem dX12_isle_18 : decode cX12_isle 18 = .ok (.putfield 101, 3) := by decide +kernel
theorem dX12_isle_21 : decode cX12_isle 21 = .ok (.aload_n 0, 1) := by decide +kernel
theorem dX12_isle_22 : decode cX12_isle 22 = .ok (.aload_n 0, 1) := by decide +kernel
theorem dX12_isle_23 : decode cX12_isle 23 = .ok (.getfield 37, 3) := by decide +kernel
theorem dX12_isle_26 : decode cX12_isle 26 = .ok (.iload_n 1, 1) := by decide +kernel
theorem dX12_isle_27 : decode cX12_isle 27 = .ok (.iaload, 1) := by decide +kernel
theorem dX12_isle_28 : decode cX12_isle 28 = .ok (.putfield 98, 3) := by decide +kernel
theorem dX12_isle_31 : decode cX12_isle 31 = .ok (.aload_n 0, 1) := by decide +kernel
theorem dX12_isle_32 : decode cX12_isle 32 = .ok (.iconst 0, 1) := by decide +kernel
theorem dX12_isle_33 : decode cX12_isle 33 = .ok (.putfield 94, 3) := by decide +kernel
theorem dX12_isle_36 : decode cX12_isle 36 = .ok (.iconst 0, 1) := by decide +kernel
theorem dX12_isle_37 : decode cX12_isle 37 = .ok (.istore_n 3, 1) := by decide +kernel
theorem dX12_isle_38 : decode cX12_isle 38 = .ok (.iconst 0, 1) := by decide +kernel
theorem dX12_isle_39 : decode cX12_isle 39 = .ok (.istore 4, 2) := by decide +kernel
theorem dX12_isle_41 : decode cX12_isle 41 = .ok (.aload_n 0, 1) := by decide +kernel
theorem dX12_isle_42 : decode cX12_isle 42 = .ok (.invokevirtual 133, 3) := by decide +kernel
theorem dX12_isle_45 : decode cX12_isle 45 = .ok (.ifCond .ne 13, 3) := by decide +kernel
theorem dX12_isle_48 : decode cX12_isle 48 = .ok (.sipush (-1000), 3) := by decide +kernel
theorem dX12_isle_51 : decode cX12_isle 51 = .ok (.aload_n 0, 1) := by decide +kernel
theorem dX12_isle_52 : decode cX12_isle 52 = .ok (.getfield 94, 3) := by decide +kernel
theorem dX12_isle_55 : decode cX12_isle 55 = .ok (.isub, 1) := by decide +kernel
theorem dX12_isle_56 : decode cX12_isle 56 = .ok (.istore 4, 2) := by decide +kernel
theorem dX12_isle_58 : decode cX12_isle 58 = .ok (.iinc 3 1, 3) := by decide +kernel
theorem dX12_isle_61 : decode cX12_isle 61 = .ok (.iload 4, 2) := by decide +kernel
theorem dX12_isle_63 : decode cX12_isle 63 = .ok (.ifCond .ne 14, 3) := by decide +kernel
theorem dX12_isle_66 : decode cX12_isle 66 = .ok (.aload_n 0, 1) := by decide +kernel
theorem dX12_isle_67 : decode cX12_isle 67 = .ok (.getfield 94, 3) := by decide +kernel
theorem dX12_isle_70 : decode cX12_isle 70 = .ok (.aload_n 0, 1) := by decide +kernel
theorem dX12_isle_71 : decode cX12_isle 71 = .ok (.getfield 98, 3) := by decide +kernel
theorem dX12_isle_74 : decode cX12_isle 74 = .ok (.if_icmp .lt (-33), 3) := by decide +kernel
theorem dX12_isle_77 : decode cX12_isle 77 = .ok (.aload_n 0, 1) := by decide +kernel
theorem dX12_isle_78 : decode cX12_isle 78 = .ok (.getfield 9, 3) := by decide +kernel
theorem dX12_isle_81 : decode cX12_isle 81 = .ok (.aload_n 0, 1) := by decide +kernel
theorem dX12_isle_82 : decode cX12_isle 82 = .ok (.getfield 19, 3) := by decide +kernel
theorem dX12_isle_85 : decode cX12_isle 85 = .ok (.invokestatic 137, 3) := by decide +kernel
theorem dX12_isle_88 : decode cX12_isle 88 = .ok (.aload_n 0, 1) := by decide +kernel
theorem dX12_isle_89 : decode cX12_isle 89 = .ok (.iconst 0, 1) := by decide +kernel
theorem dX12_isle_90 : decode cX12_isle 90 = .ok (.putfield 94, 3) := by decide +kernel
theorem dX12_isle_93 : decode cX12_isle 93 = .ok (.iload 4, 2) := by decide +kernel
theorem dX12_isle_95 : decode cX12_isle 95 = .ok (.ifCond .ne 66, 3) := by decide +kernel
theorem dX12_isle_98 : decode cX12_isle 98 = .ok (.aload_n 0, 1) := by decide +kernel
theorem dX12_isle_99 : decode cX12_isle 99 = .ok (.getfield 94, 3) := by decide +kernel
theorem dX12_isle_102 : decode cX12_isle 102 = .ok (.aload_n 0, 1) := by decide +kernel
theorem dX12_isle_103 : decode cX12_isle 103 = .ok (.getfield 98, 3) := by decide +kernel
theorem dX12_isle_106 : decode cX12_isle 106 = .ok (.if_icmp .ge 55, 3) := by decide +kernel
theorem dX12_isle_109 : decode cX12_isle 109 = .ok (.aload_n 0, 1) := by decide +kernel
theorem dX12_isle_110 : decode cX12_isle 110 = .ok (.getfield 94, 3) := by decide +kernel
theorem dX12_isle_113 : decode cX12_isle 113 = .ok (.istore 5, 2) := by decide +kernel
theorem dX12_isle_115 : decode cX12_isle 115 = .ok (.aload_n 0, 1) := by decide +kernel
theorem dX12_isle_116 : decode cX12_isle 116 = .ok (.invokevirtual 104, 3) := by decide +kernel
theorem dX12_isle_119 : decode cX12_isle 119 = .ok (.istore 6, 2) := by decide +kernel
theorem dX12_isle_121 : decode cX12_isle 121 = .ok (.aload_n 0, 1) := by decide +kernel
theorem dX12_isle_122 : decode cX12_isle 122 = .ok (.invokevirtual 133, 3) := by decide +kernel
theorem dX12_isle_125 : decode cX12_isle 125 = .ok (.istore 7, 2) := by decide +kernel
theorem dX12_isle_127 : decode cX12_isle 127 = .ok (.aload_n 0, 1) := by decide +kernel
theorem dX12_isle_128 : decode cX12_isle 128 = .ok (.iload 6, 2) := by decide +kernel
theorem dX12_isle_130 : decode cX12_isle 130 = .ok (.invokevirtual 141, 3) := by decide +kernel
theorem dX12_isle_133 : decode cX12_isle 133 = .ok (.ifCond .eq 6, 3) := by decide +kernel
theorem dX12_isle_136 : decode cX12_isle 136 = .ok (.goto (-43), 3) := by decide +kernel
theorem dX12_isle_139 : decode cX12_isle 139 = .ok (.sipush (-2000), 3) := by decide +kernel
theorem dX12_isle_142 : decode cX12_isle 142 = .ok (.iload 5, 2) := by decide +kernel
theorem dX12_isle_144 : decode cX12_isle 144 = .ok (.isub, 1) := by decide +kernel
theorem dX12_isle_145 : decode cX12_isle 145 = .ok (.istore 4, 2) := by decide +kernel
theorem dX12_isle_147 : decode cX12_isle 147 = .ok (.aload_n 0, 1) := by decide +kernel
theorem dX12_isle_148 : decode cX12_isle 148 = .ok (.getfield 19, 3) := by decide +kernel
theorem dX12_isle_151 : decode cX12_isle 151 = .ok (.aload_n 0, 1) := by decide +kernel
theorem dX12_isle_152 : decode cX12_isle 152 = .ok (.getfield 9, 3) := by decide +kernel
theorem dX12_isle_155 : decode cX12_isle 155 = .ok (.invokestatic 137, 3) := by decide +kernel
theorem dX12_isle_158 : decode cX12_isle 158 = .ok (.goto (-65), 3) := by decide +kernel
theorem dX12_isle_161 : decode cX12_isle 161 = .ok (.iload 4, 2) := by decide +kernel
theorem dX12_isle_163 : decode cX12_isle 163 = .ok (.ifCond .ne 7, 3) := by decide +kernel
theorem dX12_isle_166 : decode cX12_isle 166 = .ok (.iload_n 3, 1) := by decide +kernel
theorem dX12_isle_167 : decode cX12_isle 167 = .ok (.goto 5, 3) := by decide +kernel
theorem dX12_isle_170 : decode cX12_isle 170 = .ok (.iload 4, 2) := by decide +kernel
theorem dX12_isle_172 : decode cX12_isle 172 = .ok (.ireturn, 1) := by decide +kernel
set_option maxRecDepth 20000 in
theorem ggX12_tenant_X12_isTenant : GoodIn wsX12_tenant wsX12_isTenant := goodIn_r _ [6, 1, 7, 8, 5, 9, 28, 29, 30, 31, 32, 33, 34, 35, 36, 37, 38, 39, 40, 41, 42, 43, 44] (by decide +kernel) (by decide +kernel)
set_option maxRecDepth 20000 in
theorem gX12_tenant_X12_isTenant : GoodIn wsX12_tenant (wsV RX12 47 RX12 yX12_isTenant wsX12_isTenant) := goodIn_app (goodIn_of _ (by decide +kernel)) ggX12_tenant_X12_isTenant
set_option maxRecDepth 20000 in
theorem ggX12_tenant_X12_isIn : GoodIn wsX12_tenant wsX12_isIn := goodIn_r _ [9] (by decide +kernel) (by decide +kernel)
set_option maxRecDepth 20000 in
theorem gX12_tenant_X12_isIn : GoodIn wsX12_tenant (va_wsS RX12 43 yX12_isIn wsX12_isIn) := goodIn_app (goodIn_of _ (by decide +kernel)) ggX12_tenant_X12_isIn
set_option maxRecDepth 20000 in
theorem ggX12_tenant_X12_owes : GoodIn wsX12_tenant wsX12_owes := goodIn_r _ [12, 13, 14, 5, 15, 16, 17, 18, 19, 20, 21] (by decide +kernel) (by decide +kernel)
set_option maxRecDepth 20000 in
theorem gX12_tenant_X12_owes : GoodIn wsX12_tenant (va_wsS RX12 74 yX12_owes wsX12_owes) := goodIn_app (goodIn_of _ (by decide +kernel)) ggX12_tenant_X12_owes
set_option maxRecDepth 20000 in
theorem ggX12_tenant_X12_catches : GoodIn wsX12_tenant wsX12_catches := goodIn_r _ [24, 13, 14, 5, 15, 25, 26, 27] (by decide +kernel) (by decide +kernel)
set_option maxRecDepth 20000 in
theorem gX12_tenant_X12_catches : GoodIn wsX12_tenant (va_wsS RX12 80 yX12_catches wsX12_catches) := goodIn_app (goodIn_of _ (by decide +kernel)) ggX12_tenant_X12_catches
set_option maxRecDepth 20000 in
theorem ggX12_tenant_X12_of : GoodIn wsX12_tenant wsX12_of := goodIn_r _ [15] (by decide +kernel) (by decide +kernel)
set_option maxRecDepth 20000 in
theorem gX12_tenant_X12_of : GoodIn wsX12_tenant (va_wsS RX12 51 yX12_of wsX12_of) := goodIn_app (goodIn_of _ (by decide +kernel)) ggX12_tenant_X12_of
theorem dX12_tenant_0 : decode cX12_tenant 0 = .ok (.aload_n 0, 1) := by decide +kernel
theorem dX12_tenant_1 : decode cX12_tenant 1 = .ok (.iload_n 1, 1) := by decide +kernel
theorem dX12_tenant_2 : decode cX12_tenant 2 = .ok (.invokevirtual 47, 3) := by decide +kernel
theorem dX12_tenant_5 : decode cX12_tenant 5 = .ok (.ifCond .eq 13, 3) := by decide +kernel
theorem dX12_tenant_8 : decode cX12_tenant 8 = .ok (.iload_n 2, 1) := by decide +kernel
theorem dX12_tenant_9 : decode cX12_tenant 9 = .ok (.iconst 0, 1) := by decide +kernel
theorem dX12_tenant_10 : decode cX12_tenant 10 = .ok (.bipush 6, 2) := by decide +kernel
theorem dX12_tenant_12 : decode cX12_tenant 12 = .ok (.invokestatic 43, 3) := by decide +kernel
theorem dX12_tenant_15 : decode cX12_tenant 15 = .ok (.ifCond .ne 5, 3) := by decide +kernel
theorem dX12_tenant_18 : decode cX12_tenant 18 = .ok (.iconst (-1), 1) := by decide +kernel
theorem dX12_tenant_19 : decode cX12_tenant 19 = .ok (.ireturn, 1) := by decide +kernel
theorem dX12_tenant_20 : decode cX12_tenant 20 = .ok (.iload_n 2, 1) := by decide +kernel
theorem dX12_tenant_21 : decode cX12_tenant 21 = .ok (.iconst 5, 1) := by decide +kernel
theorem dX12_tenant_22 : decode cX12_tenant 22 = .ok (.if_icmp .ne 14, 3) := by decide +kernel
theorem dX12_tenant_25 : decode cX12_tenant 25 = .ok (.aload_n 0, 1) := by decide +kernel
theorem dX12_tenant_26 : decode cX12_tenant 26 = .ok (.getfield 9, 3) := by decide +kernel
theorem dX12_tenant_29 : decode cX12_tenant 29 = .ok (.iload_n 1, 1) := by decide +kernel
theorem dX12_tenant_30 : decode cX12_tenant 30 = .ok (.invokestatic 74, 3) := by decide +kernel
theorem dX12_tenant_33 : decode cX12_tenant 33 = .ok (.goto 44, 3) := by decide +kernel
theorem dX12_tenant_36 : decode cX12_tenant 36 = .ok (.iload_n 2, 1) := by decide +kernel
theorem dX12_tenant_37 : decode cX12_tenant 37 = .ok (.bipush 6, 2) := by decide +kernel
theorem dX12_tenant_39 : decode cX12_tenant 39 = .ok (.if_icmp .ne 28, 3) := by decide +kernel
theorem dX12_tenant_42 : decode cX12_tenant 42 = .ok (.aload_n 0, 1) := by decide +kernel
theorem dX12_tenant_43 : decode cX12_tenant 43 = .ok (.getfield 9, 3) := by decide +kernel
theorem dX12_tenant_46 : decode cX12_tenant 46 = .ok (.iload_n 1, 1) := by decide +kernel
theorem dX12_tenant_47 : decode cX12_tenant 47 = .ok (.aload_n 0, 1) := by decide +kernel
theorem dX12_tenant_48 : decode cX12_tenant 48 = .ok (.getfield 9, 3) := by decide +kernel
theorem dX12_tenant_51 : decode cX12_tenant 51 = .ok (.iconst 2, 1) := by decide +kernel
theorem dX12_tenant_52 : decode cX12_tenant 52 = .ok (.iaload, 1) := by decide +kernel
theorem dX12_tenant_53 : decode cX12_tenant 53 = .ok (.aload_n 0, 1) := by decide +kernel
theorem dX12_tenant_54 : decode cX12_tenant 54 = .ok (.getfield 9, 3) := by decide +kernel
theorem dX12_tenant_57 : decode cX12_tenant 57 = .ok (.iconst 1, 1) := by decide +kernel
theorem dX12_tenant_58 : decode cX12_tenant 58 = .ok (.iaload, 1) := by decide +kernel
theorem dX12_tenant_59 : decode cX12_tenant 59 = .ok (.iconst 1, 1) := by decide +kernel
theorem dX12_tenant_60 : decode cX12_tenant 60 = .ok (.iadd, 1) := by decide +kernel
theorem dX12_tenant_61 : decode cX12_tenant 61 = .ok (.invokestatic 80, 3) := by decide +kernel
theorem dX12_tenant_64 : decode cX12_tenant 64 = .ok (.goto 13, 3) := by decide +kernel
theorem dX12_tenant_67 : decode cX12_tenant 67 = .ok (.aload_n 0, 1) := by decide +kernel
theorem dX12_tenant_68 : decode cX12_tenant 68 = .ok (.getfield 9, 3) := by decide +kernel
theorem dX12_tenant_71 : decode cX12_tenant 71 = .ok (.iload_n 1, 1) := by decide +kernel
theorem dX12_tenant_72 : decode cX12_tenant 72 = .ok (.iload_n 2, 1) := by decide +kernel
theorem dX12_tenant_73 : decode cX12_tenant 73 = .ok (.invokestatic 51, 3) := by decide +kernel
theorem dX12_tenant_76 : decode cX12_tenant 76 = .ok (.iaload, 1) := by decide +kernel
theorem dX12_tenant_77 : decode cX12_tenant 77 = .ok (.ireturn, 1) := by decide +kernel
set_option maxRecDepth 20000 in
theorem ggX12_comes_X12_isIn : GoodIn wsX12_comes wsX12_isIn := goodIn_r _ [7] (by decide +kernel) (by decide +kernel)
set_option maxRecDepth 20000 in
theorem gX12_comes_X12_isIn : GoodIn wsX12_comes (va_wsS RX12 43 yX12_isIn wsX12_isIn) := goodIn_app (goodIn_of _ (by decide +kernel)) ggX12_comes_X12_isIn
set_option maxRecDepth 20000 in
theorem ggX12_comes_X12_wrongKept : GoodIn wsX12_comes wsX12_wrongKept := goodIn_r _ [11, 12, 13, 14, 6, 15, 4, 5, 7, 23, 24, 25, 26, 27, 28, 29, 30, 31, 32, 33, 34, 35, 36, 37, 38, 39] (by decide +kernel) (by decide +kernel)
set_option maxRecDepth 20000 in
theorem gX12_comes_X12_wrongKept : GoodIn wsX12_comes (wsV RX12 144 RX12 yX12_wrongKept wsX12_wrongKept) := goodIn_app (goodIn_of _ (by decide +kernel)) ggX12_comes_X12_wrongKept
set_option maxRecDepth 20000 in
theorem ggX12_comes_X12_adds : GoodIn wsX12_comes wsX12_adds := goodIn_r _ [19, 1, 20, 21, 6, 22, 23, 24, 25, 26, 27, 28, 29, 30, 31, 32, 33, 34, 35, 36, 37, 38, 39] (by decide +kernel) (by decide +kernel)
set_option maxRecDepth 20000 in
theorem gX12_comes_X12_adds : GoodIn wsX12_comes (wsV RX12 111 RX12 yX12_adds wsX12_adds) := goodIn_app (goodIn_of _ (by decide +kernel)) ggX12_comes_X12_adds
theorem dX12_comes_0 : decode cX12_comes 0 = .ok (.iload_n 2, 1) := by decide +kernel
theorem dX12_comes_1 : decode cX12_comes 1 = .ok (.iconst 0, 1) := by decide +kernel
theorem dX12_comes_2 : decode cX12_comes 2 = .ok (.bipush 99, 2) := by decide +kernel
theorem dX12_comes_4 : decode cX12_comes 4 = .ok (.invokestatic 43, 3) := by decide +kernel
theorem dX12_comes_7 : decode cX12_comes 7 = .ok (.ifCond .ne 5, 3) := by decide +kernel
theorem dX12_comes_10 : decode cX12_comes 10 = .ok (.iconst (-1), 1) := by decide +kernel
theorem dX12_comes_11 : decode cX12_comes 11 = .ok (.ireturn, 1) := by decide +kernel
theorem dX12_comes_12 : decode cX12_comes 12 = .ok (.aload_n 0, 1) := by decide +kernel
theorem dX12_comes_13 : decode cX12_comes 13 = .ok (.iload_n 1, 1) := by decide +kernel
theorem dX12_comes_14 : decode cX12_comes 14 = .ok (.invokevirtual 144, 3) := by decide +kernel
theorem dX12_comes_17 : decode cX12_comes 17 = .ok (.istore_n 3, 1) := by decide +kernel
theorem dX12_comes_18 : decode cX12_comes 18 = .ok (.iload_n 3, 1) := by decide +kernel
theorem dX12_comes_19 : decode cX12_comes 19 = .ok (.ifCond .eq 5, 3) := by decide +kernel
theorem dX12_comes_22 : decode cX12_comes 22 = .ok (.iload_n 3, 1) := by decide +kernel
theorem dX12_comes_23 : decode cX12_comes 23 = .ok (.ireturn, 1) := by decide +kernel
theorem dX12_comes_24 : decode cX12_comes 24 = .ok (.aload_n 0, 1) := by decide +kernel
theorem dX12_comes_25 : decode cX12_comes 25 = .ok (.getfield 9, 3) := by decide +kernel
theorem dX12_comes_28 : decode cX12_comes 28 = .ok (.iconst 0, 1) := by decide +kernel
theorem dX12_comes_29 : decode cX12_comes 29 = .ok (.iaload, 1) := by decide +kernel
theorem dX12_comes_30 : decode cX12_comes 30 = .ok (.bipush 7, 2) := by decide +kernel
theorem dX12_comes_32 : decode cX12_comes 32 = .ok (.if_icmp .ne 6, 3) := by decide +kernel
theorem dX12_comes_35 : decode cX12_comes 35 = .ok (.bipush (-2), 2) := by decide +kernel
theorem dX12_comes_37 : decode cX12_comes 37 = .ok (.ireturn, 1) := by decide +kernel
theorem dX12_comes_38 : decode cX12_comes 38 = .ok (.aload_n 0, 1) := by decide +kernel
theorem dX12_comes_39 : decode cX12_comes 39 = .ok (.aload_n 0, 1) := by decide +kernel
theorem dX12_comes_40 : decode cX12_comes 40 = .ok (.getfield 28, 3) := by decide +kernel
theorem dX12_comes_43 : decode cX12_comes 43 = .ok (.iload_n 1, 1) := by decide +kernel
theorem dX12_comes_44 : decode cX12_comes 44 = .ok (.iaload, 1) := by decide +kernel
theorem dX12_comes_45 : decode cX12_comes 45 = .ok (.aload_n 0, 1) := by decide +kernel
theorem dX12_comes_46 : decode cX12_comes 46 = .ok (.getfield 31, 3) := by decide +kernel
theorem dX12_comes_49 : decode cX12_comes 49 = .ok (.iload_n 1, 1) := by decide +kernel
theorem dX12_comes_50 : decode cX12_comes 50 = .ok (.iaload, 1) := by decide +kernel
theorem dX12_comes_51 : decode cX12_comes 51 = .ok (.iload_n 2, 1) := by decide +kernel
theorem dX12_comes_52 : decode cX12_comes 52 = .ok (.invokevirtual 111, 3) := by decide +kernel
theorem dX12_comes_55 : decode cX12_comes 55 = .ok (.aload_n 0, 1) := by decide +kernel
theorem dX12_comes_56 : decode cX12_comes 56 = .ok (.getfield 9, 3) := by decide +kernel
theorem dX12_comes_59 : decode cX12_comes 59 = .ok (.iconst 0, 1) := by decide +kernel
theorem dX12_comes_60 : decode cX12_comes 60 = .ok (.iaload, 1) := by decide +kernel
theorem dX12_comes_61 : decode cX12_comes 61 = .ok (.iconst 1, 1) := by decide +kernel
theorem dX12_comes_62 : decode cX12_comes 62 = .ok (.isub, 1) := by decide +kernel
theorem dX12_comes_63 : decode cX12_comes 63 = .ok (.ireturn, 1) := by decide +kernel
theorem dX12_sets_0 : decode cX12_sets 0 = .ok (.aload_n 0, 1) := by decide +kernel
theorem dX12_sets_1 : decode cX12_sets 1 = .ok (.getfield 9, 3) := by decide +kernel
theorem dX12_sets_4 : decode cX12_sets 4 = .ok (.iload_n 1, 1) := by decide +kernel
theorem dX12_sets_5 : decode cX12_sets 5 = .ok (.iaload, 1) := by decide +kernel
theorem dX12_sets_6 : decode cX12_sets 6 = .ok (.istore_n 3, 1) := by decide +kernel
theorem dX12_sets_7 : decode cX12_sets 7 = .ok (.aload_n 0, 1) := by decide +kernel
theorem dX12_sets_8 : decode cX12_sets 8 = .ok (.getfield 9, 3) := by decide +kernel
theorem dX12_sets_11 : decode cX12_sets 11 = .ok (.iload_n 1, 1) := by decide +kernel
theorem dX12_sets_12 : decode cX12_sets 12 = .ok (.iload_n 2, 1) := by decide +kernel
theorem dX12_sets_13 : decode cX12_sets 13 = .ok (.iastore, 1) := by decide +kernel
theorem dX12_sets_14 : decode cX12_sets 14 = .ok (.iload_n 3, 1) := by decide +kernel
theorem dX12_sets_15 : decode cX12_sets 15 = .ok (.ireturn, 1) := by decide +kernel
set_option maxRecDepth 20000 in
theorem ggX12_stores_X12_isTenant : GoodIn wsX12_stores wsX12_isTenant := goodIn_r _ [5, 6, 7, 8, 4, 9, 17, 18, 19, 20, 21, 22, 23, 24, 25, 26, 27, 28, 29, 30, 31, 32, 33] (by decide +kernel) (by decide +kernel)
set_option maxRecDepth 20000 in
theorem gX12_stores_X12_isTenant : GoodIn wsX12_stores (wsV RX12 47 RX12 yX12_isTenant wsX12_isTenant) := goodIn_app (goodIn_of _ (by decide +kernel)) ggX12_stores_X12_isTenant
set_option maxRecDepth 20000 in
theorem ggX12_stores_X12_isIn : GoodIn wsX12_stores wsX12_isIn := goodIn_r _ [9] (by decide +kernel) (by decide +kernel)
set_option maxRecDepth 20000 in
theorem gX12_stores_X12_isIn : GoodIn wsX12_stores (va_wsS RX12 43 yX12_isIn wsX12_isIn) := goodIn_app (goodIn_of _ (by decide +kernel)) ggX12_stores_X12_isIn
set_option maxRecDepth 20000 in
theorem ggX12_stores_X12_of : GoodIn wsX12_stores wsX12_of := goodIn_r _ [12] (by decide +kernel) (by decide +kernel)
set_option maxRecDepth 20000 in
theorem gX12_stores_X12_of : GoodIn wsX12_stores (va_wsS RX12 51 yX12_of wsX12_of) := goodIn_app (goodIn_of _ (by decide +kernel)) ggX12_stores_X12_of
set_option maxRecDepth 20000 in
theorem ggX12_stores_X12_sets : GoodIn wsX12_stores wsX12_sets := goodIn_r _ [16, 6, 17, 18, 19, 20, 21, 22, 23, 24, 25, 26, 27, 28, 29, 30, 31, 32, 33] (by decide +kernel) (by decide +kernel)
set_option maxRecDepth 20000 in
theorem gX12_stores_X12_sets : GoodIn wsX12_stores (wsV RX12 148 RX12 yX12_sets wsX12_sets) := goodIn_app (goodIn_of _ (by decide +kernel)) ggX12_stores_X12_sets
theorem dX12_stores_0 : decode cX12_stores 0 = .ok (.aload_n 0, 1) := by decide +kernel
theorem dX12_stores_1 : decode cX12_stores 1 = .ok (.iload_n 1, 1) := by decide +kernel
theorem dX12_stores_2 : decode cX12_stores 2 = .ok (.invokevirtual 47, 3) := by decide +kernel
theorem dX12_stores_5 : decode cX12_stores 5 = .ok (.ifCond .eq 26, 3) := by decide +kernel
theorem dX12_stores_8 : decode cX12_stores 8 = .ok (.iload_n 2, 1) := by decide +kernel
theorem dX12_stores_9 : decode cX12_stores 9 = .ok (.iconst 0, 1) := by decide +kernel
theorem dX12_stores_10 : decode cX12_stores 10 = .ok (.bipush 99, 2) := by decide +kernel
theorem dX12_stores_12 : decode cX12_stores 12 = .ok (.invokestatic 43, 3) := by decide +kernel
theorem dX12_stores_15 : decode cX12_stores 15 = .ok (.ifCond .eq 16, 3) := by decide +kernel
theorem dX12_stores_18 : decode cX12_stores 18 = .ok (.aload_n 0, 1) := by decide +kernel
theorem dX12_stores_19 : decode cX12_stores 19 = .ok (.iload_n 1, 1) := by decide +kernel
theorem dX12_stores_20 : decode cX12_stores 20 = .ok (.iconst 2, 1) := by decide +kernel
theorem dX12_stores_21 : decode cX12_stores 21 = .ok (.invokestatic 51, 3) := by decide +kernel
theorem dX12_stores_24 : decode cX12_stores 24 = .ok (.iload_n 2, 1) := by decide +kernel
theorem dX12_stores_25 : decode cX12_stores 25 = .ok (.invokevirtual 148, 3) := by decide +kernel
theorem dX12_stores_28 : decode cX12_stores 28 = .ok (.goto 4, 3) := by decide +kernel
theorem dX12_stores_31 : decode cX12_stores 31 = .ok (.iconst (-1), 1) := by decide +kernel
theorem dX12_stores_32 : decode cX12_stores 32 = .ok (.ireturn, 1) := by decide +kernel
set_option maxRecDepth 20000 in
theorem ggX12_set_X12_isIn : GoodIn wsX12_set wsX12_isIn := goodIn_r _ [4] (by decide +kernel) (by decide +kernel)
set_option maxRecDepth 20000 in
theorem gX12_set_X12_isIn : GoodIn wsX12_set (va_wsS RX12 43 yX12_isIn wsX12_isIn) := goodIn_app (goodIn_of _ (by decide +kernel)) ggX12_set_X12_isIn
set_option maxRecDepth 20000 in
theorem ggX12_set_X12_sets : GoodIn wsX12_set wsX12_sets := goodIn_r _ [8, 9, 10, 11, 12, 13, 14, 15, 16, 17, 18, 19, 20, 21, 22, 23, 24, 25, 26] (by decide +kernel) (by decide +kernel)
set_option maxRecDepth 20000 in
theorem gX12_set_X12_sets : GoodIn wsX12_set (wsV RX12 148 RX12 yX12_sets wsX12_sets) := goodIn_app (goodIn_of _ (by decide +kernel)) ggX12_set_X12_sets
theorem dX12_set_0 : decode cX12_set 0 = .ok (.iload_n 1, 1) := by decide +kernel
theorem dX12_set_1 : decode cX12_set 1 = .ok (.iconst 0, 1) := by decide +kernel
theorem dX12_set_2 : decode cX12_set 2 = .ok (.iconst 1, 1) := by decide +kernel
theorem dX12_set_3 : decode cX12_set 3 = .ok (.invokestatic 43, 3) := by decide +kernel
theorem dX12_set_6 : decode cX12_set 6 = .ok (.ifCond .eq 22, 3) := by decide +kernel
theorem dX12_set_9 : decode cX12_set 9 = .ok (.iload_n 2, 1) := by decide +kernel
theorem dX12_set_10 : decode cX12_set 10 = .ok (.iconst 0, 1) := by decide +kernel
theorem dX12_set_11 : decode cX12_set 11 = .ok (.iload_n 1, 1) := by decide +kernel
theorem dX12_set_12 : decode cX12_set 12 = .ok (.ifCond .ne 8, 3) := by decide +kernel
theorem dX12_set_15 : decode cX12_set 15 = .ok (.bipush 9, 2) := by decide +kernel
theorem dX12_set_17 : decode cX12_set 17 = .ok (.goto 5, 3) := by decide +kernel
theorem dX12_set_20 : decode cX12_set 20 = .ok (.bipush 99, 2) := by decide +kernel
theorem dX12_set_22 : decode cX12_set 22 = .ok (.invokestatic 43, 3) := by decide +kernel
theorem dX12_set_25 : decode cX12_set 25 = .ok (.ifCond .ne 5, 3) := by decide +kernel
theorem dX12_set_28 : decode cX12_set 28 = .ok (.iconst (-1), 1) := by decide +kernel
theorem dX12_set_29 : decode cX12_set 29 = .ok (.ireturn, 1) := by decide +kernel
theorem dX12_set_30 : decode cX12_set 30 = .ok (.aload_n 0, 1) := by decide +kernel
theorem dX12_set_31 : decode cX12_set 31 = .ok (.iload_n 1, 1) := by decide +kernel
theorem dX12_set_32 : decode cX12_set 32 = .ok (.ifCond .ne 7, 3) := by decide +kernel
theorem dX12_set_35 : decode cX12_set 35 = .ok (.iconst 2, 1) := by decide +kernel
theorem dX12_set_36 : decode cX12_set 36 = .ok (.goto 4, 3) := by decide +kernel
theorem dX12_set_39 : decode cX12_set 39 = .ok (.iconst 3, 1) := by decide +kernel
theorem dX12_set_40 : decode cX12_set 40 = .ok (.iload_n 2, 1) := by decide +kernel
theorem dX12_set_41 : decode cX12_set 41 = .ok (.invokevirtual 148, 3) := by decide +kernel
theorem dX12_set_44 : decode cX12_set 44 = .ok (.ireturn, 1) := by decide +kernel
set_option maxRecDepth 20000 in
theorem ggX12_lends_X12_areTwo : GoodIn wsX12_lends wsX12_areTwo := goodIn_r _ [6, 7, 8, 9, 5, 10, 1, 11, 12, 13, 26, 27, 28, 29, 30, 31, 32, 33, 34, 35, 36, 37, 38, 39, 40, 41, 42] (by decide +kernel) (by decide +kernel)
set_option maxRecDepth 20000 in
theorem gX12_lends_X12_areTwo : GoodIn wsX12_lends (wsV RX12 115 RX12 yX12_areTwo wsX12_areTwo) := goodIn_app (goodIn_of _ (by decide +kernel)) ggX12_lends_X12_areTwo
set_option maxRecDepth 20000 in
theorem ggX12_lends_X12_isIn : GoodIn wsX12_lends wsX12_isIn := goodIn_r _ [13] (by decide +kernel) (by decide +kernel)
set_option maxRecDepth 20000 in
theorem gX12_lends_X12_isIn : GoodIn wsX12_lends (va_wsS RX12 43 yX12_isIn wsX12_isIn) := goodIn_app (goodIn_of _ (by decide +kernel)) ggX12_lends_X12_isIn
set_option maxRecDepth 20000 in
theorem ggX12_lends_X12_canLend : GoodIn wsX12_lends wsX12_canLend := goodIn_r _ [16, 17, 18, 5, 19, 20, 21, 22] (by decide +kernel) (by decide +kernel)
set_option maxRecDepth 20000 in
theorem gX12_lends_X12_canLend : GoodIn wsX12_lends (va_wsS RX12 118 yX12_canLend wsX12_canLend) := goodIn_app (goodIn_of _ (by decide +kernel)) ggX12_lends_X12_canLend
set_option maxRecDepth 20000 in
theorem ggX12_lends_X12_lendsIn : GoodIn wsX12_lends wsX12_lendsIn := goodIn_r _ [25, 20, 21, 5, 22] (by decide +kernel) (by decide +kernel)
set_option maxRecDepth 20000 in
theorem gX12_lends_X12_lendsIn : GoodIn wsX12_lends (va_wsS RX12 122 yX12_lendsIn wsX12_lendsIn) := goodIn_app (goodIn_of _ (by decide +kernel)) ggX12_lends_X12_lendsIn
set_option maxRecDepth 20000 in
theorem ggX12_lends_X12_of : GoodIn wsX12_lends wsX12_of := goodIn_r _ [22] (by decide +kernel) (by decide +kernel)
set_option maxRecDepth 20000 in
theorem gX12_lends_X12_of : GoodIn wsX12_lends (va_wsS RX12 51 yX12_of wsX12_of) := goodIn_app (goodIn_of _ (by decide +kernel)) ggX12_lends_X12_of
theorem dX12_lends_0 : decode cX12_lends 0 = .ok (.aload_n 0, 1) := by decide +kernel
theorem dX12_lends_1 : decode cX12_lends 1 = .ok (.iload_n 1, 1) := by decide +kernel
theorem dX12_lends_2 : decode cX12_lends 2 = .ok (.iload_n 2, 1) := by decide +kernel
theorem dX12_lends_3 : decode cX12_lends 3 = .ok (.invokevirtual 115, 3) := by decide +kernel
theorem dX12_lends_6 : decode cX12_lends 6 = .ok (.ifCond .eq 13, 3) := by decide +kernel
theorem dX12_lends_9 : decode cX12_lends 9 = .ok (.iload_n 3, 1) := by decide +kernel
theorem dX12_lends_10 : decode cX12_lends 10 = .ok (.iconst 1, 1) := by decide +kernel
theorem dX12_lends_11 : decode cX12_lends 11 = .ok (.bipush 99, 2) := by decide +kernel
theorem dX12_lends_13 : decode cX12_lends 13 = .ok (.invokestatic 43, 3) := by decide +kernel
theorem dX12_lends_16 : decode cX12_lends 16 = .ok (.ifCond .ne 5, 3) := by decide +kernel
theorem dX12_lends_19 : decode cX12_lends 19 = .ok (.iconst (-1), 1) := by decide +kernel
theorem dX12_lends_20 : decode cX12_lends 20 = .ok (.ireturn, 1) := by decide +kernel
theorem dX12_lends_21 : decode cX12_lends 21 = .ok (.aload_n 0, 1) := by decide +kernel
theorem dX12_lends_22 : decode cX12_lends 22 = .ok (.getfield 9, 3) := by decide +kernel
theorem dX12_lends_25 : decode cX12_lends 25 = .ok (.iload_n 1, 1) := by decide +kernel
theorem dX12_lends_26 : decode cX12_lends 26 = .ok (.iload_n 2, 1) := by decide +kernel
theorem dX12_lends_27 : decode cX12_lends 27 = .ok (.iload_n 3, 1) := by decide +kernel
theorem dX12_lends_28 : decode cX12_lends 28 = .ok (.invokestatic 118, 3) := by decide +kernel
theorem dX12_lends_31 : decode cX12_lends 31 = .ok (.ifCond .ne 6, 3) := by decide +kernel
theorem dX12_lends_34 : decode cX12_lends 34 = .ok (.bipush (-3), 2) := by decide +kernel
theorem dX12_lends_36 : decode cX12_lends 36 = .ok (.ireturn, 1) := by decide +kernel
theorem dX12_lends_37 : decode cX12_lends 37 = .ok (.aload_n 0, 1) := by decide +kernel
theorem dX12_lends_38 : decode cX12_lends 38 = .ok (.getfield 9, 3) := by decide +kernel
theorem dX12_lends_41 : decode cX12_lends 41 = .ok (.iload_n 1, 1) := by decide +kernel
theorem dX12_lends_42 : decode cX12_lends 42 = .ok (.iload_n 2, 1) := by decide +kernel
theorem dX12_lends_43 : decode cX12_lends 43 = .ok (.iload_n 3, 1) := by decide +kernel
theorem dX12_lends_44 : decode cX12_lends 44 = .ok (.invokestatic 122, 3) := by decide +kernel
theorem dX12_lends_47 : decode cX12_lends 47 = .ok (.aload_n 0, 1) := by decide +kernel
theorem dX12_lends_48 : decode cX12_lends 48 = .ok (.getfield 9, 3) := by decide +kernel
theorem dX12_lends_51 : decode cX12_lends 51 = .ok (.iload_n 1, 1) := by decide +kernel
theorem dX12_lends_52 : decode cX12_lends 52 = .ok (.iconst 2, 1) := by decide +kernel
theorem dX12_lends_53 : decode cX12_lends 53 = .ok (.invokestatic 51, 3) := by decide +kernel
theorem dX12_lends_56 : decode cX12_lends 56 = .ok (.iaload, 1) := by decide +kernel
theorem dX12_lends_57 : decode cX12_lends 57 = .ok (.ireturn, 1) := by decide +kernel
set_option maxRecDepth 20000 in
theorem ggX12_days_X12_isIn : GoodIn wsX12_days wsX12_isIn := goodIn_r _ [5] (by decide +kernel) (by decide +kernel)
set_option maxRecDepth 20000 in
theorem gX12_days_X12_isIn : GoodIn wsX12_days (va_wsS RX12 43 yX12_isIn wsX12_isIn) := goodIn_app (goodIn_of _ (by decide +kernel)) ggX12_days_X12_isIn
set_option maxRecDepth 20000 in
theorem ggX12_days_X12_daysOn : GoodIn wsX12_days wsX12_daysOn := goodIn_r _ [8, 9, 10, 4, 11, 12, 13, 14, 15, 16, 17, 18, 19, 20, 21, 22, 23, 24, 25, 26, 27, 28, 29, 30, 31, 32, 33, 34, 35, 36, 37, 38, 39, 40, 41] (by decide +kernel) (by decide +kernel)
set_option maxRecDepth 20000 in
theorem gX12_days_X12_daysOn : GoodIn wsX12_days (va_wsS RX12 126 yX12_daysOn wsX12_daysOn) := goodIn_app (goodIn_of _ (by decide +kernel)) ggX12_days_X12_daysOn
set_option maxRecDepth 20000 in
theorem ggX12_days_X12_hereIn : GoodIn wsX12_days wsX12_hereIn := goodIn_r _ [44, 15, 16, 4, 17] (by decide +kernel) (by decide +kernel)
set_option maxRecDepth 20000 in
theorem gX12_days_X12_hereIn : GoodIn wsX12_days (va_wsS RX12 151 yX12_hereIn wsX12_hereIn) := goodIn_app (goodIn_of _ (by decide +kernel)) ggX12_days_X12_hereIn
set_option maxRecDepth 20000 in
theorem ggX12_days_X12_bits : GoodIn wsX12_days wsX12_bits := goodIn_r _ [47] (by decide +kernel) (by decide +kernel)
set_option maxRecDepth 20000 in
theorem gX12_days_X12_bits : GoodIn wsX12_days (va_wsS RX12 155 yX12_bits wsX12_bits) := goodIn_app (goodIn_of _ (by decide +kernel)) ggX12_days_X12_bits
theorem dX12_days_0 : decode cX12_days 0 = .ok (.iload_n 1, 1) := by decide +kernel
theorem dX12_days_1 : decode cX12_days 1 = .ok (.iconst 1, 1) := by decide +kernel
theorem dX12_days_2 : decode cX12_days 2 = .ok (.bipush 60, 2) := by decide +kernel
theorem dX12_days_4 : decode cX12_days 4 = .ok (.invokestatic 43, 3) := by decide +kernel
theorem dX12_days_7 : decode cX12_days 7 = .ok (.ifCond .ne 5, 3) := by decide +kernel
theorem dX12_days_10 : decode cX12_days 10 = .ok (.iconst (-1), 1) := by decide +kernel
theorem dX12_days_11 : decode cX12_days 11 = .ok (.ireturn, 1) := by decide +kernel
theorem dX12_days_12 : decode cX12_days 12 = .ok (.aload_n 0, 1) := by decide +kernel
theorem dX12_days_13 : decode cX12_days 13 = .ok (.getfield 9, 3) := by decide +kernel
theorem dX12_days_16 : decode cX12_days 16 = .ok (.iconst 1, 1) := by decide +kernel
theorem dX12_days_17 : decode cX12_days 17 = .ok (.iaload, 1) := by decide +kernel
theorem dX12_days_18 : decode cX12_days 18 = .ok (.iload_n 1, 1) := by decide +kernel
theorem dX12_days_19 : decode cX12_days 19 = .ok (.iadd, 1) := by decide +kernel
theorem dX12_days_20 : decode cX12_days 20 = .ok (.sipush 999, 3) := by decide +kernel
theorem dX12_days_23 : decode cX12_days 23 = .ok (.if_icmp .le 6, 3) := by decide +kernel
theorem dX12_days_26 : decode cX12_days 26 = .ok (.bipush (-3), 2) := by decide +kernel
theorem dX12_days_28 : decode cX12_days 28 = .ok (.ireturn, 1) := by decide +kernel
theorem dX12_days_29 : decode cX12_days 29 = .ok (.aload_n 0, 1) := by decide +kernel
theorem dX12_days_30 : decode cX12_days 30 = .ok (.getfield 9, 3) := by decide +kernel
theorem dX12_days_33 : decode cX12_days 33 = .ok (.iload_n 1, 1) := by decide +kernel
theorem dX12_days_34 : decode cX12_days 34 = .ok (.invokestatic 126, 3) := by decide +kernel
theorem dX12_days_37 : decode cX12_days 37 = .ok (.aload_n 0, 1) := by decide +kernel
theorem dX12_days_38 : decode cX12_days 38 = .ok (.getfield 9, 3) := by decide +kernel
theorem dX12_days_41 : decode cX12_days 41 = .ok (.invokestatic 151, 3) := by decide +kernel
theorem dX12_days_44 : decode cX12_days 44 = .ok (.invokestatic 155, 3) := by decide +kernel
theorem dX12_days_47 : decode cX12_days 47 = .ok (.ireturn, 1) := by decide +kernel
set_option maxRecDepth 20000 in
theorem ggX12_isLate_X12_isIn : GoodIn wsX12_isLate wsX12_isIn := goodIn_r _ [4] (by decide +kernel) (by decide +kernel)
set_option maxRecDepth 20000 in
theorem gX12_isLate_X12_isIn : GoodIn wsX12_isLate (va_wsS RX12 43 yX12_isIn wsX12_isIn) := goodIn_app (goodIn_of _ (by decide +kernel)) ggX12_isLate_X12_isIn
theorem dX12_isLate_0 : decode cX12_isLate 0 = .ok (.iload_n 0, 1) := by decide +kernel
theorem dX12_isLate_1 : decode cX12_isLate 1 = .ok (.iconst 0, 1) := by decide +kernel
theorem dX12_isLate_2 : decode cX12_isLate 2 = .ok (.bipush 60, 2) := by decide +kernel
theorem dX12_isLate_4 : decode cX12_isLate 4 = .ok (.invokestatic 43, 3) := by decide +kernel
theorem dX12_isLate_7 : decode cX12_isLate 7 = .ok (.ireturn, 1) := by decide +kernel
set_option maxRecDepth 20000 in
theorem ggX12_takes_X12_copies : GoodIn wsX12_takes wsX12_copies := goodIn_r _ [6] (by decide +kernel) (by decide +kernel)
set_option maxRecDepth 20000 in
theorem gX12_takes_X12_copies : GoodIn wsX12_takes (va_wsS RX12 137 yX12_copies wsX12_copies) := goodIn_app (goodIn_of _ (by decide +kernel)) ggX12_takes_X12_copies
set_option maxRecDepth 20000 in
theorem ggX12_takes_X12_daysOn : GoodIn wsX12_takes wsX12_daysOn := goodIn_r _ [9, 10, 11, 5, 12, 13, 14, 15, 16, 17, 18, 19, 20, 21, 22, 23, 24, 25, 26, 27, 28, 29, 30, 31, 32, 33, 34, 35, 36, 37, 38, 39, 40, 41, 42] (by decide +kernel) (by decide +kernel)
set_option maxRecDepth 20000 in
theorem gX12_takes_X12_daysOn : GoodIn wsX12_takes (va_wsS RX12 126 yX12_daysOn wsX12_daysOn) := goodIn_app (goodIn_of _ (by decide +kernel)) ggX12_takes_X12_daysOn
theorem dX12_takes_0 : decode cX12_takes 0 = .ok (.aload_n 0, 1) := by decide +kernel
theorem dX12_takes_1 : decode cX12_takes 1 = .ok (.getfield 9, 3) := by decide +kernel
theorem dX12_takes_4 : decode cX12_takes 4 = .ok (.aload_n 0, 1) := by decide +kernel
theorem dX12_takes_5 : decode cX12_takes 5 = .ok (.getfield 13, 3) := by decide +kernel
theorem dX12_takes_8 : decode cX12_takes 8 = .ok (.invokestatic 137, 3) := by decide +kernel
theorem dX12_takes_11 : decode cX12_takes 11 = .ok (.aload_n 0, 1) := by decide +kernel
theorem dX12_takes_12 : decode cX12_takes 12 = .ok (.getfield 13, 3) := by decide +kernel
theorem dX12_takes_15 : decode cX12_takes 15 = .ok (.iload_n 1, 1) := by decide +kernel
theorem dX12_takes_16 : decode cX12_takes 16 = .ok (.invokestatic 126, 3) := by decide +kernel
theorem dX12_takes_19 : decode cX12_takes 19 = .ok (.return_, 1) := by decide +kernel
set_option maxRecDepth 20000 in
theorem ggX12_tenantThen_X12_isTenant : GoodIn wsX12_tenantThen wsX12_isTenant := goodIn_r _ [6, 7, 8, 9, 5, 10, 57, 58, 59, 60, 61, 62, 63, 64, 65, 66, 67, 68, 69, 70, 71, 72, 73] (by decide +kernel) (by decide +kernel)
set_option maxRecDepth 20000 in
theorem gX12_tenantThen_X12_isTenant : GoodIn wsX12_tenantThen (wsV RX12 47 RX12 yX12_isTenant wsX12_isTenant) := goodIn_app (goodIn_of _ (by decide +kernel)) ggX12_tenantThen_X12_isTenant
set_option maxRecDepth 20000 in
theorem ggX12_tenantThen_X12_isLate : GoodIn wsX12_tenantThen wsX12_isLate := goodIn_r _ [13, 8, 9, 5, 10] (by decide +kernel) (by decide +kernel)
set_option maxRecDepth 20000 in
theorem gX12_tenantThen_X12_isLate : GoodIn wsX12_tenantThen (va_wsS RX12 158 yX12_isLate wsX12_isLate) := goodIn_app (goodIn_of _ (by decide +kernel)) ggX12_tenantThen_X12_isLate
set_option maxRecDepth 20000 in
theorem ggX12_tenantThen_X12_isIn : GoodIn wsX12_tenantThen wsX12_isIn := goodIn_r _ [10] (by decide +kernel) (by decide +kernel)
set_option maxRecDepth 20000 in
theorem gX12_tenantThen_X12_isIn : GoodIn wsX12_tenantThen (va_wsS RX12 43 yX12_isIn wsX12_isIn) := goodIn_app (goodIn_of _ (by decide +kernel)) ggX12_tenantThen_X12_isIn
set_option maxRecDepth 20000 in
theorem ggX12_tenantThen_X12_takes : GoodIn wsX12_tenantThen wsX12_takes := goodIn_r _ [17, 7, 1, 18, 19, 5, 20, 21, 22, 23, 24, 25, 26, 27, 28, 29, 30, 31, 32, 33, 34, 35, 36, 37, 38, 39, 40, 41, 42, 43, 44, 45, 46, 47, 48, 49, 50, 51, 52, 53, 54, 55, 56, 57, 58, 59, 60, 61, 62, 63, 64, 65, 66, 67, 68, 69, 70, 71, 72, 73] (by decide +kernel) (by decide +kernel)
set_option maxRecDepth 20000 in
theorem gX12_tenantThen_X12_takes : GoodIn wsX12_tenantThen (wsV RX12 161 RX12 yX12_takes wsX12_takes) := goodIn_app (goodIn_of _ (by decide +kernel)) ggX12_tenantThen_X12_takes
set_option maxRecDepth 20000 in
theorem ggX12_tenantThen_X12_of : GoodIn wsX12_tenantThen wsX12_of := goodIn_r _ [32] (by decide +kernel) (by decide +kernel)
set_option maxRecDepth 20000 in
theorem gX12_tenantThen_X12_of : GoodIn wsX12_tenantThen (va_wsS RX12 51 yX12_of wsX12_of) := goodIn_app (goodIn_of _ (by decide +kernel)) ggX12_tenantThen_X12_of
theorem dX12_tenantThen_0 : decode cX12_tenantThen 0 = .ok (.aload_n 0, 1) := by decide +kernel
theorem dX12_tenantThen_1 : decode cX12_tenantThen 1 = .ok (.iload_n 1, 1) := by decide +kernel
theorem dX12_tenantThen_2 : decode cX12_tenantThen 2 = .ok (.invokevirtual 47, 3) := by decide +kernel
theorem dX12_tenantThen_5 : decode cX12_tenantThen 5 = .ok (.ifCond .eq 19, 3) := by decide +kernel
theorem dX12_tenantThen_8 : decode cX12_tenantThen 8 = .ok (.iload_n 2, 1) := by decide +kernel
theorem dX12_tenantThen_9 : decode cX12_tenantThen 9 = .ok (.invokestatic 158, 3) := by decide +kernel
theorem dX12_tenantThen_12 : decode cX12_tenantThen 12 = .ok (.ifCond .eq 12, 3) := by decide +kernel
theorem dX12_tenantThen_15 : decode cX12_tenantThen 15 = .ok (.iload_n 3, 1) := by decide +kernel
theorem dX12_tenantThen_16 : decode cX12_tenantThen 16 = .ok (.iconst 0, 1) := by decide +kernel
theorem dX12_tenantThen_17 : decode cX12_tenantThen 17 = .ok (.iconst 1, 1) := by decide +kernel
theorem dX12_tenantThen_18 : decode cX12_tenantThen 18 = .ok (.invokestatic 43, 3) := by decide +kernel
theorem dX12_tenantThen_21 : decode cX12_tenantThen 21 = .ok (.ifCond .ne 5, 3) := by decide +kernel
theorem dX12_tenantThen_24 : decode cX12_tenantThen 24 = .ok (.iconst (-1), 1) := by decide +kernel
theorem dX12_tenantThen_25 : decode cX12_tenantThen 25 = .ok (.ireturn, 1) := by decide +kernel
theorem dX12_tenantThen_26 : decode cX12_tenantThen 26 = .ok (.aload_n 0, 1) := by decide +kernel
theorem dX12_tenantThen_27 : decode cX12_tenantThen 27 = .ok (.iload_n 2, 1) := by decide +kernel
theorem dX12_tenantThen_28 : decode cX12_tenantThen 28 = .ok (.invokevirtual 161, 3) := by decide +kernel
theorem dX12_tenantThen_31 : decode cX12_tenantThen 31 = .ok (.aload_n 0, 1) := by decide +kernel
theorem dX12_tenantThen_32 : decode cX12_tenantThen 32 = .ok (.getfield 13, 3) := by decide +kernel
theorem dX12_tenantThen_35 : decode cX12_tenantThen 35 = .ok (.iload_n 1, 1) := by decide +kernel
theorem dX12_tenantThen_36 : decode cX12_tenantThen 36 = .ok (.iload_n 3, 1) := by decide +kernel
theorem dX12_tenantThen_37 : decode cX12_tenantThen 37 = .ok (.ifCond .ne 7, 3) := by decide +kernel
theorem dX12_tenantThen_40 : decode cX12_tenantThen 40 = .ok (.iconst 2, 1) := by decide +kernel
theorem dX12_tenantThen_41 : decode cX12_tenantThen 41 = .ok (.goto 4, 3) := by decide +kernel
theorem dX12_tenantThen_44 : decode cX12_tenantThen 44 = .ok (.iconst 3, 1) := by decide +kernel
theorem dX12_tenantThen_45 : decode cX12_tenantThen 45 = .ok (.invokestatic 51, 3) := by decide +kernel
theorem dX12_tenantThen_48 : decode cX12_tenantThen 48 = .ok (.iaload, 1) := by decide +kernel
theorem dX12_tenantThen_49 : decode cX12_tenantThen 49 = .ok (.ireturn, 1) := by decide +kernel
set_option maxRecDepth 20000 in
theorem ggX12_then_X12_isLate : GoodIn wsX12_then wsX12_isLate := goodIn_r _ [5, 6, 7, 4, 8] (by decide +kernel) (by decide +kernel)
set_option maxRecDepth 20000 in
theorem gX12_then_X12_isLate : GoodIn wsX12_then (va_wsS RX12 158 yX12_isLate wsX12_isLate) := goodIn_app (goodIn_of _ (by decide +kernel)) ggX12_then_X12_isLate
set_option maxRecDepth 20000 in
theorem ggX12_then_X12_isIn : GoodIn wsX12_then wsX12_isIn := goodIn_r _ [8] (by decide +kernel) (by decide +kernel)
set_option maxRecDepth 20000 in
theorem gX12_then_X12_isIn : GoodIn wsX12_then (va_wsS RX12 43 yX12_isIn wsX12_isIn) := goodIn_app (goodIn_of _ (by decide +kernel)) ggX12_then_X12_isIn
set_option maxRecDepth 20000 in
theorem ggX12_then_X12_takes : GoodIn wsX12_then wsX12_takes := goodIn_r _ [12, 13, 1, 14, 15, 4, 16, 17, 18, 19, 20, 21, 22, 23, 24, 25, 26, 27, 28, 29, 30, 31, 32, 33, 34, 35, 36, 37, 38, 39, 40, 41, 42, 43, 44, 45, 46, 47, 48, 49, 50, 51, 52, 56, 57, 58, 59, 60, 61, 62, 63, 64, 65, 66, 67, 68, 69, 70, 71, 72] (by decide +kernel) (by decide +kernel)
set_option maxRecDepth 20000 in
theorem gX12_then_X12_takes : GoodIn wsX12_then (wsV RX12 161 RX12 yX12_takes wsX12_takes) := goodIn_app (goodIn_of _ (by decide +kernel)) ggX12_then_X12_takes
set_option maxRecDepth 20000 in
theorem ggX12_then_X12_hereIn : GoodIn wsX12_then wsX12_hereIn := goodIn_r _ [55, 26, 27, 4, 28] (by decide +kernel) (by decide +kernel)
set_option maxRecDepth 20000 in
theorem gX12_then_X12_hereIn : GoodIn wsX12_then (va_wsS RX12 151 yX12_hereIn wsX12_hereIn) := goodIn_app (goodIn_of _ (by decide +kernel)) ggX12_then_X12_hereIn
theorem dX12_then_0 : decode cX12_then 0 = .ok (.iload_n 1, 1) := by decide +kernel
theorem dX12_then_1 : decode cX12_then 1 = .ok (.invokestatic 158, 3) := by decide +kernel
theorem dX12_then_4 : decode cX12_then 4 = .ok (.ifCond .eq 12, 3) := by decide +kernel
theorem dX12_then_7 : decode cX12_then 7 = .ok (.iload_n 2, 1) := by decide +kernel
theorem dX12_then_8 : decode cX12_then 8 = .ok (.iconst 0, 1) := by decide +kernel
theorem dX12_then_9 : decode cX12_then 9 = .ok (.iconst 1, 1) := by decide +kernel
theorem dX12_then_10 : decode cX12_then 10 = .ok (.invokestatic 43, 3) := by decide +kernel
theorem dX12_then_13 : decode cX12_then 13 = .ok (.ifCond .ne 5, 3) := by decide +kernel
theorem dX12_then_16 : decode cX12_then 16 = .ok (.iconst (-1), 1) := by decide +kernel
theorem dX12_then_17 : decode cX12_then 17 = .ok (.ireturn, 1) := by decide +kernel
theorem dX12_then_18 : decode cX12_then 18 = .ok (.aload_n 0, 1) := by decide +kernel
theorem dX12_then_19 : decode cX12_then 19 = .ok (.iload_n 1, 1) := by decide +kernel
theorem dX12_then_20 : decode cX12_then 20 = .ok (.invokevirtual 161, 3) := by decide +kernel
theorem dX12_then_23 : decode cX12_then 23 = .ok (.iload_n 2, 1) := by decide +kernel
theorem dX12_then_24 : decode cX12_then 24 = .ok (.ifCond .ne 13, 3) := by decide +kernel
theorem dX12_then_27 : decode cX12_then 27 = .ok (.aload_n 0, 1) := by decide +kernel
theorem dX12_then_28 : decode cX12_then 28 = .ok (.getfield 13, 3) := by decide +kernel
theorem dX12_then_31 : decode cX12_then 31 = .ok (.invokestatic 151, 3) := by decide +kernel
theorem dX12_then_34 : decode cX12_then 34 = .ok (.goto 9, 3) := by decide +kernel
theorem dX12_then_37 : decode cX12_then 37 = .ok (.aload_n 0, 1) := by decide +kernel
theorem dX12_then_38 : decode cX12_then 38 = .ok (.getfield 13, 3) := by decide +kernel
theorem dX12_then_41 : decode cX12_then 41 = .ok (.iconst 3, 1) := by decide +kernel
theorem dX12_then_42 : decode cX12_then 42 = .ok (.iaload, 1) := by decide +kernel
theorem dX12_then_43 : decode cX12_then 43 = .ok (.ireturn, 1) := by decide +kernel
set_option maxRecDepth 20000 in
theorem ggX12_goesOf_X12_copies : GoodIn wsX12_goesOf wsX12_copies := goodIn_r _ [6] (by decide +kernel) (by decide +kernel)
set_option maxRecDepth 20000 in
theorem gX12_goesOf_X12_copies : GoodIn wsX12_goesOf (va_wsS RX12 137 yX12_copies wsX12_copies) := goodIn_app (goodIn_of _ (by decide +kernel)) ggX12_goesOf_X12_copies
set_option maxRecDepth 20000 in
theorem ggX12_goesOf_X12_isHere : GoodIn wsX12_goesOf wsX12_isHere := goodIn_r _ [9, 10, 11, 5, 12] (by decide +kernel) (by decide +kernel)
set_option maxRecDepth 20000 in
theorem gX12_goesOf_X12_isHere : GoodIn wsX12_goesOf (va_wsS RX12 66 yX12_isHere wsX12_isHere) := goodIn_app (goodIn_of _ (by decide +kernel)) ggX12_goesOf_X12_isHere
set_option maxRecDepth 20000 in
theorem ggX12_goesOf_X12_daysOn : GoodIn wsX12_goesOf wsX12_daysOn := goodIn_r _ [15, 16, 17, 5, 18, 7, 8, 9, 10, 11, 12, 19, 20, 21, 22, 23, 24, 25, 26, 27, 28, 29, 30, 31, 32, 33, 34, 35, 36, 37, 38, 39, 40, 41, 42] (by decide +kernel) (by decide +kernel)
set_option maxRecDepth 20000 in
theorem gX12_goesOf_X12_daysOn : GoodIn wsX12_goesOf (va_wsS RX12 126 yX12_daysOn wsX12_daysOn) := goodIn_app (goodIn_of _ (by decide +kernel)) ggX12_goesOf_X12_daysOn
theorem dX12_goesOf_0 : decode cX12_goesOf 0 = .ok (.aload_n 0, 1) := by decide +kernel
theorem dX12_goesOf_1 : decode cX12_goesOf 1 = .ok (.getfield 9, 3) := by decide +kernel
theorem dX12_goesOf_4 : decode cX12_goesOf 4 = .ok (.aload_n 0, 1) := by decide +kernel
theorem dX12_goesOf_5 : decode cX12_goesOf 5 = .ok (.getfield 13, 3) := by decide +kernel
theorem dX12_goesOf_8 : decode cX12_goesOf 8 = .ok (.invokestatic 137, 3) := by decide +kernel
theorem dX12_goesOf_11 : decode cX12_goesOf 11 = .ok (.iconst 0, 1) := by decide +kernel
theorem dX12_goesOf_12 : decode cX12_goesOf 12 = .ok (.istore_n 2, 1) := by decide +kernel
theorem dX12_goesOf_13 : decode cX12_goesOf 13 = .ok (.iload_n 2, 1) := by decide +kernel
theorem dX12_goesOf_14 : decode cX12_goesOf 14 = .ok (.bipush 60, 2) := by decide +kernel
theorem dX12_goesOf_16 : decode cX12_goesOf 16 = .ok (.if_icmp .gt 30, 3) := by decide +kernel
theorem dX12_goesOf_19 : decode cX12_goesOf 19 = .ok (.aload_n 0, 1) := by decide +kernel
theorem dX12_goesOf_20 : decode cX12_goesOf 20 = .ok (.getfield 13, 3) := by decide +kernel
theorem dX12_goesOf_23 : decode cX12_goesOf 23 = .ok (.iload_n 1, 1) := by decide +kernel
theorem dX12_goesOf_24 : decode cX12_goesOf 24 = .ok (.invokestatic 66, 3) := by decide +kernel
theorem dX12_goesOf_27 : decode cX12_goesOf 27 = .ok (.ifCond .ne 5, 3) := by decide +kernel
theorem dX12_goesOf_30 : decode cX12_goesOf 30 = .ok (.iload_n 2, 1) := by decide +kernel
theorem dX12_goesOf_31 : decode cX12_goesOf 31 = .ok (.ireturn, 1) := by decide +kernel
theorem dX12_goesOf_32 : decode cX12_goesOf 32 = .ok (.aload_n 0, 1) := by decide +kernel
theorem dX12_goesOf_33 : decode cX12_goesOf 33 = .ok (.getfield 13, 3) := by decide +kernel
theorem dX12_goesOf_36 : decode cX12_goesOf 36 = .ok (.iconst 1, 1) := by decide +kernel
theorem dX12_goesOf_37 : decode cX12_goesOf 37 = .ok (.invokestatic 126, 3) := by decide +kernel
theorem dX12_goesOf_40 : decode cX12_goesOf 40 = .ok (.iinc 2 1, 3) := by decide +kernel
theorem dX12_goesOf_43 : decode cX12_goesOf 43 = .ok (.goto (-30), 3) := by decide +kernel
theorem dX12_goesOf_46 : decode cX12_goesOf 46 = .ok (.bipush (-4), 2) := by decide +kernel
theorem dX12_goesOf_48 : decode cX12_goesOf 48 = .ok (.ireturn, 1) := by decide +kernel
set_option maxRecDepth 20000 in
theorem ggX12_firstGoes_X12_isHere : GoodIn wsX12_firstGoes wsX12_isHere := goodIn_r _ [6, 7, 8, 5, 9] (by decide +kernel) (by decide +kernel)
set_option maxRecDepth 20000 in
theorem gX12_firstGoes_X12_isHere : GoodIn wsX12_firstGoes (va_wsS RX12 66 yX12_isHere wsX12_isHere) := goodIn_app (goodIn_of _ (by decide +kernel)) ggX12_firstGoes_X12_isHere
set_option maxRecDepth 20000 in
theorem ggX12_firstGoes_X12_goesOf : GoodIn wsX12_firstGoes wsX12_goesOf := goodIn_r _ [13, 2, 14, 15, 16, 5, 17, 3, 4, 6, 7, 8, 9, 18, 19, 20, 21, 22, 23, 24, 25, 26, 27, 28, 29, 30, 31, 32, 33, 34, 35, 36, 37, 38, 39, 40, 41, 42, 43, 44, 45, 46, 47, 48, 49, 50, 51, 52, 53, 54, 55, 56, 57, 58, 59, 60, 61, 62, 63, 64] (by decide +kernel) (by decide +kernel)
set_option maxRecDepth 20000 in
theorem gX12_firstGoes_X12_goesOf : GoodIn wsX12_firstGoes (wsV RX12 166 RX12 yX12_goesOf wsX12_goesOf) := goodIn_app (goodIn_of _ (by decide +kernel)) ggX12_firstGoes_X12_goesOf
theorem dX12_firstGoes_0 : decode cX12_firstGoes 0 = .ok (.bipush (-4), 2) := by decide +kernel
theorem dX12_firstGoes_2 : decode cX12_firstGoes 2 = .ok (.istore_n 1, 1) := by decide +kernel
theorem dX12_firstGoes_3 : decode cX12_firstGoes 3 = .ok (.ldc 165, 2) := by decide +kernel
theorem dX12_firstGoes_5 : decode cX12_firstGoes 5 = .ok (.istore_n 2, 1) := by decide +kernel
theorem dX12_firstGoes_6 : decode cX12_firstGoes 6 = .ok (.iconst 0, 1) := by decide +kernel
theorem dX12_firstGoes_7 : decode cX12_firstGoes 7 = .ok (.istore_n 3, 1) := by decide +kernel
theorem dX12_firstGoes_8 : decode cX12_firstGoes 8 = .ok (.iload_n 3, 1) := by decide +kernel
theorem dX12_firstGoes_9 : decode cX12_firstGoes 9 = .ok (.aload_n 0, 1) := by decide +kernel
theorem dX12_firstGoes_10 : decode cX12_firstGoes 10 = .ok (.getfield 9, 3) := by decide +kernel
theorem dX12_firstGoes_13 : decode cX12_firstGoes 13 = .ok (.iconst 0, 1) := by decide +kernel
theorem dX12_firstGoes_14 : decode cX12_firstGoes 14 = .ok (.iaload, 1) := by decide +kernel
theorem dX12_firstGoes_15 : decode cX12_firstGoes 15 = .ok (.if_icmp .ge 51, 3) := by decide +kernel
theorem dX12_firstGoes_18 : decode cX12_firstGoes 18 = .ok (.aload_n 0, 1) := by decide +kernel
theorem dX12_firstGoes_19 : decode cX12_firstGoes 19 = .ok (.getfield 9, 3) := by decide +kernel
theorem dX12_firstGoes_22 : decode cX12_firstGoes 22 = .ok (.iload_n 3, 1) := by decide +kernel
theorem dX12_firstGoes_23 : decode cX12_firstGoes 23 = .ok (.invokestatic 66, 3) := by decide +kernel
theorem dX12_firstGoes_26 : decode cX12_firstGoes 26 = .ok (.ifCond .eq 11, 3) := by decide +kernel
theorem dX12_firstGoes_29 : decode cX12_firstGoes 29 = .ok (.aload_n 0, 1) := by decide +kernel
theorem dX12_firstGoes_30 : decode cX12_firstGoes 30 = .ok (.iload_n 3, 1) := by decide +kernel
theorem dX12_firstGoes_31 : decode cX12_firstGoes 31 = .ok (.invokevirtual 166, 3) := by decide +kernel
theorem dX12_firstGoes_34 : decode cX12_firstGoes 34 = .ok (.goto 5, 3) := by decide +kernel
theorem dX12_firstGoes_37 : decode cX12_firstGoes 37 = .ok (.bipush (-4), 2) := by decide +kernel
theorem dX12_firstGoes_39 : decode cX12_firstGoes 39 = .ok (.istore 4, 2) := by decide +kernel
theorem dX12_firstGoes_41 : decode cX12_firstGoes 41 = .ok (.iload 4, 2) := by decide +kernel
theorem dX12_firstGoes_43 : decode cX12_firstGoes 43 = .ok (.ifCond .lt 17, 3) := by decide +kernel
theorem dX12_firstGoes_46 : decode cX12_firstGoes 46 = .ok (.iload 4, 2) := by decide +kernel
theorem dX12_firstGoes_48 : decode cX12_firstGoes 48 = .ok (.iload_n 2, 1) := by decide +kernel
theorem dX12_firstGoes_49 : decode cX12_firstGoes 49 = .ok (.if_icmp .lt 6, 3) := by decide +kernel
theorem dX12_firstGoes_52 : decode cX12_firstGoes 52 = .ok (.goto 8, 3) := by decide +kernel
theorem dX12_firstGoes_55 : decode cX12_firstGoes 55 = .ok (.iload_n 3, 1) := by decide +kernel
theorem dX12_firstGoes_56 : decode cX12_firstGoes 56 = .ok (.istore_n 1, 1) := by decide +kernel
theorem dX12_firstGoes_57 : decode cX12_firstGoes 57 = .ok (.iload 4, 2) := by decide +kernel
theorem dX12_firstGoes_59 : decode cX12_firstGoes 59 = .ok (.istore_n 2, 1) := by decide +kernel
theorem dX12_firstGoes_60 : decode cX12_firstGoes 60 = .ok (.iinc 3 1, 3) := by decide +kernel
theorem dX12_firstGoes_63 : decode cX12_firstGoes 63 = .ok (.goto (-55), 3) := by decide +kernel
theorem dX12_firstGoes_66 : decode cX12_firstGoes 66 = .ok (.iload_n 1, 1) := by decide +kernel
theorem dX12_firstGoes_67 : decode cX12_firstGoes 67 = .ok (.ireturn, 1) := by decide +kernel
set_option maxRecDepth 20000 in
theorem ggX12_goes_X12_firstGoes : GoodIn wsX12_goes wsX12_firstGoes := goodIn_r _ [5, 6, 7, 8, 9, 4, 10, 11, 12, 13, 14, 15, 16, 17, 18, 19, 20, 21, 22, 23, 24, 25, 26, 27, 28, 29, 30, 31, 32, 33, 34, 35, 36, 37, 38, 39, 40, 41, 42, 43, 44, 45, 46, 47, 48, 49, 50, 51, 59, 60, 61, 62, 63, 64, 65, 66, 67, 68, 69, 70, 71, 72, 73, 74, 75] (by decide +kernel) (by decide +kernel)
set_option maxRecDepth 20000 in
theorem gX12_goes_X12_firstGoes : GoodIn wsX12_goes (wsV RX12 169 RX12 yX12_firstGoes wsX12_firstGoes) := goodIn_app (goodIn_of _ (by decide +kernel)) ggX12_goes_X12_firstGoes
set_option maxRecDepth 20000 in
theorem ggX12_goes_X12_isTenant : GoodIn wsX12_goes wsX12_isTenant := goodIn_r _ [55, 7, 56, 57, 4, 58, 59, 60, 61, 62, 63, 64, 65, 66, 67, 68, 69, 70, 71, 72, 73, 74, 75] (by decide +kernel) (by decide +kernel)
set_option maxRecDepth 20000 in
theorem gX12_goes_X12_isTenant : GoodIn wsX12_goes (wsV RX12 47 RX12 yX12_isTenant wsX12_isTenant) := goodIn_app (goodIn_of _ (by decide +kernel)) ggX12_goes_X12_isTenant
set_option maxRecDepth 20000 in
theorem ggX12_goes_X12_goesOf : GoodIn wsX12_goes wsX12_goesOf := goodIn_r _ [17, 7, 18, 19, 20, 4, 21, 8, 9, 10, 11, 12, 13, 22, 23, 24, 25, 26, 27, 28, 29, 30, 31, 32, 33, 34, 35, 36, 37, 38, 39, 40, 41, 42, 43, 44, 45, 46, 47, 48, 49, 50, 51, 59, 60, 61, 62, 63, 64, 65, 66, 67, 68, 69, 70, 71, 72, 73, 74, 75] (by decide +kernel) (by decide +kernel)
set_option maxRecDepth 20000 in
theorem gX12_goes_X12_goesOf : GoodIn wsX12_goes (wsV RX12 166 RX12 yX12_goesOf wsX12_goesOf) := goodIn_app (goodIn_of _ (by decide +kernel)) ggX12_goes_X12_goesOf
theorem dX12_goes_0 : decode cX12_goes 0 = .ok (.iload_n 1, 1) := by decide +kernel
theorem dX12_goes_1 : decode cX12_goes 1 = .ok (.iconst (-1), 1) := by decide +kernel
theorem dX12_goes_2 : decode cX12_goes 2 = .ok (.if_icmp .ne 10, 3) := by decide +kernel
theorem dX12_goes_5 : decode cX12_goes 5 = .ok (.aload_n 0, 1) := by decide +kernel
theorem dX12_goes_6 : decode cX12_goes 6 = .ok (.invokevirtual 169, 3) := by decide +kernel
theorem dX12_goes_9 : decode cX12_goes 9 = .ok (.goto 20, 3) := by decide +kernel
theorem dX12_goes_12 : decode cX12_goes 12 = .ok (.aload_n 0, 1) := by decide +kernel
theorem dX12_goes_13 : decode cX12_goes 13 = .ok (.iload_n 1, 1) := by decide +kernel
theorem dX12_goes_14 : decode cX12_goes 14 = .ok (.invokevirtual 47, 3) := by decide +kernel
theorem dX12_goes_17 : decode cX12_goes 17 = .ok (.ifCond .eq 11, 3) := by decide +kernel
theorem dX12_goes_20 : decode cX12_goes 20 = .ok (.aload_n 0, 1) := by decide +kernel
theorem dX12_goes_21 : decode cX12_goes 21 = .ok (.iload_n 1, 1) := by decide +kernel
theorem dX12_goes_22 : decode cX12_goes 22 = .ok (.invokevirtual 166, 3) := by decide +kernel
theorem dX12_goes_25 : decode cX12_goes 25 = .ok (.goto 4, 3) := by decide +kernel
theorem dX12_goes_28 : decode cX12_goes 28 = .ok (.iconst (-1), 1) := by decide +kernel
theorem dX12_goes_29 : decode cX12_goes 29 = .ok (.ireturn, 1) := by decide +kernel
set_option maxRecDepth 20000 in
theorem ggX12_empty_X12_copies : GoodIn wsX12_empty wsX12_copies := goodIn_r _ [6] (by decide +kernel) (by decide +kernel)
set_option maxRecDepth 20000 in
theorem gX12_empty_X12_copies : GoodIn wsX12_empty (va_wsS RX12 137 yX12_copies wsX12_copies) := goodIn_app (goodIn_of _ (by decide +kernel)) ggX12_empty_X12_copies
set_option maxRecDepth 20000 in
theorem ggX12_empty_X12_hereIn : GoodIn wsX12_empty wsX12_hereIn := goodIn_r _ [9, 10, 11, 5, 12] (by decide +kernel) (by decide +kernel)
set_option maxRecDepth 20000 in
theorem gX12_empty_X12_hereIn : GoodIn wsX12_empty (va_wsS RX12 151 yX12_hereIn wsX12_hereIn) := goodIn_app (goodIn_of _ (by decide +kernel)) ggX12_empty_X12_hereIn
set_option maxRecDepth 20000 in
theorem ggX12_empty_X12_daysOn : GoodIn wsX12_empty wsX12_daysOn := goodIn_r _ [15, 16, 17, 5, 18, 19, 20, 21, 10, 11, 12, 22, 23, 24, 25, 26, 27, 28, 29, 30, 31, 32, 33, 34, 35, 36, 37, 38, 39, 40, 41, 42, 43, 44, 45] (by decide +kernel) (by decide +kernel)
set_option maxRecDepth 20000 in
theorem gX12_empty_X12_daysOn : GoodIn wsX12_empty (va_wsS RX12 126 yX12_daysOn wsX12_daysOn) := goodIn_app (goodIn_of _ (by decide +kernel)) ggX12_empty_X12_daysOn
theorem dX12_empty_0 : decode cX12_empty 0 = .ok (.aload_n 0, 1) := by decide +kernel
theorem dX12_empty_1 : decode cX12_empty 1 = .ok (.getfield 9, 3) := by decide +kernel
theorem dX12_empty_4 : decode cX12_empty 4 = .ok (.aload_n 0, 1) := by decide +kernel
theorem dX12_empty_5 : decode cX12_empty 5 = .ok (.getfield 13, 3) := by decide +kernel
theorem dX12_empty_8 : decode cX12_empty 8 = .ok (.invokestatic 137, 3) := by decide +kernel
theorem dX12_empty_11 : decode cX12_empty 11 = .ok (.iconst 0, 1) := by decide +kernel
theorem dX12_empty_12 : decode cX12_empty 12 = .ok (.istore_n 1, 1) := by decide +kernel
theorem dX12_empty_13 : decode cX12_empty 13 = .ok (.iload_n 1, 1) := by decide +kernel
theorem dX12_empty_14 : decode cX12_empty 14 = .ok (.bipush 60, 2) := by decide +kernel
theorem dX12_empty_16 : decode cX12_empty 16 = .ok (.if_icmp .gt 29, 3) := by decide +kernel
theorem dX12_empty_19 : decode cX12_empty 19 = .ok (.aload_n 0, 1) := by decide +kernel
theorem dX12_empty_20 : decode cX12_empty 20 = .ok (.getfield 13, 3) := by decide +kernel
theorem dX12_empty_23 : decode cX12_empty 23 = .ok (.invokestatic 151, 3) := by decide +kernel
theorem dX12_empty_26 : decode cX12_empty 26 = .ok (.ifCond .ne 5, 3) := by decide +kernel
theorem dX12_empty_29 : decode cX12_empty 29 = .ok (.iload_n 1, 1) := by decide +kernel
theorem dX12_empty_30 : decode cX12_empty 30 = .ok (.ireturn, 1) := by decide +kernel
theorem dX12_empty_31 : decode cX12_empty 31 = .ok (.aload_n 0, 1) := by decide +kernel
theorem dX12_empty_32 : decode cX12_empty 32 = .ok (.getfield 13, 3) := by decide +kernel
theorem dX12_empty_35 : decode cX12_empty 35 = .ok (.iconst 1, 1) := by decide +kernel
theorem dX12_empty_36 : decode cX12_empty 36 = .ok (.invokestatic 126, 3) := by decide +kernel
theorem dX12_empty_39 : decode cX12_empty 39 = .ok (.iinc 1 1, 3) := by decide +kernel
theorem dX12_empty_42 : decode cX12_empty 42 = .ok (.goto (-29), 3) := by decide +kernel
theorem dX12_empty_45 : decode cX12_empty 45 = .ok (.bipush (-4), 2) := by decide +kernel
theorem dX12_empty_47 : decode cX12_empty 47 = .ok (.ireturn, 1) := by decide +kernel
theorem dX12_toRent_0 : decode cX12_toRent 0 = .ok (.bipush 10, 2) := by decide +kernel
theorem dX12_toRent_2 : decode cX12_toRent 2 = .ok (.aload_n 0, 1) := by decide +kernel
theorem dX12_toRent_3 : decode cX12_toRent 3 = .ok (.getfield 9, 3) := by decide +kernel
theorem dX12_toRent_6 : decode cX12_toRent 6 = .ok (.iconst 1, 1) := by decide +kernel
theorem dX12_toRent_7 : decode cX12_toRent 7 = .ok (.iaload, 1) := by decide +kernel
theorem dX12_toRent_8 : decode cX12_toRent 8 = .ok (.bipush 10, 2) := by decide +kernel
theorem dX12_toRent_10 : decode cX12_toRent 10 = .ok (.irem, 1) := by decide +kernel
theorem dX12_toRent_11 : decode cX12_toRent 11 = .ok (.isub, 1) := by decide +kernel
theorem dX12_toRent_12 : decode cX12_toRent 12 = .ok (.ireturn, 1) := by decide +kernel
set_option maxRecDepth 20000 in
theorem ggX12_warnedNext_X12_toRent : GoodIn wsX12_warnedNext wsX12_toRent := goodIn_r _ [6, 7, 41, 42, 43, 44, 45, 46, 47, 48, 49, 50, 51, 52, 53, 54, 55, 56, 57] (by decide +kernel) (by decide +kernel)
set_option maxRecDepth 20000 in
theorem gX12_warnedNext_X12_toRent : GoodIn wsX12_warnedNext (wsV RX12 172 RX12 yX12_toRent wsX12_toRent) := goodIn_app (goodIn_of _ (by decide +kernel)) ggX12_warnedNext_X12_toRent
set_option maxRecDepth 20000 in
theorem ggX12_warnedNext_X12_day : GoodIn wsX12_warnedNext wsX12_day := goodIn_r _ [10, 11, 12, 5, 13, 14, 15, 16, 17, 18, 19, 20, 21, 22, 23, 24, 25, 26, 27, 28, 29, 30, 31, 32, 33, 34, 35, 36, 37, 38, 39, 40] (by decide +kernel) (by decide +kernel)
set_option maxRecDepth 20000 in
theorem gX12_warnedNext_X12_day : GoodIn wsX12_warnedNext (va_wsS RX12 87 yX12_day wsX12_day) := goodIn_app (goodIn_of _ (by decide +kernel)) ggX12_warnedNext_X12_day
theorem dX12_warnedNext_0 : decode cX12_warnedNext 0 = .ok (.iconst 0, 1) := by decide +kernel
theorem dX12_warnedNext_1 : decode cX12_warnedNext 1 = .ok (.istore_n 1, 1) := by decide +kernel
theorem dX12_warnedNext_2 : decode cX12_warnedNext 2 = .ok (.iconst 0, 1) := by decide +kernel
theorem dX12_warnedNext_3 : decode cX12_warnedNext 3 = .ok (.istore_n 2, 1) := by decide +kernel
theorem dX12_warnedNext_4 : decode cX12_warnedNext 4 = .ok (.iload_n 2, 1) := by decide +kernel
theorem dX12_warnedNext_5 : decode cX12_warnedNext 5 = .ok (.aload_n 0, 1) := by decide +kernel
theorem dX12_warnedNext_6 : decode cX12_warnedNext 6 = .ok (.invokevirtual 172, 3) := by decide +kernel
theorem dX12_warnedNext_9 : decode cX12_warnedNext 9 = .ok (.if_icmp .ge 23, 3) := by decide +kernel
theorem dX12_warnedNext_12 : decode cX12_warnedNext 12 = .ok (.aload_n 0, 1) := by decide +kernel
theorem dX12_warnedNext_13 : decode cX12_warnedNext 13 = .ok (.getfield 13, 3) := by decide +kernel
theorem dX12_warnedNext_16 : decode cX12_warnedNext 16 = .ok (.aload_n 0, 1) := by decide +kernel
theorem dX12_warnedNext_17 : decode cX12_warnedNext 17 = .ok (.getfield 13, 3) := by decide +kernel
theorem dX12_warnedNext_20 : decode cX12_warnedNext 20 = .ok (.iconst 2, 1) := by decide +kernel
theorem dX12_warnedNext_21 : decode cX12_warnedNext 21 = .ok (.iaload, 1) := by decide +kernel
theorem dX12_warnedNext_22 : decode cX12_warnedNext 22 = .ok (.invokestatic 87, 3) := by decide +kernel
theorem dX12_warnedNext_25 : decode cX12_warnedNext 25 = .ok (.istore_n 1, 1) := by decide +kernel
theorem dX12_warnedNext_26 : decode cX12_warnedNext 26 = .ok (.iinc 2 1, 3) := by decide +kernel
theorem dX12_warnedNext_29 : decode cX12_warnedNext 29 = .ok (.goto (-25), 3) := by decide +kernel
theorem dX12_warnedNext_32 : decode cX12_warnedNext 32 = .ok (.iload_n 1, 1) := by decide +kernel
theorem dX12_warnedNext_33 : decode cX12_warnedNext 33 = .ok (.ireturn, 1) := by decide +kernel
set_option maxRecDepth 20000 in
theorem ggX12_wantedNext_X12_toRent : GoodIn wsX12_wantedNext wsX12_toRent := goodIn_r _ [6, 7, 51, 52, 53, 54, 55, 56, 57, 58, 59, 60, 61, 62, 63, 64, 65, 66, 67] (by decide +kernel) (by decide +kernel)
set_option maxRecDepth 20000 in
theorem gX12_wantedNext_X12_toRent : GoodIn wsX12_wantedNext (wsV RX12 172 RX12 yX12_toRent wsX12_toRent) := goodIn_app (goodIn_of _ (by decide +kernel)) ggX12_wantedNext_X12_toRent
set_option maxRecDepth 20000 in
theorem ggX12_wantedNext_X12_takes : GoodIn wsX12_wantedNext wsX12_takes := goodIn_r _ [11, 7, 1, 12, 13, 5, 14, 15, 16, 17, 18, 19, 20, 21, 22, 23, 24, 25, 26, 27, 28, 29, 30, 31, 32, 33, 34, 35, 36, 37, 38, 39, 40, 41, 42, 43, 44, 45, 46, 47, 48, 49, 50, 51, 52, 53, 54, 55, 56, 57, 58, 59, 60, 61, 62, 63, 64, 65, 66, 67] (by decide +kernel) (by decide +kernel)
set_option maxRecDepth 20000 in
theorem gX12_wantedNext_X12_takes : GoodIn wsX12_wantedNext (wsV RX12 161 RX12 yX12_takes wsX12_takes) := goodIn_app (goodIn_of _ (by decide +kernel)) ggX12_wantedNext_X12_takes
set_option maxRecDepth 20000 in
theorem ggX12_wantedNext_X12_wanted : GoodIn wsX12_wantedNext wsX12_wanted := goodIn_r _ [44, 21, 22, 5, 23, 24, 25, 26, 36, 37, 38] (by decide +kernel) (by decide +kernel)
set_option maxRecDepth 20000 in
theorem gX12_wantedNext_X12_wanted : GoodIn wsX12_wantedNext (va_wsS RX12 70 yX12_wanted wsX12_wanted) := goodIn_app (goodIn_of _ (by decide +kernel)) ggX12_wantedNext_X12_wanted
theorem dX12_wantedNext_0 : decode cX12_wantedNext 0 = .ok (.aload_n 0, 1) := by decide +kernel
theorem dX12_wantedNext_1 : decode cX12_wantedNext 1 = .ok (.aload_n 0, 1) := by decide +kernel
theorem dX12_wantedNext_2 : decode cX12_wantedNext 2 = .ok (.invokevirtual 172, 3) := by decide +kernel
theorem dX12_wantedNext_5 : decode cX12_wantedNext 5 = .ok (.iconst 1, 1) := by decide +kernel
theorem dX12_wantedNext_6 : decode cX12_wantedNext 6 = .ok (.isub, 1) := by decide +kernel
theorem dX12_wantedNext_7 : decode cX12_wantedNext 7 = .ok (.invokevirtual 161, 3) := by decide +kernel
theorem dX12_wantedNext_10 : decode cX12_wantedNext 10 = .ok (.aload_n 0, 1) := by decide +kernel
theorem dX12_wantedNext_11 : decode cX12_wantedNext 11 = .ok (.getfield 13, 3) := by decide +kernel
theorem dX12_wantedNext_14 : decode cX12_wantedNext 14 = .ok (.aload_n 0, 1) := by decide +kernel
theorem dX12_wantedNext_15 : decode cX12_wantedNext 15 = .ok (.getfield 13, 3) := by decide +kernel
theorem dX12_wantedNext_18 : decode cX12_wantedNext 18 = .ok (.iconst 2, 1) := by decide +kernel
theorem dX12_wantedNext_19 : decode cX12_wantedNext 19 = .ok (.iaload, 1) := by decide +kernel
theorem dX12_wantedNext_20 : decode cX12_wantedNext 20 = .ok (.invokestatic 70, 3) := by decide +kernel
theorem dX12_wantedNext_23 : decode cX12_wantedNext 23 = .ok (.ireturn, 1) := by decide +kernel
set_option maxRecDepth 20000 in
theorem ggX12_rent_X12_isIn : GoodIn wsX12_rent wsX12_isIn := goodIn_r _ [6] (by decide +kernel) (by decide +kernel)
set_option maxRecDepth 20000 in
theorem gX12_rent_X12_isIn : GoodIn wsX12_rent (va_wsS RX12 43 yX12_isIn wsX12_isIn) := goodIn_app (goodIn_of _ (by decide +kernel)) ggX12_rent_X12_isIn
set_option maxRecDepth 20000 in
theorem ggX12_rent_X12_wantedNext : GoodIn wsX12_rent wsX12_wantedNext := goodIn_r _ [10, 2, 11, 12, 13, 5, 14, 1, 15, 16, 17, 18, 19, 20, 21, 22, 23, 24, 25, 26, 27, 28, 29, 30, 31, 32, 33, 34, 35, 36, 37, 38, 39, 40, 41, 42, 43, 44, 45, 46, 47, 48, 49, 50, 51, 52, 53, 54, 55, 56, 57, 62, 63, 64, 65, 66, 67, 68, 69, 70, 71, 72, 73, 74, 75, 76, 77, 78] (by decide +kernel) (by decide +kernel)
set_option maxRecDepth 20000 in
theorem gX12_rent_X12_wantedNext : GoodIn wsX12_rent (wsV RX12 175 RX12 yX12_wantedNext wsX12_wantedNext) := goodIn_app (goodIn_of _ (by decide +kernel)) ggX12_rent_X12_wantedNext
set_option maxRecDepth 20000 in
theorem ggX12_rent_X12_copies : GoodIn wsX12_rent wsX12_copies := goodIn_r _ [21] (by decide +kernel) (by decide +kernel)
set_option maxRecDepth 20000 in
theorem gX12_rent_X12_copies : GoodIn wsX12_rent (va_wsS RX12 137 yX12_copies wsX12_copies) := goodIn_app (goodIn_of _ (by decide +kernel)) ggX12_rent_X12_copies
set_option maxRecDepth 20000 in
theorem ggX12_rent_X12_warnedNext : GoodIn wsX12_rent wsX12_warnedNext := goodIn_r _ [61, 2, 11, 12, 13, 5, 14, 1, 25, 26, 27, 28, 29, 30, 31, 32, 33, 34, 35, 36, 37, 38, 39, 40, 41, 42, 43, 44, 45, 46, 47, 48, 49, 50, 51, 52, 53, 54, 55, 56, 57, 62, 63, 64, 65, 66, 67, 68, 69, 70, 71, 72, 73, 74, 75, 76, 77, 78] (by decide +kernel) (by decide +kernel)
set_option maxRecDepth 20000 in
theorem gX12_rent_X12_warnedNext : GoodIn wsX12_rent (wsV RX12 178 RX12 yX12_warnedNext wsX12_warnedNext) := goodIn_app (goodIn_of _ (by decide +kernel)) ggX12_rent_X12_warnedNext
theorem dX12_rent_0 : decode cX12_rent 0 = .ok (.iload_n 1, 1) := by decide +kernel
theorem dX12_rent_1 : decode cX12_rent 1 = .ok (.iconst 0, 1) := by decide +kernel
theorem dX12_rent_2 : decode cX12_rent 2 = .ok (.iconst 1, 1) := by decide +kernel
theorem dX12_rent_3 : decode cX12_rent 3 = .ok (.invokestatic 43, 3) := by decide +kernel
theorem dX12_rent_6 : decode cX12_rent 6 = .ok (.ifCond .ne 5, 3) := by decide +kernel
theorem dX12_rent_9 : decode cX12_rent 9 = .ok (.iconst (-1), 1) := by decide +kernel
theorem dX12_rent_10 : decode cX12_rent 10 = .ok (.ireturn, 1) := by decide +kernel
theorem dX12_rent_11 : decode cX12_rent 11 = .ok (.iload_n 1, 1) := by decide +kernel
theorem dX12_rent_12 : decode cX12_rent 12 = .ok (.ifCond .ne 8, 3) := by decide +kernel
theorem dX12_rent_15 : decode cX12_rent 15 = .ok (.aload_n 0, 1) := by decide +kernel
theorem dX12_rent_16 : decode cX12_rent 16 = .ok (.invokevirtual 175, 3) := by decide +kernel
theorem dX12_rent_19 : decode cX12_rent 19 = .ok (.ireturn, 1) := by decide +kernel
theorem dX12_rent_20 : decode cX12_rent 20 = .ok (.aload_n 0, 1) := by decide +kernel
theorem dX12_rent_21 : decode cX12_rent 21 = .ok (.getfield 9, 3) := by decide +kernel
theorem dX12_rent_24 : decode cX12_rent 24 = .ok (.aload_n 0, 1) := by decide +kernel
theorem dX12_rent_25 : decode cX12_rent 25 = .ok (.getfield 13, 3) := by decide +kernel
theorem dX12_rent_28 : decode cX12_rent 28 = .ok (.invokestatic 137, 3) := by decide +kernel
theorem dX12_rent_31 : decode cX12_rent 31 = .ok (.aload_n 0, 1) := by decide +kernel
theorem dX12_rent_32 : decode cX12_rent 32 = .ok (.invokevirtual 178, 3) := by decide +kernel
theorem dX12_rent_35 : decode cX12_rent 35 = .ok (.ireturn, 1) := by decide +kernel
set_option maxRecDepth 20000 in
theorem ggX12_bestSea_X12_isLate : GoodIn wsX12_bestSea wsX12_isLate := goodIn_r _ [6, 7, 8, 5, 9] (by decide +kernel) (by decide +kernel)
set_option maxRecDepth 20000 in
theorem gX12_bestSea_X12_isLate : GoodIn wsX12_bestSea (va_wsS RX12 158 yX12_isLate wsX12_isLate) := goodIn_app (goodIn_of _ (by decide +kernel)) ggX12_bestSea_X12_isLate
set_option maxRecDepth 20000 in
theorem ggX12_bestSea_X12_isIn : GoodIn wsX12_bestSea wsX12_isIn := goodIn_r _ [9] (by decide +kernel) (by decide +kernel)
set_option maxRecDepth 20000 in
theorem gX12_bestSea_X12_isIn : GoodIn wsX12_bestSea (va_wsS RX12 43 yX12_isIn wsX12_isIn) := goodIn_app (goodIn_of _ (by decide +kernel)) ggX12_bestSea_X12_isIn
set_option maxRecDepth 20000 in
theorem ggX12_bestSea_X12_copies : GoodIn wsX12_bestSea wsX12_copies := goodIn_r _ [12] (by decide +kernel) (by decide +kernel)
set_option maxRecDepth 20000 in
theorem gX12_bestSea_X12_copies : GoodIn wsX12_bestSea (va_wsS RX12 137 yX12_copies wsX12_copies) := goodIn_app (goodIn_of _ (by decide +kernel)) ggX12_bestSea_X12_copies
set_option maxRecDepth 20000 in
theorem ggX12_bestSea_X12_daysOn : GoodIn wsX12_bestSea wsX12_daysOn := goodIn_r _ [15, 16, 17, 5, 18, 19, 20, 21, 22, 23, 24, 25, 26, 27, 28, 29, 30, 31, 32, 33, 34, 35, 36, 37, 38, 39, 40, 41, 42, 43, 44, 45, 46, 47, 48] (by decide +kernel) (by decide +kernel)
set_option maxRecDepth 20000 in
theorem gX12_bestSea_X12_daysOn : GoodIn wsX12_bestSea (va_wsS RX12 126 yX12_daysOn wsX12_daysOn) := goodIn_app (goodIn_of _ (by decide +kernel)) ggX12_bestSea_X12_daysOn
set_option maxRecDepth 20000 in
theorem ggX12_bestSea_X12_hereIn : GoodIn wsX12_bestSea wsX12_hereIn := goodIn_r _ [51, 22, 23, 5, 24] (by decide +kernel) (by decide +kernel)
set_option maxRecDepth 20000 in
theorem gX12_bestSea_X12_hereIn : GoodIn wsX12_bestSea (va_wsS RX12 151 yX12_hereIn wsX12_hereIn) := goodIn_app (goodIn_of _ (by decide +kernel)) ggX12_bestSea_X12_hereIn
set_option maxRecDepth 20000 in
theorem ggX12_bestSea_X12_bits : GoodIn wsX12_bestSea wsX12_bits := goodIn_r _ [54] (by decide +kernel) (by decide +kernel)
set_option maxRecDepth 20000 in
theorem gX12_bestSea_X12_bits : GoodIn wsX12_bestSea (va_wsS RX12 155 yX12_bits wsX12_bits) := goodIn_app (goodIn_of _ (by decide +kernel)) ggX12_bestSea_X12_bits
theorem dX12_bestSea_0 : decode cX12_bestSea 0 = .ok (.iload_n 1, 1) := by decide +kernel
theorem dX12_bestSea_1 : decode cX12_bestSea 1 = .ok (.invokestatic 158, 3) := by decide +kernel
theorem dX12_bestSea_4 : decode cX12_bestSea 4 = .ok (.ifCond .eq 12, 3) := by decide +kernel
theorem dX12_bestSea_7 : decode cX12_bestSea 7 = .ok (.iload_n 2, 1) := by decide +kernel
theorem dX12_bestSea_8 : decode cX12_bestSea 8 = .ok (.iconst 0, 1) := by decide +kernel
theorem dX12_bestSea_9 : decode cX12_bestSea 9 = .ok (.iconst 1, 1) := by decide +kernel
theorem dX12_bestSea_10 : decode cX12_bestSea 10 = .ok (.invokestatic 43, 3) := by decide +kernel
theorem dX12_bestSea_13 : decode cX12_bestSea 13 = .ok (.ifCond .ne 5, 3) := by decide +kernel
theorem dX12_bestSea_16 : decode cX12_bestSea 16 = .ok (.iconst (-1), 1) := by decide +kernel
theorem dX12_bestSea_17 : decode cX12_bestSea 17 = .ok (.ireturn, 1) := by decide +kernel
theorem dX12_bestSea_18 : decode cX12_bestSea 18 = .ok (.iconst 0, 1) := by decide +kernel
theorem dX12_bestSea_19 : decode cX12_bestSea 19 = .ok (.istore_n 3, 1) := by decide +kernel
theorem dX12_bestSea_20 : decode cX12_bestSea 20 = .ok (.iconst (-1), 1) := by decide +kernel
theorem dX12_bestSea_21 : decode cX12_bestSea 21 = .ok (.istore 4, 2) := by decide +kernel
theorem dX12_bestSea_23 : decode cX12_bestSea 23 = .ok (.iconst 0, 1) := by decide +kernel
theorem dX12_bestSea_24 : decode cX12_bestSea 24 = .ok (.istore 5, 2) := by decide +kernel
theorem dX12_bestSea_26 : decode cX12_bestSea 26 = .ok (.iload 5, 2) := by decide +kernel
theorem dX12_bestSea_28 : decode cX12_bestSea 28 = .ok (.bipush 10, 2) := by decide +kernel
theorem dX12_bestSea_30 : decode cX12_bestSea 30 = .ok (.if_icmp .ge 69, 3) := by decide +kernel
theorem dX12_bestSea_33 : decode cX12_bestSea 33 = .ok (.aload_n 0, 1) := by decide +kernel
theorem dX12_bestSea_34 : decode cX12_bestSea 34 = .ok (.getfield 9, 3) := by decide +kernel
theorem dX12_bestSea_37 : decode cX12_bestSea 37 = .ok (.aload_n 0, 1) := by decide +kernel
theorem dX12_bestSea_38 : decode cX12_bestSea 38 = .ok (.getfield 13, 3) := by decide +kernel
theorem dX12_bestSea_41 : decode cX12_bestSea 41 = .ok (.invokestatic 137, 3) := by decide +kernel
theorem dX12_bestSea_44 : decode cX12_bestSea 44 = .ok (.aload_n 0, 1) := by decide +kernel
theorem dX12_bestSea_45 : decode cX12_bestSea 45 = .ok (.getfield 13, 3) := by decide +kernel
theorem dX12_bestSea_48 : decode cX12_bestSea 48 = .ok (.iconst 2, 1) := by decide +kernel
theorem dX12_bestSea_49 : decode cX12_bestSea 49 = .ok (.iload 5, 2) := by decide +kernel
theorem dX12_bestSea_51 : decode cX12_bestSea 51 = .ok (.iastore, 1) := by decide +kernel
theorem dX12_bestSea_52 : decode cX12_bestSea 52 = .ok (.aload_n 0, 1) := by decide +kernel
theorem dX12_bestSea_53 : decode cX12_bestSea 53 = .ok (.getfield 13, 3) := by decide +kernel
theorem dX12_bestSea_56 : decode cX12_bestSea 56 = .ok (.iload_n 1, 1) := by decide +kernel
theorem dX12_bestSea_57 : decode cX12_bestSea 57 = .ok (.invokestatic 126, 3) := by decide +kernel
theorem dX12_bestSea_60 : decode cX12_bestSea 60 = .ok (.aload_n 0, 1) := by decide +kernel
theorem dX12_bestSea_61 : decode cX12_bestSea 61 = .ok (.getfield 13, 3) := by decide +kernel
theorem dX12_bestSea_64 : decode cX12_bestSea 64 = .ok (.invokestatic 151, 3) := by decide +kernel
theorem dX12_bestSea_67 : decode cX12_bestSea 67 = .ok (.invokestatic 155, 3) := by decide +kernel
theorem dX12_bestSea_70 : decode cX12_bestSea 70 = .ok (.iload 4, 2) := by decide +kernel
theorem dX12_bestSea_72 : decode cX12_bestSea 72 = .ok (.if_icmp .gt 6, 3) := by decide +kernel
theorem dX12_bestSea_75 : decode cX12_bestSea 75 = .ok (.goto 18, 3) := by decide +kernel
theorem dX12_bestSea_78 : decode cX12_bestSea 78 = .ok (.iload 5, 2) := by decide +kernel
theorem dX12_bestSea_80 : decode cX12_bestSea 80 = .ok (.istore_n 3, 1) := by decide +kernel
theorem dX12_bestSea_81 : decode cX12_bestSea 81 = .ok (.aload_n 0, 1) := by decide +kernel
theorem dX12_bestSea_82 : decode cX12_bestSea 82 = .ok (.getfield 13, 3) := by decide +kernel
theorem dX12_bestSea_85 : decode cX12_bestSea 85 = .ok (.invokestatic 151, 3) := by decide +kernel
theorem dX12_bestSea_88 : decode cX12_bestSea 88 = .ok (.invokestatic 155, 3) := by decide +kernel
theorem dX12_bestSea_91 : decode cX12_bestSea 91 = .ok (.istore 4, 2) := by decide +kernel
theorem dX12_bestSea_93 : decode cX12_bestSea 93 = .ok (.iinc 5 1, 3) := by decide +kernel
theorem dX12_bestSea_96 : decode cX12_bestSea 96 = .ok (.goto (-70), 3) := by decide +kernel
theorem dX12_bestSea_99 : decode cX12_bestSea 99 = .ok (.iload_n 2, 1) := by decide +kernel
theorem dX12_bestSea_100 : decode cX12_bestSea 100 = .ok (.ifCond .ne 7, 3) := by decide +kernel
theorem dX12_bestSea_103 : decode cX12_bestSea 103 = .ok (.iload_n 3, 1) := by decide +kernel
theorem dX12_bestSea_104 : decode cX12_bestSea 104 = .ok (.goto 5, 3) := by decide +kernel
theorem dX12_bestSea_107 : decode cX12_bestSea 107 = .ok (.iload 4, 2) := by decide +kernel
theorem dX12_bestSea_109 : decode cX12_bestSea 109 = .ok (.ireturn, 1) := by decide +kernel
set_option maxRecDepth 20000 in
theorem ggX12_leastBirds_X12_copies : GoodIn wsX12_leastBirds wsX12_copies := goodIn_r _ [6] (by decide +kernel) (by decide +kernel)
set_option maxRecDepth 20000 in
theorem gX12_leastBirds_X12_copies : GoodIn wsX12_leastBirds (va_wsS RX12 137 yX12_copies wsX12_copies) := goodIn_app (goodIn_of _ (by decide +kernel)) ggX12_leastBirds_X12_copies
set_option maxRecDepth 20000 in
theorem ggX12_leastBirds_X12_warnedNext : GoodIn wsX12_leastBirds wsX12_warnedNext := goodIn_r _ [10, 2, 11, 12, 13, 5, 14, 1, 15, 16, 17, 18, 19, 20, 21, 22, 23, 24, 25, 26, 27, 28, 29, 30, 31, 32, 33, 34, 35, 36, 37, 38, 39, 40, 41, 42, 43, 44, 45, 46, 47, 48, 49, 50, 51, 52, 53, 54, 55, 56, 57, 58, 59, 60, 61, 62, 63, 64] (by decide +kernel) (by decide +kernel)
set_option maxRecDepth 20000 in
theorem gX12_leastBirds_X12_warnedNext : GoodIn wsX12_leastBirds (wsV RX12 178 RX12 yX12_warnedNext wsX12_warnedNext) := goodIn_app (goodIn_of _ (by decide +kernel)) ggX12_leastBirds_X12_warnedNext
theorem dX12_leastBirds_0 : decode cX12_leastBirds 0 = .ok (.iconst 0, 1) := by decide +kernel
theorem dX12_leastBirds_1 : decode cX12_leastBirds 1 = .ok (.istore_n 1, 1) := by decide +kernel
theorem dX12_leastBirds_2 : decode cX12_leastBirds 2 = .ok (.iload_n 1, 1) := by decide +kernel
theorem dX12_leastBirds_3 : decode cX12_leastBirds 3 = .ok (.bipush 99, 2) := by decide +kernel
theorem dX12_leastBirds_5 : decode cX12_leastBirds 5 = .ok (.if_icmp .gt 36, 3) := by decide +kernel
theorem dX12_leastBirds_8 : decode cX12_leastBirds 8 = .ok (.aload_n 0, 1) := by decide +kernel
theorem dX12_leastBirds_9 : decode cX12_leastBirds 9 = .ok (.getfield 9, 3) := by decide +kernel
theorem dX12_leastBirds_12 : decode cX12_leastBirds 12 = .ok (.aload_n 0, 1) := by decide +kernel
theorem dX12_leastBirds_13 : decode cX12_leastBirds 13 = .ok (.getfield 13, 3) := by decide +kernel
theorem dX12_leastBirds_16 : decode cX12_leastBirds 16 = .ok (.invokestatic 137, 3) := by decide +kernel
theorem dX12_leastBirds_19 : decode cX12_leastBirds 19 = .ok (.aload_n 0, 1) := by decide +kernel
theorem dX12_leastBirds_20 : decode cX12_leastBirds 20 = .ok (.getfield 13, 3) := by decide +kernel
theorem dX12_leastBirds_23 : decode cX12_leastBirds 23 = .ok (.iconst 3, 1) := by decide +kernel
theorem dX12_leastBirds_24 : decode cX12_leastBirds 24 = .ok (.iload_n 1, 1) := by decide +kernel
theorem dX12_leastBirds_25 : decode cX12_leastBirds 25 = .ok (.iastore, 1) := by decide +kernel
theorem dX12_leastBirds_26 : decode cX12_leastBirds 26 = .ok (.aload_n 0, 1) := by decide +kernel
theorem dX12_leastBirds_27 : decode cX12_leastBirds 27 = .ok (.invokevirtual 178, 3) := by decide +kernel
theorem dX12_leastBirds_30 : decode cX12_leastBirds 30 = .ok (.ifCond .ne 5, 3) := by decide +kernel
theorem dX12_leastBirds_33 : decode cX12_leastBirds 33 = .ok (.iload_n 1, 1) := by decide +kernel
theorem dX12_leastBirds_34 : decode cX12_leastBirds 34 = .ok (.ireturn, 1) := by decide +kernel
theorem dX12_leastBirds_35 : decode cX12_leastBirds 35 = .ok (.iinc 1 1, 3) := by decide +kernel
theorem dX12_leastBirds_38 : decode cX12_leastBirds 38 = .ok (.goto (-36), 3) := by decide +kernel
theorem dX12_leastBirds_41 : decode cX12_leastBirds 41 = .ok (.bipush (-4), 2) := by decide +kernel
theorem dX12_leastBirds_43 : decode cX12_leastBirds 43 = .ok (.ireturn, 1) := by decide +kernel
set_option maxRecDepth 20000 in
theorem ggX12_leastStore_X12_isTenant : GoodIn wsX12_leastStore wsX12_isTenant := goodIn_r _ [7, 1, 8, 9, 6, 10, 58, 59, 60, 61, 62, 63, 64, 65, 66, 67, 68, 69, 70, 71, 72, 73, 74] (by decide +kernel) (by decide +kernel)
set_option maxRecDepth 20000 in
theorem gX12_leastStore_X12_isTenant : GoodIn wsX12_leastStore (wsV RX12 47 RX12 yX12_isTenant wsX12_isTenant) := goodIn_app (goodIn_of _ (by decide +kernel)) ggX12_leastStore_X12_isTenant
set_option maxRecDepth 20000 in
theorem ggX12_leastStore_X12_isHere : GoodIn wsX12_leastStore wsX12_isHere := goodIn_r _ [13, 14, 15, 6, 16] (by decide +kernel) (by decide +kernel)
set_option maxRecDepth 20000 in
theorem gX12_leastStore_X12_isHere : GoodIn wsX12_leastStore (va_wsS RX12 66 yX12_isHere wsX12_isHere) := goodIn_app (goodIn_of _ (by decide +kernel)) ggX12_leastStore_X12_isHere
set_option maxRecDepth 20000 in
theorem ggX12_leastStore_X12_copies : GoodIn wsX12_leastStore wsX12_copies := goodIn_r _ [19] (by decide +kernel) (by decide +kernel)
set_option maxRecDepth 20000 in
theorem gX12_leastStore_X12_copies : GoodIn wsX12_leastStore (va_wsS RX12 137 yX12_copies wsX12_copies) := goodIn_app (goodIn_of _ (by decide +kernel)) ggX12_leastStore_X12_copies
set_option maxRecDepth 20000 in
theorem ggX12_leastStore_X12_of : GoodIn wsX12_leastStore wsX12_of := goodIn_r _ [16] (by decide +kernel) (by decide +kernel)
set_option maxRecDepth 20000 in
theorem gX12_leastStore_X12_of : GoodIn wsX12_leastStore (va_wsS RX12 51 yX12_of wsX12_of) := goodIn_app (goodIn_of _ (by decide +kernel)) ggX12_leastStore_X12_of
set_option maxRecDepth 20000 in
theorem ggX12_leastStore_X12_warnedNext : GoodIn wsX12_leastStore wsX12_warnedNext := goodIn_r _ [23, 2, 24, 25, 26, 6, 27, 1, 28, 29, 30, 11, 12, 13, 14, 15, 16, 31, 32, 33, 34, 35, 36, 37, 38, 39, 40, 41, 42, 43, 44, 45, 46, 47, 48, 49, 50, 51, 52, 53, 54, 58, 59, 60, 61, 62, 63, 64, 65, 66, 67, 68, 69, 70, 71, 72, 73, 74] (by decide +kernel) (by decide +kernel)
set_option maxRecDepth 20000 in
theorem gX12_leastStore_X12_warnedNext : GoodIn wsX12_leastStore (wsV RX12 178 RX12 yX12_warnedNext wsX12_warnedNext) := goodIn_app (goodIn_of _ (by decide +kernel)) ggX12_leastStore_X12_warnedNext
set_option maxRecDepth 20000 in
theorem ggX12_leastStore_X12_has : GoodIn wsX12_leastStore wsX12_has := goodIn_r _ [57] (by decide +kernel) (by decide +kernel)
set_option maxRecDepth 20000 in
theorem gX12_leastStore_X12_has : GoodIn wsX12_leastStore (va_wsS RX12 90 yX12_has wsX12_has) := goodIn_app (goodIn_of _ (by decide +kernel)) ggX12_leastStore_X12_has
theorem dX12_leastStore_0 : decode cX12_leastStore 0 = .ok (.aload_n 0, 1) := by decide +kernel
theorem dX12_leastStore_1 : decode cX12_leastStore 1 = .ok (.iload_n 1, 1) := by decide +kernel
theorem dX12_leastStore_2 : decode cX12_leastStore 2 = .ok (.invokevirtual 47, 3) := by decide +kernel
theorem dX12_leastStore_5 : decode cX12_leastStore 5 = .ok (.ifCond .ne 5, 3) := by decide +kernel
theorem dX12_leastStore_8 : decode cX12_leastStore 8 = .ok (.iconst (-1), 1) := by decide +kernel
theorem dX12_leastStore_9 : decode cX12_leastStore 9 = .ok (.ireturn, 1) := by decide +kernel
theorem dX12_leastStore_10 : decode cX12_leastStore 10 = .ok (.iconst 0, 1) := by decide +kernel
theorem dX12_leastStore_11 : decode cX12_leastStore 11 = .ok (.istore_n 2, 1) := by decide +kernel
theorem dX12_leastStore_12 : decode cX12_leastStore 12 = .ok (.iload_n 2, 1) := by decide +kernel
theorem dX12_leastStore_13 : decode cX12_leastStore 13 = .ok (.bipush 99, 2) := by decide +kernel
theorem dX12_leastStore_15 : decode cX12_leastStore 15 = .ok (.if_icmp .gt 55, 3) := by decide +kernel
theorem dX12_leastStore_18 : decode cX12_leastStore 18 = .ok (.aload_n 0, 1) := by decide +kernel
theorem dX12_leastStore_19 : decode cX12_leastStore 19 = .ok (.getfield 9, 3) := by decide +kernel
theorem dX12_leastStore_22 : decode cX12_leastStore 22 = .ok (.iload_n 1, 1) := by decide +kernel
theorem dX12_leastStore_23 : decode cX12_leastStore 23 = .ok (.invokestatic 66, 3) := by decide +kernel
theorem dX12_leastStore_26 : decode cX12_leastStore 26 = .ok (.ifCond .eq 44, 3) := by decide +kernel
theorem dX12_leastStore_29 : decode cX12_leastStore 29 = .ok (.aload_n 0, 1) := by decide +kernel
theorem dX12_leastStore_30 : decode cX12_leastStore 30 = .ok (.getfield 9, 3) := by decide +kernel
theorem dX12_leastStore_33 : decode cX12_leastStore 33 = .ok (.aload_n 0, 1) := by decide +kernel
theorem dX12_leastStore_34 : decode cX12_leastStore 34 = .ok (.getfield 13, 3) := by decide +kernel
theorem dX12_leastStore_37 : decode cX12_leastStore 37 = .ok (.invokestatic 137, 3) := by decide +kernel
theorem dX12_leastStore_40 : decode cX12_leastStore 40 = .ok (.aload_n 0, 1) := by decide +kernel
theorem dX12_leastStore_41 : decode cX12_leastStore 41 = .ok (.getfield 13, 3) := by decide +kernel
theorem dX12_leastStore_44 : decode cX12_leastStore 44 = .ok (.iload_n 1, 1) := by decide +kernel
theorem dX12_leastStore_45 : decode cX12_leastStore 45 = .ok (.iconst 2, 1) := by decide +kernel
theorem dX12_leastStore_46 : decode cX12_leastStore 46 = .ok (.invokestatic 51, 3) := by decide +kernel
theorem dX12_leastStore_49 : decode cX12_leastStore 49 = .ok (.iload_n 2, 1) := by decide +kernel
theorem dX12_leastStore_50 : decode cX12_leastStore 50 = .ok (.iastore, 1) := by decide +kernel
theorem dX12_leastStore_51 : decode cX12_leastStore 51 = .ok (.aload_n 0, 1) := by decide +kernel
theorem dX12_leastStore_52 : decode cX12_leastStore 52 = .ok (.invokevirtual 178, 3) := by decide +kernel
theorem dX12_leastStore_55 : decode cX12_leastStore 55 = .ok (.iload_n 1, 1) := by decide +kernel
theorem dX12_leastStore_56 : decode cX12_leastStore 56 = .ok (.invokestatic 90, 3) := by decide +kernel
theorem dX12_leastStore_59 : decode cX12_leastStore 59 = .ok (.ifCond .ne 5, 3) := by decide +kernel
theorem dX12_leastStore_62 : decode cX12_leastStore 62 = .ok (.iload_n 2, 1) := by decide +kernel
theorem dX12_leastStore_63 : decode cX12_leastStore 63 = .ok (.ireturn, 1) := by decide +kernel
theorem dX12_leastStore_64 : decode cX12_leastStore 64 = .ok (.iinc 2 1, 3) := by decide +kernel
theorem dX12_leastStore_67 : decode cX12_leastStore 67 = .ok (.goto (-55), 3) := by decide +kernel
theorem dX12_leastStore_70 : decode cX12_leastStore 70 = .ok (.bipush (-4), 2) := by decide +kernel
theorem dX12_leastStore_72 : decode cX12_leastStore 72 = .ok (.ireturn, 1) := by decide +kernel
set_option maxRecDepth 20000 in
theorem ggX12_lend_X12_areTwo : GoodIn wsX12_lend wsX12_areTwo := goodIn_r _ [7, 8, 9, 10, 6, 11, 1, 12, 13, 14, 68, 69, 70, 71, 72, 73, 74, 75, 76, 77, 78, 79, 80, 81, 82, 83, 84] (by decide +kernel) (by decide +kernel)
set_option maxRecDepth 20000 in
theorem gX12_lend_X12_areTwo : GoodIn wsX12_lend (wsV RX12 115 RX12 yX12_areTwo wsX12_areTwo) := goodIn_app (goodIn_of _ (by decide +kernel)) ggX12_lend_X12_areTwo
set_option maxRecDepth 20000 in
theorem ggX12_lend_X12_isHere : GoodIn wsX12_lend wsX12_isHere := goodIn_r _ [17, 18, 19, 6, 20] (by decide +kernel) (by decide +kernel)
set_option maxRecDepth 20000 in
theorem gX12_lend_X12_isHere : GoodIn wsX12_lend (va_wsS RX12 66 yX12_isHere wsX12_isHere) := goodIn_app (goodIn_of _ (by decide +kernel)) ggX12_lend_X12_isHere
set_option maxRecDepth 20000 in
theorem ggX12_lend_X12_copies : GoodIn wsX12_lend wsX12_copies := goodIn_r _ [23] (by decide +kernel) (by decide +kernel)
set_option maxRecDepth 20000 in
theorem gX12_lend_X12_copies : GoodIn wsX12_lend (va_wsS RX12 137 yX12_copies wsX12_copies) := goodIn_app (goodIn_of _ (by decide +kernel)) ggX12_lend_X12_copies
set_option maxRecDepth 20000 in
theorem ggX12_lend_X12_canLend : GoodIn wsX12_lend wsX12_canLend := goodIn_r _ [26, 15, 16, 6, 17, 18, 19, 20] (by decide +kernel) (by decide +kernel)
set_option maxRecDepth 20000 in
theorem gX12_lend_X12_canLend : GoodIn wsX12_lend (va_wsS RX12 118 yX12_canLend wsX12_canLend) := goodIn_app (goodIn_of _ (by decide +kernel)) ggX12_lend_X12_canLend
set_option maxRecDepth 20000 in
theorem ggX12_lend_X12_lendsIn : GoodIn wsX12_lend wsX12_lendsIn := goodIn_r _ [29, 18, 19, 6, 20] (by decide +kernel) (by decide +kernel)
set_option maxRecDepth 20000 in
theorem gX12_lend_X12_lendsIn : GoodIn wsX12_lend (va_wsS RX12 122 yX12_lendsIn wsX12_lendsIn) := goodIn_app (goodIn_of _ (by decide +kernel)) ggX12_lend_X12_lendsIn
set_option maxRecDepth 20000 in
theorem ggX12_lend_X12_warnedNext : GoodIn wsX12_lend wsX12_warnedNext := goodIn_r _ [33, 2, 34, 35, 36, 6, 37, 1, 38, 39, 40, 15, 16, 17, 18, 19, 20, 41, 42, 43, 44, 45, 46, 47, 48, 49, 50, 51, 52, 53, 54, 55, 56, 57, 58, 59, 60, 61, 62, 63, 64, 68, 69, 70, 71, 72, 73, 74, 75, 76, 77, 78, 79, 80, 81, 82, 83, 84] (by decide +kernel) (by decide +kernel)
set_option maxRecDepth 20000 in
theorem gX12_lend_X12_warnedNext : GoodIn wsX12_lend (wsV RX12 178 RX12 yX12_warnedNext wsX12_warnedNext) := goodIn_app (goodIn_of _ (by decide +kernel)) ggX12_lend_X12_warnedNext
set_option maxRecDepth 20000 in
theorem ggX12_lend_X12_has : GoodIn wsX12_lend wsX12_has := goodIn_r _ [67] (by decide +kernel) (by decide +kernel)
set_option maxRecDepth 20000 in
theorem gX12_lend_X12_has : GoodIn wsX12_lend (va_wsS RX12 90 yX12_has wsX12_has) := goodIn_app (goodIn_of _ (by decide +kernel)) ggX12_lend_X12_has
theorem dX12_lend_0 : decode cX12_lend 0 = .ok (.aload_n 0, 1) := by decide +kernel
theorem dX12_lend_1 : decode cX12_lend 1 = .ok (.iload_n 1, 1) := by decide +kernel
theorem dX12_lend_2 : decode cX12_lend 2 = .ok (.iload_n 2, 1) := by decide +kernel
theorem dX12_lend_3 : decode cX12_lend 3 = .ok (.invokevirtual 115, 3) := by decide +kernel
theorem dX12_lend_6 : decode cX12_lend 6 = .ok (.ifCond .ne 5, 3) := by decide +kernel
theorem dX12_lend_9 : decode cX12_lend 9 = .ok (.iconst (-1), 1) := by decide +kernel
theorem dX12_lend_10 : decode cX12_lend 10 = .ok (.ireturn, 1) := by decide +kernel
theorem dX12_lend_11 : decode cX12_lend 11 = .ok (.aload_n 0, 1) := by decide +kernel
theorem dX12_lend_12 : decode cX12_lend 12 = .ok (.getfield 9, 3) := by decide +kernel
theorem dX12_lend_15 : decode cX12_lend 15 = .ok (.iload_n 1, 1) := by decide +kernel
theorem dX12_lend_16 : decode cX12_lend 16 = .ok (.invokestatic 66, 3) := by decide +kernel
theorem dX12_lend_19 : decode cX12_lend 19 = .ok (.ifCond .eq 14, 3) := by decide +kernel
theorem dX12_lend_22 : decode cX12_lend 22 = .ok (.aload_n 0, 1) := by decide +kernel
theorem dX12_lend_23 : decode cX12_lend 23 = .ok (.getfield 9, 3) := by decide +kernel
theorem dX12_lend_26 : decode cX12_lend 26 = .ok (.iload_n 2, 1) := by decide +kernel
theorem dX12_lend_27 : decode cX12_lend 27 = .ok (.invokestatic 66, 3) := by decide +kernel
theorem dX12_lend_30 : decode cX12_lend 30 = .ok (.ifCond .ne 6, 3) := by decide +kernel
theorem dX12_lend_33 : decode cX12_lend 33 = .ok (.bipush (-3), 2) := by decide +kernel
theorem dX12_lend_35 : decode cX12_lend 35 = .ok (.ireturn, 1) := by decide +kernel
theorem dX12_lend_36 : decode cX12_lend 36 = .ok (.iconst 0, 1) := by decide +kernel
theorem dX12_lend_37 : decode cX12_lend 37 = .ok (.istore_n 3, 1) := by decide +kernel
theorem dX12_lend_38 : decode cX12_lend 38 = .ok (.iload_n 3, 1) := by decide +kernel
theorem dX12_lend_39 : decode cX12_lend 39 = .ok (.bipush 99, 2) := by decide +kernel
theorem dX12_lend_41 : decode cX12_lend 41 = .ok (.if_icmp .gt 59, 3) := by decide +kernel
theorem dX12_lend_44 : decode cX12_lend 44 = .ok (.aload_n 0, 1) := by decide +kernel
theorem dX12_lend_45 : decode cX12_lend 45 = .ok (.getfield 9, 3) := by decide +kernel
theorem dX12_lend_48 : decode cX12_lend 48 = .ok (.aload_n 0, 1) := by decide +kernel
theorem dX12_lend_49 : decode cX12_lend 49 = .ok (.getfield 13, 3) := by decide +kernel
theorem dX12_lend_52 : decode cX12_lend 52 = .ok (.invokestatic 137, 3) := by decide +kernel
theorem dX12_lend_55 : decode cX12_lend 55 = .ok (.aload_n 0, 1) := by decide +kernel
theorem dX12_lend_56 : decode cX12_lend 56 = .ok (.getfield 13, 3) := by decide +kernel
theorem dX12_lend_59 : decode cX12_lend 59 = .ok (.iload_n 1, 1) := by decide +kernel
theorem dX12_lend_60 : decode cX12_lend 60 = .ok (.iload_n 2, 1) := by decide +kernel
theorem dX12_lend_61 : decode cX12_lend 61 = .ok (.iload_n 3, 1) := by decide +kernel
theorem dX12_lend_62 : decode cX12_lend 62 = .ok (.invokestatic 118, 3) := by decide +kernel
theorem dX12_lend_65 : decode cX12_lend 65 = .ok (.ifCond .ne 6, 3) := by decide +kernel
theorem dX12_lend_68 : decode cX12_lend 68 = .ok (.bipush (-4), 2) := by decide +kernel
theorem dX12_lend_70 : decode cX12_lend 70 = .ok (.ireturn, 1) := by decide +kernel
theorem dX12_lend_71 : decode cX12_lend 71 = .ok (.aload_n 0, 1) := by decide +kernel
theorem dX12_lend_72 : decode cX12_lend 72 = .ok (.getfield 13, 3) := by decide +kernel
theorem dX12_lend_75 : decode cX12_lend 75 = .ok (.iload_n 1, 1) := by decide +kernel
theorem dX12_lend_76 : decode cX12_lend 76 = .ok (.iload_n 2, 1) := by decide +kernel
theorem dX12_lend_77 : decode cX12_lend 77 = .ok (.iload_n 3, 1) := by decide +kernel
theorem dX12_lend_78 : decode cX12_lend 78 = .ok (.invokestatic 122, 3) := by decide +kernel
theorem dX12_lend_81 : decode cX12_lend 81 = .ok (.aload_n 0, 1) := by decide +kernel
theorem dX12_lend_82 : decode cX12_lend 82 = .ok (.invokevirtual 178, 3) := by decide +kernel
theorem dX12_lend_85 : decode cX12_lend 85 = .ok (.iload_n 2, 1) := by decide +kernel
theorem dX12_lend_86 : decode cX12_lend 86 = .ok (.invokestatic 90, 3) := by decide +kernel
theorem dX12_lend_89 : decode cX12_lend 89 = .ok (.ifCond .ne 5, 3) := by decide +kernel
theorem dX12_lend_92 : decode cX12_lend 92 = .ok (.iload_n 3, 1) := by decide +kernel
theorem dX12_lend_93 : decode cX12_lend 93 = .ok (.ireturn, 1) := by decide +kernel
theorem dX12_lend_94 : decode cX12_lend 94 = .ok (.iinc 3 1, 3) := by decide +kernel
theorem dX12_lend_97 : decode cX12_lend 97 = .ok (.goto (-59), 3) := by decide +kernel
theorem dX12_lend_100 : decode cX12_lend 100 = .ok (.bipush (-4), 2) := by decide +kernel
theorem dX12_lend_102 : decode cX12_lend 102 = .ok (.ireturn, 1) := by decide +kernel
set_option maxRecDepth 20000 in
theorem ggX12_sendsAway_X12_takes : GoodIn wsX12_sendsAway wsX12_takes := goodIn_r _ [7, 2, 1, 8, 9, 6, 10, 11, 12, 13, 14, 15, 16, 17, 18, 19, 20, 21, 22, 23, 24, 25, 26, 27, 28, 29, 30, 31, 32, 33, 34, 35, 36, 37, 38, 39, 40, 41, 42, 43, 44, 45, 46, 53, 54, 55, 56, 57, 58, 59, 60, 61, 62, 63, 64, 65, 66, 67, 68, 69] (by decide +kernel) (by decide +kernel)
set_option maxRecDepth 20000 in
theorem gX12_sendsAway_X12_takes : GoodIn wsX12_sendsAway (wsV RX12 161 RX12 yX12_takes wsX12_takes) := goodIn_app (goodIn_of _ (by decide +kernel)) ggX12_sendsAway_X12_takes
set_option maxRecDepth 20000 in
theorem ggX12_sendsAway_X12_hereIn : GoodIn wsX12_sendsAway wsX12_hereIn := goodIn_r _ [49, 20, 21, 6, 22] (by decide +kernel) (by decide +kernel)
set_option maxRecDepth 20000 in
theorem gX12_sendsAway_X12_hereIn : GoodIn wsX12_sendsAway (va_wsS RX12 151 yX12_hereIn wsX12_hereIn) := goodIn_app (goodIn_of _ (by decide +kernel)) ggX12_sendsAway_X12_hereIn
set_option maxRecDepth 20000 in
theorem ggX12_sendsAway_X12_isHere : GoodIn wsX12_sendsAway wsX12_isHere := goodIn_r _ [19, 20, 21, 6, 22] (by decide +kernel) (by decide +kernel)
set_option maxRecDepth 20000 in
theorem gX12_sendsAway_X12_isHere : GoodIn wsX12_sendsAway (va_wsS RX12 66 yX12_isHere wsX12_isHere) := goodIn_app (goodIn_of _ (by decide +kernel)) ggX12_sendsAway_X12_isHere
set_option maxRecDepth 20000 in
theorem ggX12_sendsAway_X12_copies : GoodIn wsX12_sendsAway wsX12_copies := goodIn_r _ [10] (by decide +kernel) (by decide +kernel)
set_option maxRecDepth 20000 in
theorem gX12_sendsAway_X12_copies : GoodIn wsX12_sendsAway (va_wsS RX12 137 yX12_copies wsX12_copies) := goodIn_app (goodIn_of _ (by decide +kernel)) ggX12_sendsAway_X12_copies
set_option maxRecDepth 20000 in
theorem ggX12_sendsAway_X12_of : GoodIn wsX12_sendsAway wsX12_of := goodIn_r _ [22] (by decide +kernel) (by decide +kernel)
set_option maxRecDepth 20000 in
theorem gX12_sendsAway_X12_of : GoodIn wsX12_sendsAway (va_wsS RX12 51 yX12_of wsX12_of) := goodIn_app (goodIn_of _ (by decide +kernel)) ggX12_sendsAway_X12_of
set_option maxRecDepth 20000 in
theorem ggX12_sendsAway_X12_daysOn : GoodIn wsX12_sendsAway wsX12_daysOn := goodIn_r _ [13, 14, 15, 6, 16, 17, 18, 19, 20, 21, 22, 23, 24, 25, 26, 27, 28, 29, 30, 31, 32, 33, 34, 35, 36, 37, 38, 39, 40, 41, 42, 43, 44, 45, 46] (by decide +kernel) (by decide +kernel)
set_option maxRecDepth 20000 in
theorem gX12_sendsAway_X12_daysOn : GoodIn wsX12_sendsAway (va_wsS RX12 126 yX12_daysOn wsX12_daysOn) := goodIn_app (goodIn_of _ (by decide +kernel)) ggX12_sendsAway_X12_daysOn
set_option maxRecDepth 20000 in
theorem ggX12_sendsAway_X12_bits : GoodIn wsX12_sendsAway wsX12_bits := goodIn_r _ [52] (by decide +kernel) (by decide +kernel)
set_option maxRecDepth 20000 in
theorem gX12_sendsAway_X12_bits : GoodIn wsX12_sendsAway (va_wsS RX12 155 yX12_bits wsX12_bits) := goodIn_app (goodIn_of _ (by decide +kernel)) ggX12_sendsAway_X12_bits
theorem dX12_sendsAway_0 : decode cX12_sendsAway 0 = .ok (.aload_n 0, 1) := by decide +kernel
theorem dX12_sendsAway_1 : decode cX12_sendsAway 1 = .ok (.iload_n 1, 1) := by decide +kernel
theorem dX12_sendsAway_2 : decode cX12_sendsAway 2 = .ok (.invokevirtual 161, 3) := by decide +kernel
theorem dX12_sendsAway_5 : decode cX12_sendsAway 5 = .ok (.aload_n 0, 1) := by decide +kernel
theorem dX12_sendsAway_6 : decode cX12_sendsAway 6 = .ok (.getfield 13, 3) := by decide +kernel
theorem dX12_sendsAway_9 : decode cX12_sendsAway 9 = .ok (.invokestatic 151, 3) := by decide +kernel
theorem dX12_sendsAway_12 : decode cX12_sendsAway 12 = .ok (.istore_n 2, 1) := by decide +kernel
theorem dX12_sendsAway_13 : decode cX12_sendsAway 13 = .ok (.bipush (-4), 2) := by decide +kernel
theorem dX12_sendsAway_15 : decode cX12_sendsAway 15 = .ok (.istore_n 3, 1) := by decide +kernel
theorem dX12_sendsAway_16 : decode cX12_sendsAway 16 = .ok (.iconst (-1), 1) := by decide +kernel
theorem dX12_sendsAway_17 : decode cX12_sendsAway 17 = .ok (.istore 4, 2) := by decide +kernel
theorem dX12_sendsAway_19 : decode cX12_sendsAway 19 = .ok (.iconst 0, 1) := by decide +kernel
theorem dX12_sendsAway_20 : decode cX12_sendsAway 20 = .ok (.istore 5, 2) := by decide +kernel
theorem dX12_sendsAway_22 : decode cX12_sendsAway 22 = .ok (.iload 5, 2) := by decide +kernel
theorem dX12_sendsAway_24 : decode cX12_sendsAway 24 = .ok (.aload_n 0, 1) := by decide +kernel
theorem dX12_sendsAway_25 : decode cX12_sendsAway 25 = .ok (.getfield 9, 3) := by decide +kernel
theorem dX12_sendsAway_28 : decode cX12_sendsAway 28 = .ok (.iconst 0, 1) := by decide +kernel
theorem dX12_sendsAway_29 : decode cX12_sendsAway 29 = .ok (.iaload, 1) := by decide +kernel
theorem dX12_sendsAway_30 : decode cX12_sendsAway 30 = .ok (.if_icmp .ge 100, 3) := by decide +kernel
theorem dX12_sendsAway_33 : decode cX12_sendsAway 33 = .ok (.aload_n 0, 1) := by decide +kernel
theorem dX12_sendsAway_34 : decode cX12_sendsAway 34 = .ok (.getfield 9, 3) := by decide +kernel
theorem dX12_sendsAway_37 : decode cX12_sendsAway 37 = .ok (.iload 5, 2) := by decide +kernel
theorem dX12_sendsAway_39 : decode cX12_sendsAway 39 = .ok (.invokestatic 66, 3) := by decide +kernel
theorem dX12_sendsAway_42 : decode cX12_sendsAway 42 = .ok (.ifCond .ne 6, 3) := by decide +kernel
theorem dX12_sendsAway_45 : decode cX12_sendsAway 45 = .ok (.goto 79, 3) := by decide +kernel
theorem dX12_sendsAway_48 : decode cX12_sendsAway 48 = .ok (.aload_n 0, 1) := by decide +kernel
theorem dX12_sendsAway_49 : decode cX12_sendsAway 49 = .ok (.getfield 9, 3) := by decide +kernel
theorem dX12_sendsAway_52 : decode cX12_sendsAway 52 = .ok (.aload_n 0, 1) := by decide +kernel
theorem dX12_sendsAway_53 : decode cX12_sendsAway 53 = .ok (.getfield 13, 3) := by decide +kernel
theorem dX12_sendsAway_56 : decode cX12_sendsAway 56 = .ok (.invokestatic 137, 3) := by decide +kernel
theorem dX12_sendsAway_59 : decode cX12_sendsAway 59 = .ok (.aload_n 0, 1) := by decide +kernel
theorem dX12_sendsAway_60 : decode cX12_sendsAway 60 = .ok (.getfield 13, 3) := by decide +kernel
theorem dX12_sendsAway_63 : decode cX12_sendsAway 63 = .ok (.iload 5, 2) := by decide +kernel
theorem dX12_sendsAway_65 : decode cX12_sendsAway 65 = .ok (.iconst 4, 1) := by decide +kernel
theorem dX12_sendsAway_66 : decode cX12_sendsAway 66 = .ok (.invokestatic 51, 3) := by decide +kernel
theorem dX12_sendsAway_69 : decode cX12_sendsAway 69 = .ok (.iconst 0, 1) := by decide +kernel
theorem dX12_sendsAway_70 : decode cX12_sendsAway 70 = .ok (.iastore, 1) := by decide +kernel
theorem dX12_sendsAway_71 : decode cX12_sendsAway 71 = .ok (.aload_n 0, 1) := by decide +kernel
theorem dX12_sendsAway_72 : decode cX12_sendsAway 72 = .ok (.getfield 13, 3) := by decide +kernel
theorem dX12_sendsAway_75 : decode cX12_sendsAway 75 = .ok (.iload_n 1, 1) := by decide +kernel
theorem dX12_sendsAway_76 : decode cX12_sendsAway 76 = .ok (.invokestatic 126, 3) := by decide +kernel
theorem dX12_sendsAway_79 : decode cX12_sendsAway 79 = .ok (.aload_n 0, 1) := by decide +kernel
theorem dX12_sendsAway_80 : decode cX12_sendsAway 80 = .ok (.getfield 13, 3) := by decide +kernel
theorem dX12_sendsAway_83 : decode cX12_sendsAway 83 = .ok (.invokestatic 151, 3) := by decide +kernel
theorem dX12_sendsAway_86 : decode cX12_sendsAway 86 = .ok (.invokestatic 155, 3) := by decide +kernel
theorem dX12_sendsAway_89 : decode cX12_sendsAway 89 = .ok (.istore 6, 2) := by decide +kernel
theorem dX12_sendsAway_91 : decode cX12_sendsAway 91 = .ok (.iload 6, 2) := by decide +kernel
theorem dX12_sendsAway_93 : decode cX12_sendsAway 93 = .ok (.iload_n 2, 1) := by decide +kernel
theorem dX12_sendsAway_94 : decode cX12_sendsAway 94 = .ok (.iconst 1, 1) := by decide +kernel
theorem dX12_sendsAway_95 : decode cX12_sendsAway 95 = .ok (.iload 5, 2) := by decide +kernel
theorem dX12_sendsAway_97 : decode cX12_sendsAway 97 = .ok (.ishl, 1) := by decide +kernel
theorem dX12_sendsAway_98 : decode cX12_sendsAway 98 = .ok (.iconst (-1), 1) := by decide +kernel
theorem dX12_sendsAway_99 : decode cX12_sendsAway 99 = .ok (.ixor, 1) := by decide +kernel
theorem dX12_sendsAway_100 : decode cX12_sendsAway 100 = .ok (.iand, 1) := by decide +kernel
theorem dX12_sendsAway_101 : decode cX12_sendsAway 101 = .ok (.invokestatic 155, 3) := by decide +kernel
theorem dX12_sendsAway_104 : decode cX12_sendsAway 104 = .ok (.if_icmp .le 20, 3) := by decide +kernel
theorem dX12_sendsAway_107 : decode cX12_sendsAway 107 = .ok (.iload 6, 2) := by decide +kernel
theorem dX12_sendsAway_109 : decode cX12_sendsAway 109 = .ok (.iload 4, 2) := by decide +kernel
theorem dX12_sendsAway_111 : decode cX12_sendsAway 111 = .ok (.if_icmp .gt 6, 3) := by decide +kernel
theorem dX12_sendsAway_114 : decode cX12_sendsAway 114 = .ok (.goto 10, 3) := by decide +kernel
theorem dX12_sendsAway_117 : decode cX12_sendsAway 117 = .ok (.iload 5, 2) := by decide +kernel
theorem dX12_sendsAway_119 : decode cX12_sendsAway 119 = .ok (.istore_n 3, 1) := by decide +kernel
theorem dX12_sendsAway_120 : decode cX12_sendsAway 120 = .ok (.iload 6, 2) := by decide +kernel
theorem dX12_sendsAway_122 : decode cX12_sendsAway 122 = .ok (.istore 4, 2) := by decide +kernel
theorem dX12_sendsAway_124 : decode cX12_sendsAway 124 = .ok (.iinc 5 1, 3) := by decide +kernel
theorem dX12_sendsAway_127 : decode cX12_sendsAway 127 = .ok (.goto (-105), 3) := by decide +kernel
theorem dX12_sendsAway_130 : decode cX12_sendsAway 130 = .ok (.iload_n 3, 1) := by decide +kernel
theorem dX12_sendsAway_131 : decode cX12_sendsAway 131 = .ok (.ireturn, 1) := by decide +kernel
set_option maxRecDepth 20000 in
theorem ggX12_turnsRound_X12_takes : GoodIn wsX12_turnsRound wsX12_takes := goodIn_r _ [7, 2, 1, 8, 9, 6, 10, 11, 12, 13, 14, 15, 16, 17, 18, 19, 20, 21, 22, 23, 24, 25, 26, 27, 28, 29, 30, 31, 32, 33, 34, 35, 36, 37, 38, 39, 40, 41, 42, 43, 44, 45, 46, 53, 54, 55, 56, 57, 58, 59, 60, 61, 62, 63, 64, 65, 66, 67, 68, 69] (by decide +kernel) (by decide +kernel)
set_option maxRecDepth 20000 in
theorem gX12_turnsRound_X12_takes : GoodIn wsX12_turnsRound (wsV RX12 161 RX12 yX12_takes wsX12_takes) := goodIn_app (goodIn_of _ (by decide +kernel)) ggX12_turnsRound_X12_takes
set_option maxRecDepth 20000 in
theorem ggX12_turnsRound_X12_hereIn : GoodIn wsX12_turnsRound wsX12_hereIn := goodIn_r _ [49, 20, 21, 6, 22] (by decide +kernel) (by decide +kernel)
set_option maxRecDepth 20000 in
theorem gX12_turnsRound_X12_hereIn : GoodIn wsX12_turnsRound (va_wsS RX12 151 yX12_hereIn wsX12_hereIn) := goodIn_app (goodIn_of _ (by decide +kernel)) ggX12_turnsRound_X12_hereIn
set_option maxRecDepth 20000 in
theorem ggX12_turnsRound_X12_bits : GoodIn wsX12_turnsRound wsX12_bits := goodIn_r _ [52] (by decide +kernel) (by decide +kernel)
set_option maxRecDepth 20000 in
theorem gX12_turnsRound_X12_bits : GoodIn wsX12_turnsRound (va_wsS RX12 155 yX12_bits wsX12_bits) := goodIn_app (goodIn_of _ (by decide +kernel)) ggX12_turnsRound_X12_bits
set_option maxRecDepth 20000 in
theorem ggX12_turnsRound_X12_isHere : GoodIn wsX12_turnsRound wsX12_isHere := goodIn_r _ [19, 20, 21, 6, 22] (by decide +kernel) (by decide +kernel)
set_option maxRecDepth 20000 in
theorem gX12_turnsRound_X12_isHere : GoodIn wsX12_turnsRound (va_wsS RX12 66 yX12_isHere wsX12_isHere) := goodIn_app (goodIn_of _ (by decide +kernel)) ggX12_turnsRound_X12_isHere
set_option maxRecDepth 20000 in
theorem ggX12_turnsRound_X12_copies : GoodIn wsX12_turnsRound wsX12_copies := goodIn_r _ [10] (by decide +kernel) (by decide +kernel)
set_option maxRecDepth 20000 in
theorem gX12_turnsRound_X12_copies : GoodIn wsX12_turnsRound (va_wsS RX12 137 yX12_copies wsX12_copies) := goodIn_app (goodIn_of _ (by decide +kernel)) ggX12_turnsRound_X12_copies
set_option maxRecDepth 20000 in
theorem ggX12_turnsRound_X12_of : GoodIn wsX12_turnsRound wsX12_of := goodIn_r _ [22] (by decide +kernel) (by decide +kernel)
set_option maxRecDepth 20000 in
theorem gX12_turnsRound_X12_of : GoodIn wsX12_turnsRound (va_wsS RX12 51 yX12_of wsX12_of) := goodIn_app (goodIn_of _ (by decide +kernel)) ggX12_turnsRound_X12_of
set_option maxRecDepth 20000 in
theorem ggX12_turnsRound_X12_daysOn : GoodIn wsX12_turnsRound wsX12_daysOn := goodIn_r _ [13, 14, 15, 6, 16, 17, 18, 19, 20, 21, 22, 23, 24, 25, 26, 27, 28, 29, 30, 31, 32, 33, 34, 35, 36, 37, 38, 39, 40, 41, 42, 43, 44, 45, 46] (by decide +kernel) (by decide +kernel)
set_option maxRecDepth 20000 in
theorem gX12_turnsRound_X12_daysOn : GoodIn wsX12_turnsRound (va_wsS RX12 126 yX12_daysOn wsX12_daysOn) := goodIn_app (goodIn_of _ (by decide +kernel)) ggX12_turnsRound_X12_daysOn
theorem dX12_turnsRound_0 : decode cX12_turnsRound 0 = .ok (.aload_n 0, 1) := by decide +kernel
theorem dX12_turnsRound_1 : decode cX12_turnsRound 1 = .ok (.iload_n 1, 1) := by decide +kernel
theorem dX12_turnsRound_2 : decode cX12_turnsRound 2 = .ok (.invokevirtual 161, 3) := by decide +kernel
theorem dX12_turnsRound_5 : decode cX12_turnsRound 5 = .ok (.aload_n 0, 1) := by decide +kernel
theorem dX12_turnsRound_6 : decode cX12_turnsRound 6 = .ok (.getfield 13, 3) := by decide +kernel
theorem dX12_turnsRound_9 : decode cX12_turnsRound 9 = .ok (.invokestatic 151, 3) := by decide +kernel
theorem dX12_turnsRound_12 : decode cX12_turnsRound 12 = .ok (.invokestatic 155, 3) := by decide +kernel
theorem dX12_turnsRound_15 : decode cX12_turnsRound 15 = .ok (.istore_n 2, 1) := by decide +kernel
theorem dX12_turnsRound_16 : decode cX12_turnsRound 16 = .ok (.bipush (-4), 2) := by decide +kernel
theorem dX12_turnsRound_18 : decode cX12_turnsRound 18 = .ok (.istore_n 3, 1) := by decide +kernel
theorem dX12_turnsRound_19 : decode cX12_turnsRound 19 = .ok (.iconst 0, 1) := by decide +kernel
theorem dX12_turnsRound_20 : decode cX12_turnsRound 20 = .ok (.istore 4, 2) := by decide +kernel
theorem dX12_turnsRound_22 : decode cX12_turnsRound 22 = .ok (.iload 4, 2) := by decide +kernel
theorem dX12_turnsRound_24 : decode cX12_turnsRound 24 = .ok (.aload_n 0, 1) := by decide +kernel
theorem dX12_turnsRound_25 : decode cX12_turnsRound 25 = .ok (.getfield 9, 3) := by decide +kernel
theorem dX12_turnsRound_28 : decode cX12_turnsRound 28 = .ok (.iconst 0, 1) := by decide +kernel
theorem dX12_turnsRound_29 : decode cX12_turnsRound 29 = .ok (.iaload, 1) := by decide +kernel
theorem dX12_turnsRound_30 : decode cX12_turnsRound 30 = .ok (.if_icmp .ge 159, 3) := by decide +kernel
theorem dX12_turnsRound_33 : decode cX12_turnsRound 33 = .ok (.iload 4, 2) := by decide +kernel
theorem dX12_turnsRound_35 : decode cX12_turnsRound 35 = .ok (.iconst 1, 1) := by decide +kernel
theorem dX12_turnsRound_36 : decode cX12_turnsRound 36 = .ok (.iadd, 1) := by decide +kernel
theorem dX12_turnsRound_37 : decode cX12_turnsRound 37 = .ok (.istore 5, 2) := by decide +kernel
theorem dX12_turnsRound_39 : decode cX12_turnsRound 39 = .ok (.iload 5, 2) := by decide +kernel
theorem dX12_turnsRound_41 : decode cX12_turnsRound 41 = .ok (.aload_n 0, 1) := by decide +kernel
theorem dX12_turnsRound_42 : decode cX12_turnsRound 42 = .ok (.getfield 9, 3) := by decide +kernel
theorem dX12_turnsRound_45 : decode cX12_turnsRound 45 = .ok (.iconst 0, 1) := by decide +kernel
theorem dX12_turnsRound_46 : decode cX12_turnsRound 46 = .ok (.iaload, 1) := by decide +kernel
theorem dX12_turnsRound_47 : decode cX12_turnsRound 47 = .ok (.if_icmp .ge 136, 3) := by decide +kernel
theorem dX12_turnsRound_50 : decode cX12_turnsRound 50 = .ok (.aload_n 0, 1) := by decide +kernel
theorem dX12_turnsRound_51 : decode cX12_turnsRound 51 = .ok (.getfield 9, 3) := by decide +kernel
theorem dX12_turnsRound_54 : decode cX12_turnsRound 54 = .ok (.iload 4, 2) := by decide +kernel
theorem dX12_turnsRound_56 : decode cX12_turnsRound 56 = .ok (.invokestatic 66, 3) := by decide +kernel
theorem dX12_turnsRound_59 : decode cX12_turnsRound 59 = .ok (.ifCond .eq 118, 3) := by decide +kernel
theorem dX12_turnsRound_62 : decode cX12_turnsRound 62 = .ok (.aload_n 0, 1) := by decide +kernel
theorem dX12_turnsRound_63 : decode cX12_turnsRound 63 = .ok (.getfield 9, 3) := by decide +kernel
theorem dX12_turnsRound_66 : decode cX12_turnsRound 66 = .ok (.iload 5, 2) := by decide +kernel
theorem dX12_turnsRound_68 : decode cX12_turnsRound 68 = .ok (.invokestatic 66, 3) := by decide +kernel
theorem dX12_turnsRound_71 : decode cX12_turnsRound 71 = .ok (.ifCond .ne 6, 3) := by decide +kernel
theorem dX12_turnsRound_74 : decode cX12_turnsRound 74 = .ok (.goto 103, 3) := by decide +kernel
theorem dX12_turnsRound_77 : decode cX12_turnsRound 77 = .ok (.aload_n 0, 1) := by decide +kernel
theorem dX12_turnsRound_78 : decode cX12_turnsRound 78 = .ok (.getfield 9, 3) := by decide +kernel
theorem dX12_turnsRound_81 : decode cX12_turnsRound 81 = .ok (.aload_n 0, 1) := by decide +kernel
theorem dX12_turnsRound_82 : decode cX12_turnsRound 82 = .ok (.getfield 13, 3) := by decide +kernel
theorem dX12_turnsRound_85 : decode cX12_turnsRound 85 = .ok (.invokestatic 137, 3) := by decide +kernel
theorem dX12_turnsRound_88 : decode cX12_turnsRound 88 = .ok (.aload_n 0, 1) := by decide +kernel
theorem dX12_turnsRound_89 : decode cX12_turnsRound 89 = .ok (.getfield 13, 3) := by decide +kernel
theorem dX12_turnsRound_92 : decode cX12_turnsRound 92 = .ok (.iload 4, 2) := by decide +kernel
theorem dX12_turnsRound_94 : decode cX12_turnsRound 94 = .ok (.iconst 2, 1) := by decide +kernel
theorem dX12_turnsRound_95 : decode cX12_turnsRound 95 = .ok (.invokestatic 51, 3) := by decide +kernel
theorem dX12_turnsRound_98 : decode cX12_turnsRound 98 = .ok (.aload_n 0, 1) := by decide +kernel
theorem dX12_turnsRound_99 : decode cX12_turnsRound 99 = .ok (.getfield 9, 3) := by decide +kernel
theorem dX12_turnsRound_102 : decode cX12_turnsRound 102 = .ok (.iload 5, 2) := by decide +kernel
theorem dX12_turnsRound_104 : decode cX12_turnsRound 104 = .ok (.iconst 2, 1) := by decide +kernel
theorem dX12_turnsRound_105 : decode cX12_turnsRound 105 = .ok (.invokestatic 51, 3) := by decide +kernel
theorem dX12_turnsRound_108 : decode cX12_turnsRound 108 = .ok (.iaload, 1) := by decide +kernel
theorem dX12_turnsRound_109 : decode cX12_turnsRound 109 = .ok (.iastore, 1) := by decide +kernel
theorem dX12_turnsRound_110 : decode cX12_turnsRound 110 = .ok (.aload_n 0, 1) := by decide +kernel
theorem dX12_turnsRound_111 : decode cX12_turnsRound 111 = .ok (.getfield 13, 3) := by decide +kernel
theorem dX12_turnsRound_114 : decode cX12_turnsRound 114 = .ok (.iload 5, 2) := by decide +kernel
theorem dX12_turnsRound_116 : decode cX12_turnsRound 116 = .ok (.iconst 2, 1) := by decide +kernel
theorem dX12_turnsRound_117 : decode cX12_turnsRound 117 = .ok (.invokestatic 51, 3) := by decide +kernel
theorem dX12_turnsRound_120 : decode cX12_turnsRound 120 = .ok (.aload_n 0, 1) := by decide +kernel
theorem dX12_turnsRound_121 : decode cX12_turnsRound 121 = .ok (.getfield 9, 3) := by decide +kernel
theorem dX12_turnsRound_124 : decode cX12_turnsRound 124 = .ok (.iload 4, 2) := by decide +kernel
theorem dX12_turnsRound_126 : decode cX12_turnsRound 126 = .ok (.iconst 2, 1) := by decide +kernel
theorem dX12_turnsRound_127 : decode cX12_turnsRound 127 = .ok (.invokestatic 51, 3) := by decide +kernel
theorem dX12_turnsRound_130 : decode cX12_turnsRound 130 = .ok (.iaload, 1) := by decide +kernel
theorem dX12_turnsRound_131 : decode cX12_turnsRound 131 = .ok (.iastore, 1) := by decide +kernel
theorem dX12_turnsRound_132 : decode cX12_turnsRound 132 = .ok (.aload_n 0, 1) := by decide +kernel
theorem dX12_turnsRound_133 : decode cX12_turnsRound 133 = .ok (.getfield 13, 3) := by decide +kernel
theorem dX12_turnsRound_136 : decode cX12_turnsRound 136 = .ok (.iload_n 1, 1) := by decide +kernel
theorem dX12_turnsRound_137 : decode cX12_turnsRound 137 = .ok (.invokestatic 126, 3) := by decide +kernel
theorem dX12_turnsRound_140 : decode cX12_turnsRound 140 = .ok (.aload_n 0, 1) := by decide +kernel
theorem dX12_turnsRound_141 : decode cX12_turnsRound 141 = .ok (.getfield 13, 3) := by decide +kernel
theorem dX12_turnsRound_144 : decode cX12_turnsRound 144 = .ok (.invokestatic 151, 3) := by decide +kernel
theorem dX12_turnsRound_147 : decode cX12_turnsRound 147 = .ok (.invokestatic 155, 3) := by decide +kernel
theorem dX12_turnsRound_150 : decode cX12_turnsRound 150 = .ok (.iload_n 2, 1) := by decide +kernel
theorem dX12_turnsRound_151 : decode cX12_turnsRound 151 = .ok (.if_icmp .gt 6, 3) := by decide +kernel
theorem dX12_turnsRound_154 : decode cX12_turnsRound 154 = .ok (.goto 23, 3) := by decide +kernel
theorem dX12_turnsRound_157 : decode cX12_turnsRound 157 = .ok (.bipush 10, 2) := by decide +kernel
theorem dX12_turnsRound_159 : decode cX12_turnsRound 159 = .ok (.iload 4, 2) := by decide +kernel
theorem dX12_turnsRound_161 : decode cX12_turnsRound 161 = .ok (.imul, 1) := by decide +kernel
theorem dX12_turnsRound_162 : decode cX12_turnsRound 162 = .ok (.iload 5, 2) := by decide +kernel
theorem dX12_turnsRound_164 : decode cX12_turnsRound 164 = .ok (.iadd, 1) := by decide +kernel
theorem dX12_turnsRound_165 : decode cX12_turnsRound 165 = .ok (.istore_n 3, 1) := by decide +kernel
theorem dX12_turnsRound_166 : decode cX12_turnsRound 166 = .ok (.aload_n 0, 1) := by decide +kernel
theorem dX12_turnsRound_167 : decode cX12_turnsRound 167 = .ok (.getfield 13, 3) := by decide +kernel
theorem dX12_turnsRound_170 : decode cX12_turnsRound 170 = .ok (.invokestatic 151, 3) := by decide +kernel
theorem dX12_turnsRound_173 : decode cX12_turnsRound 173 = .ok (.invokestatic 155, 3) := by decide +kernel
theorem dX12_turnsRound_176 : decode cX12_turnsRound 176 = .ok (.istore_n 2, 1) := by decide +kernel
theorem dX12_turnsRound_177 : decode cX12_turnsRound 177 = .ok (.iinc 5 1, 3) := by decide +kernel
theorem dX12_turnsRound_180 : decode cX12_turnsRound 180 = .ok (.goto (-141), 3) := by decide +kernel
theorem dX12_turnsRound_183 : decode cX12_turnsRound 183 = .ok (.iinc 4 1, 3) := by decide +kernel
theorem dX12_turnsRound_186 : decode cX12_turnsRound 186 = .ok (.goto (-164), 3) := by decide +kernel
theorem dX12_turnsRound_189 : decode cX12_turnsRound 189 = .ok (.iload_n 3, 1) := by decide +kernel
theorem dX12_turnsRound_190 : decode cX12_turnsRound 190 = .ok (.ireturn, 1) := by decide +kernel
set_option maxRecDepth 20000 in
theorem ggX12_send_X12_isLate : GoodIn wsX12_send wsX12_isLate := goodIn_r _ [4, 5, 6, 3, 7] (by decide +kernel) (by decide +kernel)
set_option maxRecDepth 20000 in
theorem gX12_send_X12_isLate : GoodIn wsX12_send (va_wsS RX12 158 yX12_isLate wsX12_isLate) := goodIn_app (goodIn_of _ (by decide +kernel)) ggX12_send_X12_isLate
set_option maxRecDepth 20000 in
theorem ggX12_send_X12_sendsAway : GoodIn wsX12_send wsX12_sendsAway := goodIn_r _ [11, 12, 13, 14, 15, 16, 3, 17, 18, 19, 20, 21, 22, 23, 24, 25, 26, 27, 28, 29, 30, 31, 32, 33, 34, 35, 36, 37, 38, 39, 40, 41, 42, 43, 44, 45, 46, 47, 48, 49, 50, 51, 52, 53, 54, 55, 56, 57, 58, 59, 60, 61, 62, 67, 68, 69, 70, 71, 72, 73, 74, 75, 76, 77, 78, 79, 80, 81, 82, 83] (by decide +kernel) (by decide +kernel)
set_option maxRecDepth 20000 in
theorem gX12_send_X12_sendsAway : GoodIn wsX12_send (wsV RX12 181 RX12 yX12_sendsAway wsX12_sendsAway) := goodIn_app (goodIn_of _ (by decide +kernel)) ggX12_send_X12_sendsAway
set_option maxRecDepth 20000 in
theorem ggX12_send_X12_turnsRound : GoodIn wsX12_send wsX12_turnsRound := goodIn_r _ [66, 12, 13, 14, 15, 16, 3, 17, 18, 19, 20, 21, 22, 23, 24, 25, 26, 27, 28, 29, 30, 31, 32, 33, 34, 35, 36, 37, 38, 39, 40, 41, 42, 43, 44, 45, 46, 47, 48, 49, 50, 51, 52, 53, 54, 55, 56, 57, 58, 59, 60, 61, 62, 67, 68, 69, 70, 71, 72, 73, 74, 75, 76, 77, 78, 79, 80, 81, 82, 83] (by decide +kernel) (by decide +kernel)
set_option maxRecDepth 20000 in
theorem gX12_send_X12_turnsRound : GoodIn wsX12_send (wsV RX12 184 RX12 yX12_turnsRound wsX12_turnsRound) := goodIn_app (goodIn_of _ (by decide +kernel)) ggX12_send_X12_turnsRound
theorem dX12_send_0 : decode cX12_send 0 = .ok (.iload_n 1, 1) := by decide +kernel
theorem dX12_send_1 : decode cX12_send 1 = .ok (.invokestatic 158, 3) := by decide +kernel
theorem dX12_send_4 : decode cX12_send 4 = .ok (.ifCond .ne 7, 3) := by decide +kernel
theorem dX12_send_7 : decode cX12_send 7 = .ok (.iconst (-1), 1) := by decide +kernel
theorem dX12_send_8 : decode cX12_send 8 = .ok (.goto 29, 3) := by decide +kernel
theorem dX12_send_11 : decode cX12_send 11 = .ok (.iload_n 2, 1) := by decide +kernel
theorem dX12_send_12 : decode cX12_send 12 = .ok (.ifCond .ne 11, 3) := by decide +kernel
theorem dX12_send_15 : decode cX12_send 15 = .ok (.aload_n 0, 1) := by decide +kernel
theorem dX12_send_16 : decode cX12_send 16 = .ok (.iload_n 1, 1) := by decide +kernel
theorem dX12_send_17 : decode cX12_send 17 = .ok (.invokevirtual 181, 3) := by decide +kernel
theorem dX12_send_20 : decode cX12_send 20 = .ok (.goto 17, 3) := by decide +kernel
theorem dX12_send_23 : decode cX12_send 23 = .ok (.iload_n 2, 1) := by decide +kernel
theorem dX12_send_24 : decode cX12_send 24 = .ok (.iconst 1, 1) := by decide +kernel
theorem dX12_send_25 : decode cX12_send 25 = .ok (.if_icmp .ne 11, 3) := by decide +kernel
theorem dX12_send_28 : decode cX12_send 28 = .ok (.aload_n 0, 1) := by decide +kernel
theorem dX12_send_29 : decode cX12_send 29 = .ok (.iload_n 1, 1) := by decide +kernel
theorem dX12_send_30 : decode cX12_send 30 = .ok (.invokevirtual 184, 3) := by decide +kernel
theorem dX12_send_33 : decode cX12_send 33 = .ok (.goto 4, 3) := by decide +kernel
theorem dX12_send_36 : decode cX12_send 36 = .ok (.iconst (-1), 1) := by decide +kernel
theorem dX12_send_37 : decode cX12_send 37 = .ok (.ireturn, 1) := by decide +kernel
set_option maxRecDepth 20000 in
theorem ggX12_owedBy_X12_has : GoodIn wsX12_owedBy wsX12_has := goodIn_r _ [5] (by decide +kernel) (by decide +kernel)
set_option maxRecDepth 20000 in
theorem gX12_owedBy_X12_has : GoodIn wsX12_owedBy (va_wsS RX12 90 yX12_has wsX12_has) := goodIn_app (goodIn_of _ (by decide +kernel)) ggX12_owedBy_X12_has
set_option maxRecDepth 20000 in
theorem ggX12_owedBy_X12_owes : GoodIn wsX12_owedBy wsX12_owes := goodIn_r _ [8, 9, 10, 4, 11, 12, 13, 14, 15, 16, 17] (by decide +kernel) (by decide +kernel)
set_option maxRecDepth 20000 in
theorem gX12_owedBy_X12_owes : GoodIn wsX12_owedBy (va_wsS RX12 74 yX12_owes wsX12_owes) := goodIn_app (goodIn_of _ (by decide +kernel)) ggX12_owedBy_X12_owes
theorem dX12_owedBy_0 : decode cX12_owedBy 0 = .ok (.iconst 0, 1) := by decide +kernel
theorem dX12_owedBy_1 : decode cX12_owedBy 1 = .ok (.istore_n 2, 1) := by decide +kernel
theorem dX12_owedBy_2 : decode cX12_owedBy 2 = .ok (.iconst 0, 1) := by decide +kernel
theorem dX12_owedBy_3 : decode cX12_owedBy 3 = .ok (.istore_n 3, 1) := by decide +kernel
theorem dX12_owedBy_4 : decode cX12_owedBy 4 = .ok (.iload_n 3, 1) := by decide +kernel
theorem dX12_owedBy_5 : decode cX12_owedBy 5 = .ok (.aload_n 0, 1) := by decide +kernel
theorem dX12_owedBy_6 : decode cX12_owedBy 6 = .ok (.getfield 9, 3) := by decide +kernel
theorem dX12_owedBy_9 : decode cX12_owedBy 9 = .ok (.iconst 0, 1) := by decide +kernel
theorem dX12_owedBy_10 : decode cX12_owedBy 10 = .ok (.iaload, 1) := by decide +kernel
theorem dX12_owedBy_11 : decode cX12_owedBy 11 = .ok (.if_icmp .ge 32, 3) := by decide +kernel
theorem dX12_owedBy_14 : decode cX12_owedBy 14 = .ok (.iload_n 2, 1) := by decide +kernel
theorem dX12_owedBy_15 : decode cX12_owedBy 15 = .ok (.iload_n 1, 1) := by decide +kernel
theorem dX12_owedBy_16 : decode cX12_owedBy 16 = .ok (.iload_n 3, 1) := by decide +kernel
theorem dX12_owedBy_17 : decode cX12_owedBy 17 = .ok (.invokestatic 90, 3) := by decide +kernel
theorem dX12_owedBy_20 : decode cX12_owedBy 20 = .ok (.ifCond .eq 14, 3) := by decide +kernel
theorem dX12_owedBy_23 : decode cX12_owedBy 23 = .ok (.aload_n 0, 1) := by decide +kernel
theorem dX12_owedBy_24 : decode cX12_owedBy 24 = .ok (.getfield 9, 3) := by decide +kernel
theorem dX12_owedBy_27 : decode cX12_owedBy 27 = .ok (.iload_n 3, 1) := by decide +kernel
theorem dX12_owedBy_28 : decode cX12_owedBy 28 = .ok (.invokestatic 74, 3) := by decide +kernel
theorem dX12_owedBy_31 : decode cX12_owedBy 31 = .ok (.goto 4, 3) := by decide +kernel
theorem dX12_owedBy_34 : decode cX12_owedBy 34 = .ok (.iconst 0, 1) := by decide +kernel
theorem dX12_owedBy_35 : decode cX12_owedBy 35 = .ok (.iadd, 1) := by decide +kernel
theorem dX12_owedBy_36 : decode cX12_owedBy 36 = .ok (.istore_n 2, 1) := by decide +kernel
theorem dX12_owedBy_37 : decode cX12_owedBy 37 = .ok (.iinc 3 1, 3) := by decide +kernel
theorem dX12_owedBy_40 : decode cX12_owedBy 40 = .ok (.goto (-36), 3) := by decide +kernel
theorem dX12_owedBy_43 : decode cX12_owedBy 43 = .ok (.iload_n 2, 1) := by decide +kernel
theorem dX12_owedBy_44 : decode cX12_owedBy 44 = .ok (.ireturn, 1) := by decide +kernel
set_option maxRecDepth 20000 in
theorem ggX12_richestOf_X12_isHere : GoodIn wsX12_richestOf wsX12_isHere := goodIn_r _ [5, 6, 7, 4, 8] (by decide +kernel) (by decide +kernel)
set_option maxRecDepth 20000 in
theorem gX12_richestOf_X12_isHere : GoodIn wsX12_richestOf (va_wsS RX12 66 yX12_isHere wsX12_isHere) := goodIn_app (goodIn_of _ (by decide +kernel)) ggX12_richestOf_X12_isHere
set_option maxRecDepth 20000 in
theorem ggX12_richestOf_X12_of : GoodIn wsX12_richestOf wsX12_of := goodIn_r _ [8] (by decide +kernel) (by decide +kernel)
set_option maxRecDepth 20000 in
theorem gX12_richestOf_X12_of : GoodIn wsX12_richestOf (va_wsS RX12 51 yX12_of wsX12_of) := goodIn_app (goodIn_of _ (by decide +kernel)) ggX12_richestOf_X12_of
theorem dX12_richestOf_0 : decode cX12_richestOf 0 = .ok (.bipush (-4), 2) := by decide +kernel
theorem dX12_richestOf_2 : decode cX12_richestOf 2 = .ok (.istore_n 1, 1) := by decide +kernel
theorem dX12_richestOf_3 : decode cX12_richestOf 3 = .ok (.iconst 0, 1) := by decide +kernel
theorem dX12_richestOf_4 : decode cX12_richestOf 4 = .ok (.istore_n 2, 1) := by decide +kernel
theorem dX12_richestOf_5 : decode cX12_richestOf 5 = .ok (.iload_n 2, 1) := by decide +kernel
theorem dX12_richestOf_6 : decode cX12_richestOf 6 = .ok (.aload_n 0, 1) := by decide +kernel
theorem dX12_richestOf_7 : decode cX12_richestOf 7 = .ok (.getfield 9, 3) := by decide +kernel
theorem dX12_richestOf_10 : decode cX12_richestOf 10 = .ok (.iconst 0, 1) := by decide +kernel
theorem dX12_richestOf_11 : decode cX12_richestOf 11 = .ok (.iaload, 1) := by decide +kernel
theorem dX12_richestOf_12 : decode cX12_richestOf 12 = .ok (.if_icmp .ge 49, 3) := by decide +kernel
theorem dX12_richestOf_15 : decode cX12_richestOf 15 = .ok (.aload_n 0, 1) := by decide +kernel
theorem dX12_richestOf_16 : decode cX12_richestOf 16 = .ok (.getfield 9, 3) := by decide +kernel
theorem dX12_richestOf_19 : decode cX12_richestOf 19 = .ok (.iload_n 2, 1) := by decide +kernel
theorem dX12_richestOf_20 : decode cX12_richestOf 20 = .ok (.invokestatic 66, 3) := by decide +kernel
theorem dX12_richestOf_23 : decode cX12_richestOf 23 = .ok (.ifCond .eq 32, 3) := by decide +kernel
theorem dX12_richestOf_26 : decode cX12_richestOf 26 = .ok (.iload_n 1, 1) := by decide +kernel
theorem dX12_richestOf_27 : decode cX12_richestOf 27 = .ok (.ifCond .lt 26, 3) := by decide +kernel
theorem dX12_richestOf_30 : decode cX12_richestOf 30 = .ok (.aload_n 0, 1) := by decide +kernel
theorem dX12_richestOf_31 : decode cX12_richestOf 31 = .ok (.getfield 9, 3) := by decide +kernel
theorem dX12_richestOf_34 : decode cX12_richestOf 34 = .ok (.iload_n 2, 1) := by decide +kernel
theorem dX12_richestOf_35 : decode cX12_richestOf 35 = .ok (.iconst 2, 1) := by decide +kernel
theorem dX12_richestOf_36 : decode cX12_richestOf 36 = .ok (.invokestatic 51, 3) := by decide +kernel
theorem dX12_richestOf_39 : decode cX12_richestOf 39 = .ok (.iaload, 1) := by decide +kernel
theorem dX12_richestOf_40 : decode cX12_richestOf 40 = .ok (.aload_n 0, 1) := by decide +kernel
theorem dX12_richestOf_41 : decode cX12_richestOf 41 = .ok (.getfield 9, 3) := by decide +kernel
theorem dX12_richestOf_44 : decode cX12_richestOf 44 = .ok (.iload_n 1, 1) := by decide +kernel
theorem dX12_richestOf_45 : decode cX12_richestOf 45 = .ok (.iconst 2, 1) := by decide +kernel
theorem dX12_richestOf_46 : decode cX12_richestOf 46 = .ok (.invokestatic 51, 3) := by decide +kernel
theorem dX12_richestOf_49 : decode cX12_richestOf 49 = .ok (.iaload, 1) := by decide +kernel
theorem dX12_richestOf_50 : decode cX12_richestOf 50 = .ok (.if_icmp .le 5, 3) := by decide +kernel
theorem dX12_richestOf_53 : decode cX12_richestOf 53 = .ok (.iload_n 2, 1) := by decide +kernel
theorem dX12_richestOf_54 : decode cX12_richestOf 54 = .ok (.istore_n 1, 1) := by decide +kernel
theorem dX12_richestOf_55 : decode cX12_richestOf 55 = .ok (.iinc 2 1, 3) := by decide +kernel
theorem dX12_richestOf_58 : decode cX12_richestOf 58 = .ok (.goto (-53), 3) := by decide +kernel
theorem dX12_richestOf_61 : decode cX12_richestOf 61 = .ok (.iload_n 1, 1) := by decide +kernel
theorem dX12_richestOf_62 : decode cX12_richestOf 62 = .ok (.ireturn, 1) := by decide +kernel
set_option maxRecDepth 20000 in
theorem ggX12_poorOnes_X12_isHere : GoodIn wsX12_poorOnes wsX12_isHere := goodIn_r _ [5, 6, 7, 4, 8] (by decide +kernel) (by decide +kernel)
set_option maxRecDepth 20000 in
theorem gX12_poorOnes_X12_isHere : GoodIn wsX12_poorOnes (va_wsS RX12 66 yX12_isHere wsX12_isHere) := goodIn_app (goodIn_of _ (by decide +kernel)) ggX12_poorOnes_X12_isHere
set_option maxRecDepth 20000 in
theorem ggX12_poorOnes_X12_of : GoodIn wsX12_poorOnes wsX12_of := goodIn_r _ [8] (by decide +kernel) (by decide +kernel)
set_option maxRecDepth 20000 in
theorem gX12_poorOnes_X12_of : GoodIn wsX12_poorOnes (va_wsS RX12 51 yX12_of wsX12_of) := goodIn_app (goodIn_of _ (by decide +kernel)) ggX12_poorOnes_X12_of
set_option maxRecDepth 20000 in
theorem ggX12_poorOnes_X12_owes : GoodIn wsX12_poorOnes wsX12_owes := goodIn_r _ [11, 6, 7, 4, 8, 12, 13, 14, 15, 16, 17] (by decide +kernel) (by decide +kernel)
set_option maxRecDepth 20000 in
theorem gX12_poorOnes_X12_owes : GoodIn wsX12_poorOnes (va_wsS RX12 74 yX12_owes wsX12_owes) := goodIn_app (goodIn_of _ (by decide +kernel)) ggX12_poorOnes_X12_owes
theorem dX12_poorOnes_0 : decode cX12_poorOnes 0 = .ok (.iconst 0, 1) := by decide +kernel
theorem dX12_poorOnes_1 : decode cX12_poorOnes 1 = .ok (.istore_n 1, 1) := by decide +kernel
theorem dX12_poorOnes_2 : decode cX12_poorOnes 2 = .ok (.iconst 0, 1) := by decide +kernel
theorem dX12_poorOnes_3 : decode cX12_poorOnes 3 = .ok (.istore_n 2, 1) := by decide +kernel
theorem dX12_poorOnes_4 : decode cX12_poorOnes 4 = .ok (.iload_n 2, 1) := by decide +kernel
theorem dX12_poorOnes_5 : decode cX12_poorOnes 5 = .ok (.aload_n 0, 1) := by decide +kernel
theorem dX12_poorOnes_6 : decode cX12_poorOnes 6 = .ok (.getfield 9, 3) := by decide +kernel
theorem dX12_poorOnes_9 : decode cX12_poorOnes 9 = .ok (.iconst 0, 1) := by decide +kernel
theorem dX12_poorOnes_10 : decode cX12_poorOnes 10 = .ok (.iaload, 1) := by decide +kernel
theorem dX12_poorOnes_11 : decode cX12_poorOnes 11 = .ok (.if_icmp .ge 51, 3) := by decide +kernel
theorem dX12_poorOnes_14 : decode cX12_poorOnes 14 = .ok (.iload_n 1, 1) := by decide +kernel
theorem dX12_poorOnes_15 : decode cX12_poorOnes 15 = .ok (.aload_n 0, 1) := by decide +kernel
theorem dX12_poorOnes_16 : decode cX12_poorOnes 16 = .ok (.getfield 9, 3) := by decide +kernel
theorem dX12_poorOnes_19 : decode cX12_poorOnes 19 = .ok (.iload_n 2, 1) := by decide +kernel
theorem dX12_poorOnes_20 : decode cX12_poorOnes 20 = .ok (.invokestatic 66, 3) := by decide +kernel
theorem dX12_poorOnes_23 : decode cX12_poorOnes 23 = .ok (.ifCond .eq 30, 3) := by decide +kernel
theorem dX12_poorOnes_26 : decode cX12_poorOnes 26 = .ok (.aload_n 0, 1) := by decide +kernel
theorem dX12_poorOnes_27 : decode cX12_poorOnes 27 = .ok (.getfield 9, 3) := by decide +kernel
theorem dX12_poorOnes_30 : decode cX12_poorOnes 30 = .ok (.iload_n 2, 1) := by decide +kernel
theorem dX12_poorOnes_31 : decode cX12_poorOnes 31 = .ok (.iconst 2, 1) := by decide +kernel
theorem dX12_poorOnes_32 : decode cX12_poorOnes 32 = .ok (.invokestatic 51, 3) := by decide +kernel
theorem dX12_poorOnes_35 : decode cX12_poorOnes 35 = .ok (.iaload, 1) := by decide +kernel
theorem dX12_poorOnes_36 : decode cX12_poorOnes 36 = .ok (.aload_n 0, 1) := by decide +kernel
theorem dX12_poorOnes_37 : decode cX12_poorOnes 37 = .ok (.getfield 9, 3) := by decide +kernel
theorem dX12_poorOnes_40 : decode cX12_poorOnes 40 = .ok (.iload_n 2, 1) := by decide +kernel
theorem dX12_poorOnes_41 : decode cX12_poorOnes 41 = .ok (.invokestatic 74, 3) := by decide +kernel
theorem dX12_poorOnes_44 : decode cX12_poorOnes 44 = .ok (.if_icmp .ge 9, 3) := by decide +kernel
theorem dX12_poorOnes_47 : decode cX12_poorOnes 47 = .ok (.iconst 1, 1) := by decide +kernel
theorem dX12_poorOnes_48 : decode cX12_poorOnes 48 = .ok (.iload_n 2, 1) := by decide +kernel
theorem dX12_poorOnes_49 : decode cX12_poorOnes 49 = .ok (.ishl, 1) := by decide +kernel
theorem dX12_poorOnes_50 : decode cX12_poorOnes 50 = .ok (.goto 4, 3) := by decide +kernel
theorem dX12_poorOnes_53 : decode cX12_poorOnes 53 = .ok (.iconst 0, 1) := by decide +kernel
theorem dX12_poorOnes_54 : decode cX12_poorOnes 54 = .ok (.ior, 1) := by decide +kernel
theorem dX12_poorOnes_55 : decode cX12_poorOnes 55 = .ok (.istore_n 1, 1) := by decide +kernel
theorem dX12_poorOnes_56 : decode cX12_poorOnes 56 = .ok (.iinc 2 1, 3) := by decide +kernel
theorem dX12_poorOnes_59 : decode cX12_poorOnes 59 = .ok (.goto (-55), 3) := by decide +kernel
theorem dX12_poorOnes_62 : decode cX12_poorOnes 62 = .ok (.iload_n 1, 1) := by decide +kernel
theorem dX12_poorOnes_63 : decode cX12_poorOnes 63 = .ok (.ireturn, 1) := by decide +kernel
set_option maxRecDepth 20000 in
theorem ggX12_evenOnes_X12_hereIn : GoodIn wsX12_evenOnes wsX12_hereIn := goodIn_r _ [5, 6, 7, 4, 8] (by decide +kernel) (by decide +kernel)
set_option maxRecDepth 20000 in
theorem gX12_evenOnes_X12_hereIn : GoodIn wsX12_evenOnes (va_wsS RX12 151 yX12_hereIn wsX12_hereIn) := goodIn_app (goodIn_of _ (by decide +kernel)) ggX12_evenOnes_X12_hereIn
set_option maxRecDepth 20000 in
theorem ggX12_evenOnes_X12_bits : GoodIn wsX12_evenOnes wsX12_bits := goodIn_r _ [11] (by decide +kernel) (by decide +kernel)
set_option maxRecDepth 20000 in
theorem gX12_evenOnes_X12_bits : GoodIn wsX12_evenOnes (va_wsS RX12 155 yX12_bits wsX12_bits) := goodIn_app (goodIn_of _ (by decide +kernel)) ggX12_evenOnes_X12_bits
set_option maxRecDepth 20000 in
theorem ggX12_evenOnes_X12_storesIn : GoodIn wsX12_evenOnes wsX12_storesIn := goodIn_r _ [14, 15, 16, 4, 17, 6, 7, 8] (by decide +kernel) (by decide +kernel)
set_option maxRecDepth 20000 in
theorem gX12_evenOnes_X12_storesIn : GoodIn wsX12_evenOnes (va_wsS RX12 187 yX12_storesIn wsX12_storesIn) := goodIn_app (goodIn_of _ (by decide +kernel)) ggX12_evenOnes_X12_storesIn
set_option maxRecDepth 20000 in
theorem ggX12_evenOnes_X12_owedBy : GoodIn wsX12_evenOnes wsX12_owedBy := goodIn_r _ [21, 1, 15, 16, 4, 17, 22, 23, 24, 6, 7, 8, 25, 26, 27, 28, 29, 30, 31, 32, 33, 34, 35, 36, 37, 38, 39, 40, 41, 42, 43, 44, 45, 46, 47] (by decide +kernel) (by decide +kernel)
set_option maxRecDepth 20000 in
theorem gX12_evenOnes_X12_owedBy : GoodIn wsX12_evenOnes (wsV RX12 190 RX12 yX12_owedBy wsX12_owedBy) := goodIn_app (goodIn_of _ (by decide +kernel)) ggX12_evenOnes_X12_owedBy
theorem dX12_evenOnes_0 : decode cX12_evenOnes 0 = .ok (.iconst 0, 1) := by decide +kernel
theorem dX12_evenOnes_1 : decode cX12_evenOnes 1 = .ok (.istore_n 1, 1) := by decide +kernel
theorem dX12_evenOnes_2 : decode cX12_evenOnes 2 = .ok (.iconst 0, 1) := by decide +kernel
theorem dX12_evenOnes_3 : decode cX12_evenOnes 3 = .ok (.istore_n 2, 1) := by decide +kernel
theorem dX12_evenOnes_4 : decode cX12_evenOnes 4 = .ok (.iload_n 2, 1) := by decide +kernel
theorem dX12_evenOnes_5 : decode cX12_evenOnes 5 = .ok (.iconst 1, 1) := by decide +kernel
theorem dX12_evenOnes_6 : decode cX12_evenOnes 6 = .ok (.aload_n 0, 1) := by decide +kernel
theorem dX12_evenOnes_7 : decode cX12_evenOnes 7 = .ok (.getfield 9, 3) := by decide +kernel
theorem dX12_evenOnes_10 : decode cX12_evenOnes 10 = .ok (.iconst 0, 1) := by decide +kernel
theorem dX12_evenOnes_11 : decode cX12_evenOnes 11 = .ok (.iaload, 1) := by decide +kernel
theorem dX12_evenOnes_12 : decode cX12_evenOnes 12 = .ok (.ishl, 1) := by decide +kernel
theorem dX12_evenOnes_13 : decode cX12_evenOnes 13 = .ok (.if_icmp .ge 54, 3) := by decide +kernel
theorem dX12_evenOnes_16 : decode cX12_evenOnes 16 = .ok (.iload_n 2, 1) := by decide +kernel
theorem dX12_evenOnes_17 : decode cX12_evenOnes 17 = .ok (.aload_n 0, 1) := by decide +kernel
theorem dX12_evenOnes_18 : decode cX12_evenOnes 18 = .ok (.getfield 9, 3) := by decide +kernel
theorem dX12_evenOnes_21 : decode cX12_evenOnes 21 = .ok (.invokestatic 151, 3) := by decide +kernel
theorem dX12_evenOnes_24 : decode cX12_evenOnes 24 = .ok (.iconst (-1), 1) := by decide +kernel
theorem dX12_evenOnes_25 : decode cX12_evenOnes 25 = .ok (.ixor, 1) := by decide +kernel
theorem dX12_evenOnes_26 : decode cX12_evenOnes 26 = .ok (.iand, 1) := by decide +kernel
theorem dX12_evenOnes_27 : decode cX12_evenOnes 27 = .ok (.ifCond .ne 34, 3) := by decide +kernel
theorem dX12_evenOnes_30 : decode cX12_evenOnes 30 = .ok (.iload_n 2, 1) := by decide +kernel
theorem dX12_evenOnes_31 : decode cX12_evenOnes 31 = .ok (.invokestatic 155, 3) := by decide +kernel
theorem dX12_evenOnes_34 : decode cX12_evenOnes 34 = .ok (.iload_n 1, 1) := by decide +kernel
theorem dX12_evenOnes_35 : decode cX12_evenOnes 35 = .ok (.invokestatic 155, 3) := by decide +kernel
theorem dX12_evenOnes_38 : decode cX12_evenOnes 38 = .ok (.if_icmp .le 23, 3) := by decide +kernel
theorem dX12_evenOnes_41 : decode cX12_evenOnes 41 = .ok (.aload_n 0, 1) := by decide +kernel
theorem dX12_evenOnes_42 : decode cX12_evenOnes 42 = .ok (.getfield 9, 3) := by decide +kernel
theorem dX12_evenOnes_45 : decode cX12_evenOnes 45 = .ok (.iload_n 2, 1) := by decide +kernel
theorem dX12_evenOnes_46 : decode cX12_evenOnes 46 = .ok (.invokestatic 187, 3) := by decide +kernel
theorem dX12_evenOnes_49 : decode cX12_evenOnes 49 = .ok (.iconst 2, 1) := by decide +kernel
theorem dX12_evenOnes_50 : decode cX12_evenOnes 50 = .ok (.aload_n 0, 1) := by decide +kernel
theorem dX12_evenOnes_51 : decode cX12_evenOnes 51 = .ok (.iload_n 2, 1) := by decide +kernel
theorem dX12_evenOnes_52 : decode cX12_evenOnes 52 = .ok (.invokevirtual 190, 3) := by decide +kernel
theorem dX12_evenOnes_55 : decode cX12_evenOnes 55 = .ok (.imul, 1) := by decide +kernel
theorem dX12_evenOnes_56 : decode cX12_evenOnes 56 = .ok (.if_icmp .lt 5, 3) := by decide +kernel
theorem dX12_evenOnes_59 : decode cX12_evenOnes 59 = .ok (.iload_n 2, 1) := by decide +kernel
theorem dX12_evenOnes_60 : decode cX12_evenOnes 60 = .ok (.istore_n 1, 1) := by decide +kernel
theorem dX12_evenOnes_61 : decode cX12_evenOnes 61 = .ok (.iinc 2 1, 3) := by decide +kernel
theorem dX12_evenOnes_64 : decode cX12_evenOnes 64 = .ok (.goto (-60), 3) := by decide +kernel
theorem dX12_evenOnes_67 : decode cX12_evenOnes 67 = .ok (.iload_n 1, 1) := by decide +kernel
theorem dX12_evenOnes_68 : decode cX12_evenOnes 68 = .ok (.ireturn, 1) := by decide +kernel
set_option maxRecDepth 20000 in
theorem ggX12_partings_X12_hereIn : GoodIn wsX12_partings wsX12_hereIn := goodIn_r _ [5, 6, 7, 4, 8] (by decide +kernel) (by decide +kernel)
set_option maxRecDepth 20000 in
theorem gX12_partings_X12_hereIn : GoodIn wsX12_partings (va_wsS RX12 151 yX12_hereIn wsX12_hereIn) := goodIn_app (goodIn_of _ (by decide +kernel)) ggX12_partings_X12_hereIn
set_option maxRecDepth 20000 in
theorem ggX12_partings_X12_storesIn : GoodIn wsX12_partings wsX12_storesIn := goodIn_r _ [11, 12, 13, 4, 14, 6, 7, 8] (by decide +kernel) (by decide +kernel)
set_option maxRecDepth 20000 in
theorem gX12_partings_X12_storesIn : GoodIn wsX12_partings (va_wsS RX12 187 yX12_storesIn wsX12_storesIn) := goodIn_app (goodIn_of _ (by decide +kernel)) ggX12_partings_X12_storesIn
theorem dX12_partings_0 : decode cX12_partings 0 = .ok (.aload_n 0, 1) := by decide +kernel
theorem dX12_partings_1 : decode cX12_partings 1 = .ok (.getfield 9, 3) := by decide +kernel
theorem dX12_partings_4 : decode cX12_partings 4 = .ok (.invokestatic 151, 3) := by decide +kernel
theorem dX12_partings_7 : decode cX12_partings 7 = .ok (.istore_n 1, 1) := by decide +kernel
theorem dX12_partings_8 : decode cX12_partings 8 = .ok (.iconst 0, 1) := by decide +kernel
theorem dX12_partings_9 : decode cX12_partings 9 = .ok (.istore_n 2, 1) := by decide +kernel
theorem dX12_partings_10 : decode cX12_partings 10 = .ok (.iconst 0, 1) := by decide +kernel
theorem dX12_partings_11 : decode cX12_partings 11 = .ok (.istore_n 3, 1) := by decide +kernel
theorem dX12_partings_12 : decode cX12_partings 12 = .ok (.iload_n 3, 1) := by decide +kernel
theorem dX12_partings_13 : decode cX12_partings 13 = .ok (.iconst 1, 1) := by decide +kernel
theorem dX12_partings_14 : decode cX12_partings 14 = .ok (.aload_n 0, 1) := by decide +kernel
theorem dX12_partings_15 : decode cX12_partings 15 = .ok (.getfield 9, 3) := by decide +kernel
theorem dX12_partings_18 : decode cX12_partings 18 = .ok (.iconst 0, 1) := by decide +kernel
theorem dX12_partings_19 : decode cX12_partings 19 = .ok (.iaload, 1) := by decide +kernel
theorem dX12_partings_20 : decode cX12_partings 20 = .ok (.ishl, 1) := by decide +kernel
theorem dX12_partings_21 : decode cX12_partings 21 = .ok (.if_icmp .ge 46, 3) := by decide +kernel
theorem dX12_partings_24 : decode cX12_partings 24 = .ok (.iload_n 2, 1) := by decide +kernel
theorem dX12_partings_25 : decode cX12_partings 25 = .ok (.iload_n 3, 1) := by decide +kernel
theorem dX12_partings_26 : decode cX12_partings 26 = .ok (.iload_n 1, 1) := by decide +kernel
theorem dX12_partings_27 : decode cX12_partings 27 = .ok (.iconst (-1), 1) := by decide +kernel
theorem dX12_partings_28 : decode cX12_partings 28 = .ok (.ixor, 1) := by decide +kernel
theorem dX12_partings_29 : decode cX12_partings 29 = .ok (.iand, 1) := by decide +kernel
theorem dX12_partings_30 : decode cX12_partings 30 = .ok (.ifCond .ne 28, 3) := by decide +kernel
theorem dX12_partings_33 : decode cX12_partings 33 = .ok (.iconst 2, 1) := by decide +kernel
theorem dX12_partings_34 : decode cX12_partings 34 = .ok (.aload_n 0, 1) := by decide +kernel
theorem dX12_partings_35 : decode cX12_partings 35 = .ok (.getfield 9, 3) := by decide +kernel
theorem dX12_partings_38 : decode cX12_partings 38 = .ok (.iload_n 3, 1) := by decide +kernel
theorem dX12_partings_39 : decode cX12_partings 39 = .ok (.invokestatic 187, 3) := by decide +kernel
theorem dX12_partings_42 : decode cX12_partings 42 = .ok (.imul, 1) := by decide +kernel
theorem dX12_partings_43 : decode cX12_partings 43 = .ok (.aload_n 0, 1) := by decide +kernel
theorem dX12_partings_44 : decode cX12_partings 44 = .ok (.getfield 9, 3) := by decide +kernel
theorem dX12_partings_47 : decode cX12_partings 47 = .ok (.iload_n 1, 1) := by decide +kernel
theorem dX12_partings_48 : decode cX12_partings 48 = .ok (.invokestatic 187, 3) := by decide +kernel
theorem dX12_partings_51 : decode cX12_partings 51 = .ok (.if_icmp .ne 7, 3) := by decide +kernel
theorem dX12_partings_54 : decode cX12_partings 54 = .ok (.iconst 1, 1) := by decide +kernel
theorem dX12_partings_55 : decode cX12_partings 55 = .ok (.goto 4, 3) := by decide +kernel
theorem dX12_partings_58 : decode cX12_partings 58 = .ok (.iconst 0, 1) := by decide +kernel
theorem dX12_partings_59 : decode cX12_partings 59 = .ok (.iadd, 1) := by decide +kernel
theorem dX12_partings_60 : decode cX12_partings 60 = .ok (.istore_n 2, 1) := by decide +kernel
theorem dX12_partings_61 : decode cX12_partings 61 = .ok (.iinc 3 1, 3) := by decide +kernel
theorem dX12_partings_64 : decode cX12_partings 64 = .ok (.goto (-52), 3) := by decide +kernel
theorem dX12_partings_67 : decode cX12_partings 67 = .ok (.iload_n 1, 1) := by decide +kernel
theorem dX12_partings_68 : decode cX12_partings 68 = .ok (.ifCond .ne 7, 3) := by decide +kernel
theorem dX12_partings_71 : decode cX12_partings 71 = .ok (.iconst 1, 1) := by decide +kernel
theorem dX12_partings_72 : decode cX12_partings 72 = .ok (.goto 6, 3) := by decide +kernel
theorem dX12_partings_75 : decode cX12_partings 75 = .ok (.iload_n 2, 1) := by decide +kernel
theorem dX12_partings_76 : decode cX12_partings 76 = .ok (.iconst 2, 1) := by decide +kernel
theorem dX12_partings_77 : decode cX12_partings 77 = .ok (.idiv, 1) := by decide +kernel
theorem dX12_partings_78 : decode cX12_partings 78 = .ok (.ireturn, 1) := by decide +kernel
set_option maxRecDepth 20000 in
theorem ggX12_richest_X12_richestOf : GoodIn wsX12_richest wsX12_richestOf := goodIn_r _ [6, 1, 7, 8, 5, 9, 10, 11, 12, 54, 55, 56, 57, 58, 59, 60, 61, 62, 63, 64, 65, 66, 67, 68, 69, 70] (by decide +kernel) (by decide +kernel)
set_option maxRecDepth 20000 in
theorem gX12_richest_X12_richestOf : GoodIn wsX12_richest (wsV RX12 193 RX12 yX12_richestOf wsX12_richestOf) := goodIn_app (goodIn_of _ (by decide +kernel)) ggX12_richest_X12_richestOf
set_option maxRecDepth 20000 in
theorem ggX12_richest_X12_toRent : GoodIn wsX12_richest wsX12_toRent := goodIn_r _ [16, 1, 54, 55, 56, 57, 58, 59, 60, 61, 62, 63, 64, 65, 66, 67, 68, 69, 70] (by decide +kernel) (by decide +kernel)
set_option maxRecDepth 20000 in
theorem gX12_richest_X12_toRent : GoodIn wsX12_richest (wsV RX12 172 RX12 yX12_toRent wsX12_toRent) := goodIn_app (goodIn_of _ (by decide +kernel)) ggX12_richest_X12_toRent
set_option maxRecDepth 20000 in
theorem ggX12_richest_X12_hereIn : GoodIn wsX12_richest wsX12_hereIn := goodIn_r _ [19, 10, 11, 5, 12] (by decide +kernel) (by decide +kernel)
set_option maxRecDepth 20000 in
theorem gX12_richest_X12_hereIn : GoodIn wsX12_richest (va_wsS RX12 151 yX12_hereIn wsX12_hereIn) := goodIn_app (goodIn_of _ (by decide +kernel)) ggX12_richest_X12_hereIn
set_option maxRecDepth 20000 in
theorem ggX12_richest_X12_owedBy : GoodIn wsX12_richest wsX12_owedBy := goodIn_r _ [23, 1, 24, 25, 5, 26, 27, 28, 29, 10, 11, 12, 30, 31, 32, 33, 34, 35, 54, 55, 56, 57, 58, 59, 60, 61, 62, 63, 64, 65, 66, 67, 68, 69, 70] (by decide +kernel) (by decide +kernel)
set_option maxRecDepth 20000 in
theorem gX12_richest_X12_owedBy : GoodIn wsX12_richest (wsV RX12 190 RX12 yX12_owedBy wsX12_owedBy) := goodIn_app (goodIn_of _ (by decide +kernel)) ggX12_richest_X12_owedBy
set_option maxRecDepth 20000 in
theorem ggX12_richest_X12_storesIn : GoodIn wsX12_richest wsX12_storesIn := goodIn_r _ [38, 24, 25, 5, 26, 10, 11, 12] (by decide +kernel) (by decide +kernel)
set_option maxRecDepth 20000 in
theorem gX12_richest_X12_storesIn : GoodIn wsX12_richest (va_wsS RX12 187 yX12_storesIn wsX12_storesIn) := goodIn_app (goodIn_of _ (by decide +kernel)) ggX12_richest_X12_storesIn
set_option maxRecDepth 20000 in
theorem ggX12_richest_X12_poorOnes : GoodIn wsX12_richest wsX12_poorOnes := goodIn_r _ [42, 1, 7, 8, 5, 9, 10, 11, 12, 27, 28, 29, 30, 31, 32, 33, 34, 35, 54, 55, 56, 57, 58, 59, 60, 61, 62, 63, 64, 65, 66, 67, 68, 69, 70] (by decide +kernel) (by decide +kernel)
set_option maxRecDepth 20000 in
theorem gX12_richest_X12_poorOnes : GoodIn wsX12_richest (wsV RX12 196 RX12 yX12_poorOnes wsX12_poorOnes) := goodIn_app (goodIn_of _ (by decide +kernel)) ggX12_richest_X12_poorOnes
set_option maxRecDepth 20000 in
theorem ggX12_richest_X12_evenOnes : GoodIn wsX12_richest wsX12_evenOnes := goodIn_r _ [46, 1, 17, 18, 5, 19, 10, 11, 12, 47, 48, 49, 36, 37, 38, 24, 25, 26, 20, 21, 22, 23, 27, 28, 29, 30, 31, 32, 33, 34, 35, 54, 55, 56, 57, 58, 59, 60, 61, 62, 63, 64, 65, 66, 67, 68, 69, 70] (by decide +kernel) (by decide +kernel)
set_option maxRecDepth 20000 in
theorem gX12_richest_X12_evenOnes : GoodIn wsX12_richest (wsV RX12 199 RX12 yX12_evenOnes wsX12_evenOnes) := goodIn_app (goodIn_of _ (by decide +kernel)) ggX12_richest_X12_evenOnes
set_option maxRecDepth 20000 in
theorem ggX12_richest_X12_partings : GoodIn wsX12_richest wsX12_partings := goodIn_r _ [53, 1, 17, 18, 5, 19, 10, 11, 12, 36, 37, 38, 24, 25, 26, 54, 55, 56, 57, 58, 59, 60, 61, 62, 63, 64, 65, 66, 67, 68, 69, 70] (by decide +kernel) (by decide +kernel)
set_option maxRecDepth 20000 in
theorem gX12_richest_X12_partings : GoodIn wsX12_richest (wsV RX12 202 RX12 yX12_partings wsX12_partings) := goodIn_app (goodIn_of _ (by decide +kernel)) ggX12_richest_X12_partings
theorem dX12_richest_0 : decode cX12_richest 0 = .ok (.iload_n 1, 1) := by decide +kernel
theorem dX12_richest_1 : decode cX12_richest 1 = .ok (.tableswitch 95 0 6 #[43, 48, 53, 65, 80, 85, 90], 43) := by decide +kernel
theorem dX12_richest_44 : decode cX12_richest 44 = .ok (.aload_n 0, 1) := by decide +kernel
theorem dX12_richest_45 : decode cX12_richest 45 = .ok (.invokevirtual 193, 3) := by decide +kernel
theorem dX12_richest_48 : decode cX12_richest 48 = .ok (.ireturn, 1) := by decide +kernel
theorem dX12_richest_49 : decode cX12_richest 49 = .ok (.aload_n 0, 1) := by decide +kernel
theorem dX12_richest_50 : decode cX12_richest 50 = .ok (.invokevirtual 172, 3) := by decide +kernel
theorem dX12_richest_53 : decode cX12_richest 53 = .ok (.ireturn, 1) := by decide +kernel
theorem dX12_richest_54 : decode cX12_richest 54 = .ok (.aload_n 0, 1) := by decide +kernel
theorem dX12_richest_55 : decode cX12_richest 55 = .ok (.aload_n 0, 1) := by decide +kernel
theorem dX12_richest_56 : decode cX12_richest 56 = .ok (.getfield 9, 3) := by decide +kernel
theorem dX12_richest_59 : decode cX12_richest 59 = .ok (.invokestatic 151, 3) := by decide +kernel
theorem dX12_richest_62 : decode cX12_richest 62 = .ok (.invokevirtual 190, 3) := by decide +kernel
theorem dX12_richest_65 : decode cX12_richest 65 = .ok (.ireturn, 1) := by decide +kernel
theorem dX12_richest_66 : decode cX12_richest 66 = .ok (.aload_n 0, 1) := by decide +kernel
theorem dX12_richest_67 : decode cX12_richest 67 = .ok (.getfield 9, 3) := by decide +kernel
theorem dX12_richest_70 : decode cX12_richest 70 = .ok (.aload_n 0, 1) := by decide +kernel
theorem dX12_richest_71 : decode cX12_richest 71 = .ok (.getfield 9, 3) := by decide +kernel
theorem dX12_richest_74 : decode cX12_richest 74 = .ok (.invokestatic 151, 3) := by decide +kernel
theorem dX12_richest_77 : decode cX12_richest 77 = .ok (.invokestatic 187, 3) := by decide +kernel
theorem dX12_richest_80 : decode cX12_richest 80 = .ok (.ireturn, 1) := by decide +kernel
theorem dX12_richest_81 : decode cX12_richest 81 = .ok (.aload_n 0, 1) := by decide +kernel
theorem dX12_richest_82 : decode cX12_richest 82 = .ok (.invokevirtual 196, 3) := by decide +kernel
theorem dX12_richest_85 : decode cX12_richest 85 = .ok (.ireturn, 1) := by decide +kernel
theorem dX12_richest_86 : decode cX12_richest 86 = .ok (.aload_n 0, 1) := by decide +kernel
theorem dX12_richest_87 : decode cX12_richest 87 = .ok (.invokevirtual 199, 3) := by decide +kernel
theorem dX12_richest_90 : decode cX12_richest 90 = .ok (.ireturn, 1) := by decide +kernel
theorem dX12_richest_91 : decode cX12_richest 91 = .ok (.aload_n 0, 1) := by decide +kernel
theorem dX12_richest_92 : decode cX12_richest 92 = .ok (.invokevirtual 202, 3) := by decide +kernel
theorem dX12_richest_95 : decode cX12_richest 95 = .ok (.ireturn, 1) := by decide +kernel
theorem dX12_richest_96 : decode cX12_richest 96 = .ok (.iconst (-1), 1) := by decide +kernel
theorem dX12_richest_97 : decode cX12_richest 97 = .ok (.ireturn, 1) := by decide +kernel
theorem dX12_leastOf_0 : decode cX12_leastOf 0 = .ok (.iload_n 0, 1) := by decide +kernel
theorem dX12_leastOf_1 : decode cX12_leastOf 1 = .ok (.ifCond .ne 8, 3) := by decide +kernel
theorem dX12_leastOf_4 : decode cX12_leastOf 4 = .ok (.bipush (-128), 2) := by decide +kernel
theorem dX12_leastOf_6 : decode cX12_leastOf 6 = .ok (.goto 16, 3) := by decide +kernel
theorem dX12_leastOf_9 : decode cX12_leastOf 9 = .ok (.iload_n 0, 1) := by decide +kernel
theorem dX12_leastOf_10 : decode cX12_leastOf 10 = .ok (.iconst 1, 1) := by decide +kernel
theorem dX12_leastOf_11 : decode cX12_leastOf 11 = .ok (.if_icmp .ne 9, 3) := by decide +kernel
theorem dX12_leastOf_14 : decode cX12_leastOf 14 = .ok (.sipush (-32768), 3) := by decide +kernel
theorem dX12_leastOf_17 : decode cX12_leastOf 17 = .ok (.goto 5, 3) := by decide +kernel
theorem dX12_leastOf_20 : decode cX12_leastOf 20 = .ok (.ldc 205, 2) := by decide +kernel
theorem dX12_leastOf_22 : decode cX12_leastOf 22 = .ok (.ireturn, 1) := by decide +kernel
set_option maxRecDepth 20000 in
theorem ggX12_isTold_X12_leastOf : GoodIn wsX12_isTold wsX12_leastOf := goodIn_r _ [6, 7] (by decide +kernel) (by decide +kernel)
set_option maxRecDepth 20000 in
theorem gX12_isTold_X12_leastOf : GoodIn wsX12_isTold (va_wsS RX12 206 yX12_leastOf wsX12_leastOf) := goodIn_app (goodIn_of _ (by decide +kernel)) ggX12_isTold_X12_leastOf
theorem dX12_isTold_0 : decode cX12_isTold 0 = .ok (.aload_n 0, 1) := by decide +kernel
theorem dX12_isTold_1 : decode cX12_isTold 1 = .ok (.getfield 40, 3) := by decide +kernel
theorem dX12_isTold_4 : decode cX12_isTold 4 = .ok (.bipush 100, 2) := by decide +kernel
theorem dX12_isTold_6 : decode cX12_isTold 6 = .ok (.iload_n 1, 1) := by decide +kernel
theorem dX12_isTold_7 : decode cX12_isTold 7 = .ok (.imul, 1) := by decide +kernel
theorem dX12_isTold_8 : decode cX12_isTold 8 = .ok (.iload_n 2, 1) := by decide +kernel
theorem dX12_isTold_9 : decode cX12_isTold 9 = .ok (.iadd, 1) := by decide +kernel
theorem dX12_isTold_10 : decode cX12_isTold 10 = .ok (.iaload, 1) := by decide +kernel
theorem dX12_isTold_11 : decode cX12_isTold 11 = .ok (.aload_n 0, 1) := by decide +kernel
theorem dX12_isTold_12 : decode cX12_isTold 12 = .ok (.getfield 34, 3) := by decide +kernel
theorem dX12_isTold_15 : decode cX12_isTold 15 = .ok (.iload_n 1, 1) := by decide +kernel
theorem dX12_isTold_16 : decode cX12_isTold 16 = .ok (.iaload, 1) := by decide +kernel
theorem dX12_isTold_17 : decode cX12_isTold 17 = .ok (.invokestatic 206, 3) := by decide +kernel
theorem dX12_isTold_20 : decode cX12_isTold 20 = .ok (.if_icmp .eq 18, 3) := by decide +kernel
theorem dX12_isTold_23 : decode cX12_isTold 23 = .ok (.aload_n 0, 1) := by decide +kernel
theorem dX12_isTold_24 : decode cX12_isTold 24 = .ok (.getfield 40, 3) := by decide +kernel
theorem dX12_isTold_27 : decode cX12_isTold 27 = .ok (.bipush 100, 2) := by decide +kernel
theorem dX12_isTold_29 : decode cX12_isTold 29 = .ok (.iload_n 1, 1) := by decide +kernel
theorem dX12_isTold_30 : decode cX12_isTold 30 = .ok (.imul, 1) := by decide +kernel
theorem dX12_isTold_31 : decode cX12_isTold 31 = .ok (.iload_n 2, 1) := by decide +kernel
theorem dX12_isTold_32 : decode cX12_isTold 32 = .ok (.iadd, 1) := by decide +kernel
theorem dX12_isTold_33 : decode cX12_isTold 33 = .ok (.iaload, 1) := by decide +kernel
theorem dX12_isTold_34 : decode cX12_isTold 34 = .ok (.iload_n 3, 1) := by decide +kernel
theorem dX12_isTold_35 : decode cX12_isTold 35 = .ok (.if_icmp .ne 7, 3) := by decide +kernel
theorem dX12_isTold_38 : decode cX12_isTold 38 = .ok (.iconst 1, 1) := by decide +kernel
theorem dX12_isTold_39 : decode cX12_isTold 39 = .ok (.goto 4, 3) := by decide +kernel
theorem dX12_isTold_42 : decode cX12_isTold 42 = .ok (.iconst 0, 1) := by decide +kernel
theorem dX12_isTold_43 : decode cX12_isTold 43 = .ok (.ireturn, 1) := by decide +kernel
set_option maxRecDepth 20000 in
theorem ggX12_whatIs_X12_isTenant : GoodIn wsX12_whatIs wsX12_isTenant := goodIn_r _ [8, 1, 9, 10, 7, 11, 69, 70, 71, 72, 73, 74, 75, 76, 77, 78, 79, 80, 81, 82, 83, 84, 85] (by decide +kernel) (by decide +kernel)
set_option maxRecDepth 20000 in
theorem gX12_whatIs_X12_isTenant : GoodIn wsX12_whatIs (wsV RX12 47 RX12 yX12_isTenant wsX12_isTenant) := goodIn_app (goodIn_of _ (by decide +kernel)) ggX12_whatIs_X12_isTenant
set_option maxRecDepth 20000 in
theorem ggX12_whatIs_X12_isIn : GoodIn wsX12_whatIs wsX12_isIn := goodIn_r _ [11] (by decide +kernel) (by decide +kernel)
set_option maxRecDepth 20000 in
theorem gX12_whatIs_X12_isIn : GoodIn wsX12_whatIs (va_wsS RX12 43 yX12_isIn wsX12_isIn) := goodIn_app (goodIn_of _ (by decide +kernel)) ggX12_whatIs_X12_isIn
set_option maxRecDepth 20000 in
theorem ggX12_whatIs_X12_wrongRow : GoodIn wsX12_whatIs wsX12_wrongRow := goodIn_r _ [15, 16, 17, 18, 19, 7, 20, 9, 10, 11, 69, 70, 71, 72, 73, 74, 75, 76, 77, 78, 79, 80, 81, 82, 83, 84, 85] (by decide +kernel) (by decide +kernel)
set_option maxRecDepth 20000 in
theorem gX12_whatIs_X12_wrongRow : GoodIn wsX12_whatIs (wsV RX12 130 RX12 yX12_wrongRow wsX12_wrongRow) := goodIn_app (goodIn_of _ (by decide +kernel)) ggX12_whatIs_X12_wrongRow
set_option maxRecDepth 20000 in
theorem ggX12_whatIs_X12_copies : GoodIn wsX12_whatIs wsX12_copies := goodIn_r _ [23] (by decide +kernel) (by decide +kernel)
set_option maxRecDepth 20000 in
theorem gX12_whatIs_X12_copies : GoodIn wsX12_whatIs (va_wsS RX12 137 yX12_copies wsX12_copies) := goodIn_app (goodIn_of _ (by decide +kernel)) ggX12_whatIs_X12_copies
set_option maxRecDepth 20000 in
theorem ggX12_whatIs_X12_of : GoodIn wsX12_whatIs wsX12_of := goodIn_r _ [26] (by decide +kernel) (by decide +kernel)
set_option maxRecDepth 20000 in
theorem gX12_whatIs_X12_of : GoodIn wsX12_whatIs (va_wsS RX12 51 yX12_of wsX12_of) := goodIn_app (goodIn_of _ (by decide +kernel)) ggX12_whatIs_X12_of
set_option maxRecDepth 20000 in
theorem ggX12_whatIs_X12_isTold : GoodIn wsX12_whatIs wsX12_isTold := goodIn_r _ [30, 31, 17, 32, 33, 7, 34, 35, 69, 70, 71, 72, 73, 74, 75, 76, 77, 78, 79, 80, 81, 82, 83, 84, 85] (by decide +kernel) (by decide +kernel)
set_option maxRecDepth 20000 in
theorem gX12_whatIs_X12_isTold : GoodIn wsX12_whatIs (wsV RX12 209 RX12 yX12_isTold wsX12_isTold) := goodIn_app (goodIn_of _ (by decide +kernel)) ggX12_whatIs_X12_isTold
set_option maxRecDepth 20000 in
theorem ggX12_whatIs_X12_daysOn : GoodIn wsX12_whatIs wsX12_daysOn := goodIn_r _ [38, 39, 40, 7, 41, 42, 43, 44, 24, 25, 26, 45, 46, 47, 48, 49, 50, 51, 52, 53, 54, 55, 56, 57, 58, 59, 60, 61, 62, 63, 64, 65, 66, 67, 68] (by decide +kernel) (by decide +kernel)
set_option maxRecDepth 20000 in
theorem gX12_whatIs_X12_daysOn : GoodIn wsX12_whatIs (va_wsS RX12 126 yX12_daysOn wsX12_daysOn) := goodIn_app (goodIn_of _ (by decide +kernel)) ggX12_whatIs_X12_daysOn
theorem dX12_whatIs_0 : decode cX12_whatIs 0 = .ok (.aload_n 0, 1) := by decide +kernel
theorem dX12_whatIs_1 : decode cX12_whatIs 1 = .ok (.iload_n 2, 1) := by decide +kernel
theorem dX12_whatIs_2 : decode cX12_whatIs 2 = .ok (.invokevirtual 47, 3) := by decide +kernel
theorem dX12_whatIs_5 : decode cX12_whatIs 5 = .ok (.ifCond .eq 12, 3) := by decide +kernel
theorem dX12_whatIs_8 : decode cX12_whatIs 8 = .ok (.iload_n 3, 1) := by decide +kernel
theorem dX12_whatIs_9 : decode cX12_whatIs 9 = .ok (.iconst 0, 1) := by decide +kernel
theorem dX12_whatIs_10 : decode cX12_whatIs 10 = .ok (.iconst 1, 1) := by decide +kernel
theorem dX12_whatIs_11 : decode cX12_whatIs 11 = .ok (.invokestatic 43, 3) := by decide +kernel
theorem dX12_whatIs_14 : decode cX12_whatIs 14 = .ok (.ifCond .ne 5, 3) := by decide +kernel
theorem dX12_whatIs_17 : decode cX12_whatIs 17 = .ok (.iconst (-1), 1) := by decide +kernel
theorem dX12_whatIs_18 : decode cX12_whatIs 18 = .ok (.ireturn, 1) := by decide +kernel
theorem dX12_whatIs_19 : decode cX12_whatIs 19 = .ok (.aload_n 0, 1) := by decide +kernel
theorem dX12_whatIs_20 : decode cX12_whatIs 20 = .ok (.iload_n 1, 1) := by decide +kernel
theorem dX12_whatIs_21 : decode cX12_whatIs 21 = .ok (.iconst (-1), 1) := by decide +kernel
theorem dX12_whatIs_22 : decode cX12_whatIs 22 = .ok (.invokevirtual 130, 3) := by decide +kernel
theorem dX12_whatIs_25 : decode cX12_whatIs 25 = .ok (.istore 4, 2) := by decide +kernel
theorem dX12_whatIs_27 : decode cX12_whatIs 27 = .ok (.iload 4, 2) := by decide +kernel
theorem dX12_whatIs_29 : decode cX12_whatIs 29 = .ok (.ifCond .eq 6, 3) := by decide +kernel
theorem dX12_whatIs_32 : decode cX12_whatIs 32 = .ok (.iload 4, 2) := by decide +kernel
theorem dX12_whatIs_34 : decode cX12_whatIs 34 = .ok (.ireturn, 1) := by decide +kernel
theorem dX12_whatIs_35 : decode cX12_whatIs 35 = .ok (.iconst 0, 1) := by decide +kernel
theorem dX12_whatIs_36 : decode cX12_whatIs 36 = .ok (.istore 5, 2) := by decide +kernel
theorem dX12_whatIs_38 : decode cX12_whatIs 38 = .ok (.iconst 0, 1) := by decide +kernel
theorem dX12_whatIs_39 : decode cX12_whatIs 39 = .ok (.istore 6, 2) := by decide +kernel
theorem dX12_whatIs_41 : decode cX12_whatIs 41 = .ok (.iload 6, 2) := by decide +kernel
theorem dX12_whatIs_43 : decode cX12_whatIs 43 = .ok (.iload_n 3, 1) := by decide +kernel
theorem dX12_whatIs_44 : decode cX12_whatIs 44 = .ok (.ifCond .ne 8, 3) := by decide +kernel
theorem dX12_whatIs_47 : decode cX12_whatIs 47 = .ok (.bipush 8, 2) := by decide +kernel
theorem dX12_whatIs_49 : decode cX12_whatIs 49 = .ok (.goto 5, 3) := by decide +kernel
theorem dX12_whatIs_52 : decode cX12_whatIs 52 = .ok (.bipush 10, 2) := by decide +kernel
theorem dX12_whatIs_54 : decode cX12_whatIs 54 = .ok (.if_icmp .ge 103, 3) := by decide +kernel
theorem dX12_whatIs_57 : decode cX12_whatIs 57 = .ok (.iconst 1, 1) := by decide +kernel
theorem dX12_whatIs_58 : decode cX12_whatIs 58 = .ok (.istore 7, 2) := by decide +kernel
theorem dX12_whatIs_60 : decode cX12_whatIs 60 = .ok (.aload_n 0, 1) := by decide +kernel
theorem dX12_whatIs_61 : decode cX12_whatIs 61 = .ok (.getfield 9, 3) := by decide +kernel
theorem dX12_whatIs_64 : decode cX12_whatIs 64 = .ok (.aload_n 0, 1) := by decide +kernel
theorem dX12_whatIs_65 : decode cX12_whatIs 65 = .ok (.getfield 13, 3) := by decide +kernel
theorem dX12_whatIs_68 : decode cX12_whatIs 68 = .ok (.invokestatic 137, 3) := by decide +kernel
theorem dX12_whatIs_71 : decode cX12_whatIs 71 = .ok (.aload_n 0, 1) := by decide +kernel
theorem dX12_whatIs_72 : decode cX12_whatIs 72 = .ok (.getfield 13, 3) := by decide +kernel
theorem dX12_whatIs_75 : decode cX12_whatIs 75 = .ok (.iload_n 2, 1) := by decide +kernel
theorem dX12_whatIs_76 : decode cX12_whatIs 76 = .ok (.iload_n 3, 1) := by decide +kernel
theorem dX12_whatIs_77 : decode cX12_whatIs 77 = .ok (.invokestatic 51, 3) := by decide +kernel
theorem dX12_whatIs_80 : decode cX12_whatIs 80 = .ok (.iload 6, 2) := by decide +kernel
theorem dX12_whatIs_82 : decode cX12_whatIs 82 = .ok (.iastore, 1) := by decide +kernel
theorem dX12_whatIs_83 : decode cX12_whatIs 83 = .ok (.iconst 0, 1) := by decide +kernel
theorem dX12_whatIs_84 : decode cX12_whatIs 84 = .ok (.istore 8, 2) := by decide +kernel
theorem dX12_whatIs_86 : decode cX12_whatIs 86 = .ok (.iload 8, 2) := by decide +kernel
theorem dX12_whatIs_88 : decode cX12_whatIs 88 = .ok (.aload_n 0, 1) := by decide +kernel
theorem dX12_whatIs_89 : decode cX12_whatIs 89 = .ok (.getfield 37, 3) := by decide +kernel
theorem dX12_whatIs_92 : decode cX12_whatIs 92 = .ok (.iload_n 1, 1) := by decide +kernel
theorem dX12_whatIs_93 : decode cX12_whatIs 93 = .ok (.iaload, 1) := by decide +kernel
theorem dX12_whatIs_94 : decode cX12_whatIs 94 = .ok (.if_icmp .ge 39, 3) := by decide +kernel
theorem dX12_whatIs_97 : decode cX12_whatIs 97 = .ok (.iload 7, 2) := by decide +kernel
theorem dX12_whatIs_99 : decode cX12_whatIs 99 = .ok (.aload_n 0, 1) := by decide +kernel
theorem dX12_whatIs_100 : decode cX12_whatIs 100 = .ok (.iload_n 1, 1) := by decide +kernel
theorem dX12_whatIs_101 : decode cX12_whatIs 101 = .ok (.iload 8, 2) := by decide +kernel
theorem dX12_whatIs_103 : decode cX12_whatIs 103 = .ok (.aload_n 0, 1) := by decide +kernel
theorem dX12_whatIs_104 : decode cX12_whatIs 104 = .ok (.getfield 13, 3) := by decide +kernel
theorem dX12_whatIs_107 : decode cX12_whatIs 107 = .ok (.iload_n 2, 1) := by decide +kernel
theorem dX12_whatIs_108 : decode cX12_whatIs 108 = .ok (.iconst 2, 1) := by decide +kernel
theorem dX12_whatIs_109 : decode cX12_whatIs 109 = .ok (.invokestatic 51, 3) := by decide +kernel
theorem dX12_whatIs_112 : decode cX12_whatIs 112 = .ok (.iaload, 1) := by decide +kernel
theorem dX12_whatIs_113 : decode cX12_whatIs 113 = .ok (.invokevirtual 209, 3) := by decide +kernel
theorem dX12_whatIs_116 : decode cX12_whatIs 116 = .ok (.iand, 1) := by decide +kernel
theorem dX12_whatIs_117 : decode cX12_whatIs 117 = .ok (.istore 7, 2) := by decide +kernel
theorem dX12_whatIs_119 : decode cX12_whatIs 119 = .ok (.aload_n 0, 1) := by decide +kernel
theorem dX12_whatIs_120 : decode cX12_whatIs 120 = .ok (.getfield 13, 3) := by decide +kernel
theorem dX12_whatIs_123 : decode cX12_whatIs 123 = .ok (.iconst 1, 1) := by decide +kernel
theorem dX12_whatIs_124 : decode cX12_whatIs 124 = .ok (.invokestatic 126, 3) := by decide +kernel
theorem dX12_whatIs_127 : decode cX12_whatIs 127 = .ok (.iinc 8 1, 3) := by decide +kernel
theorem dX12_whatIs_130 : decode cX12_whatIs 130 = .ok (.goto (-44), 3) := by decide +kernel
theorem dX12_whatIs_133 : decode cX12_whatIs 133 = .ok (.iload 5, 2) := by decide +kernel
theorem dX12_whatIs_135 : decode cX12_whatIs 135 = .ok (.iload 7, 2) := by decide +kernel
theorem dX12_whatIs_137 : decode cX12_whatIs 137 = .ok (.ifCond .eq 10, 3) := by decide +kernel
theorem dX12_whatIs_140 : decode cX12_whatIs 140 = .ok (.iconst 1, 1) := by decide +kernel
theorem dX12_whatIs_141 : decode cX12_whatIs 141 = .ok (.iload 6, 2) := by decide +kernel
theorem dX12_whatIs_143 : decode cX12_whatIs 143 = .ok (.ishl, 1) := by decide +kernel
theorem dX12_whatIs_144 : decode cX12_whatIs 144 = .ok (.goto 4, 3) := by decide +kernel
theorem dX12_whatIs_147 : decode cX12_whatIs 147 = .ok (.iconst 0, 1) := by decide +kernel
theorem dX12_whatIs_148 : decode cX12_whatIs 148 = .ok (.ior, 1) := by decide +kernel
theorem dX12_whatIs_149 : decode cX12_whatIs 149 = .ok (.istore 5, 2) := by decide +kernel
theorem dX12_whatIs_151 : decode cX12_whatIs 151 = .ok (.iinc 6 1, 3) := by decide +kernel
theorem dX12_whatIs_154 : decode cX12_whatIs 154 = .ok (.goto (-113), 3) := by decide +kernel
theorem dX12_whatIs_157 : decode cX12_whatIs 157 = .ok (.iload 5, 2) := by decide +kernel
theorem dX12_whatIs_159 : decode cX12_whatIs 159 = .ok (.ireturn, 1) := by decide +kernel
set_option maxRecDepth 20000 in
theorem ggX12_whichSea_X12_wrongRow : GoodIn wsX12_whichSea wsX12_wrongRow := goodIn_r _ [8, 9, 10, 11, 12, 7, 13, 14, 15, 16, 74, 75, 76, 77, 78, 79, 80, 81, 82, 83, 84, 85, 86, 87, 88, 89, 90] (by decide +kernel) (by decide +kernel)
set_option maxRecDepth 20000 in
theorem gX12_whichSea_X12_wrongRow : GoodIn wsX12_whichSea (wsV RX12 130 RX12 yX12_wrongRow wsX12_wrongRow) := goodIn_app (goodIn_of _ (by decide +kernel)) ggX12_whichSea_X12_wrongRow
set_option maxRecDepth 20000 in
theorem ggX12_whichSea_X12_copies : GoodIn wsX12_whichSea wsX12_copies := goodIn_r _ [19] (by decide +kernel) (by decide +kernel)
set_option maxRecDepth 20000 in
theorem gX12_whichSea_X12_copies : GoodIn wsX12_whichSea (va_wsS RX12 137 yX12_copies wsX12_copies) := goodIn_app (goodIn_of _ (by decide +kernel)) ggX12_whichSea_X12_copies
set_option maxRecDepth 20000 in
theorem ggX12_whichSea_X12_hereIn : GoodIn wsX12_whichSea wsX12_hereIn := goodIn_r _ [22, 23, 24, 7, 25] (by decide +kernel) (by decide +kernel)
set_option maxRecDepth 20000 in
theorem gX12_whichSea_X12_hereIn : GoodIn wsX12_whichSea (va_wsS RX12 151 yX12_hereIn wsX12_hereIn) := goodIn_app (goodIn_of _ (by decide +kernel)) ggX12_whichSea_X12_hereIn
set_option maxRecDepth 20000 in
theorem ggX12_whichSea_X12_storesIn : GoodIn wsX12_whichSea wsX12_storesIn := goodIn_r _ [28, 29, 30, 7, 31, 23, 24, 25] (by decide +kernel) (by decide +kernel)
set_option maxRecDepth 20000 in
theorem gX12_whichSea_X12_storesIn : GoodIn wsX12_whichSea (va_wsS RX12 187 yX12_storesIn wsX12_storesIn) := goodIn_app (goodIn_of _ (by decide +kernel)) ggX12_whichSea_X12_storesIn
set_option maxRecDepth 20000 in
theorem ggX12_whichSea_X12_isTold : GoodIn wsX12_whichSea wsX12_isTold := goodIn_r _ [35, 36, 10, 37, 38, 7, 39, 40, 74, 75, 76, 77, 78, 79, 80, 81, 82, 83, 84, 85, 86, 87, 88, 89, 90] (by decide +kernel) (by decide +kernel)
set_option maxRecDepth 20000 in
theorem gX12_whichSea_X12_isTold : GoodIn wsX12_whichSea (wsV RX12 209 RX12 yX12_isTold wsX12_isTold) := goodIn_app (goodIn_of _ (by decide +kernel)) ggX12_whichSea_X12_isTold
set_option maxRecDepth 20000 in
theorem ggX12_whichSea_X12_daysOn : GoodIn wsX12_whichSea wsX12_daysOn := goodIn_r _ [43, 44, 45, 7, 46, 47, 48, 49, 23, 24, 25, 50, 51, 52, 53, 54, 55, 56, 57, 58, 59, 60, 61, 62, 63, 64, 65, 66, 67, 68, 69, 70, 71, 72, 73] (by decide +kernel) (by decide +kernel)
set_option maxRecDepth 20000 in
theorem gX12_whichSea_X12_daysOn : GoodIn wsX12_whichSea (va_wsS RX12 126 yX12_daysOn wsX12_daysOn) := goodIn_app (goodIn_of _ (by decide +kernel)) ggX12_whichSea_X12_daysOn
theorem dX12_whichSea_0 : decode cX12_whichSea 0 = .ok (.aload_n 0, 1) := by decide +kernel
theorem dX12_whichSea_1 : decode cX12_whichSea 1 = .ok (.iload_n 1, 1) := by decide +kernel
theorem dX12_whichSea_2 : decode cX12_whichSea 2 = .ok (.iconst (-1), 1) := by decide +kernel
theorem dX12_whichSea_3 : decode cX12_whichSea 3 = .ok (.invokevirtual 130, 3) := by decide +kernel
theorem dX12_whichSea_6 : decode cX12_whichSea 6 = .ok (.istore_n 2, 1) := by decide +kernel
theorem dX12_whichSea_7 : decode cX12_whichSea 7 = .ok (.iload_n 2, 1) := by decide +kernel
theorem dX12_whichSea_8 : decode cX12_whichSea 8 = .ok (.ifCond .eq 5, 3) := by decide +kernel
theorem dX12_whichSea_11 : decode cX12_whichSea 11 = .ok (.iload_n 2, 1) := by decide +kernel
theorem dX12_whichSea_12 : decode cX12_whichSea 12 = .ok (.ireturn, 1) := by decide +kernel
theorem dX12_whichSea_13 : decode cX12_whichSea 13 = .ok (.iconst 0, 1) := by decide +kernel
theorem dX12_whichSea_14 : decode cX12_whichSea 14 = .ok (.istore_n 3, 1) := by decide +kernel
theorem dX12_whichSea_15 : decode cX12_whichSea 15 = .ok (.iconst 0, 1) := by decide +kernel
theorem dX12_whichSea_16 : decode cX12_whichSea 16 = .ok (.istore 4, 2) := by decide +kernel
theorem dX12_whichSea_18 : decode cX12_whichSea 18 = .ok (.iload 4, 2) := by decide +kernel
theorem dX12_whichSea_20 : decode cX12_whichSea 20 = .ok (.bipush 10, 2) := by decide +kernel
theorem dX12_whichSea_22 : decode cX12_whichSea 22 = .ok (.if_icmp .ge 101, 3) := by decide +kernel
theorem dX12_whichSea_25 : decode cX12_whichSea 25 = .ok (.iconst 1, 1) := by decide +kernel
theorem dX12_whichSea_26 : decode cX12_whichSea 26 = .ok (.istore 5, 2) := by decide +kernel
theorem dX12_whichSea_28 : decode cX12_whichSea 28 = .ok (.aload_n 0, 1) := by decide +kernel
theorem dX12_whichSea_29 : decode cX12_whichSea 29 = .ok (.getfield 9, 3) := by decide +kernel
theorem dX12_whichSea_32 : decode cX12_whichSea 32 = .ok (.aload_n 0, 1) := by decide +kernel
theorem dX12_whichSea_33 : decode cX12_whichSea 33 = .ok (.getfield 13, 3) := by decide +kernel
theorem dX12_whichSea_36 : decode cX12_whichSea 36 = .ok (.invokestatic 137, 3) := by decide +kernel
theorem dX12_whichSea_39 : decode cX12_whichSea 39 = .ok (.aload_n 0, 1) := by decide +kernel
theorem dX12_whichSea_40 : decode cX12_whichSea 40 = .ok (.getfield 13, 3) := by decide +kernel
theorem dX12_whichSea_43 : decode cX12_whichSea 43 = .ok (.iconst 2, 1) := by decide +kernel
theorem dX12_whichSea_44 : decode cX12_whichSea 44 = .ok (.iload 4, 2) := by decide +kernel
theorem dX12_whichSea_46 : decode cX12_whichSea 46 = .ok (.iastore, 1) := by decide +kernel
theorem dX12_whichSea_47 : decode cX12_whichSea 47 = .ok (.iconst 0, 1) := by decide +kernel
theorem dX12_whichSea_48 : decode cX12_whichSea 48 = .ok (.istore 6, 2) := by decide +kernel
theorem dX12_whichSea_50 : decode cX12_whichSea 50 = .ok (.iload 6, 2) := by decide +kernel
theorem dX12_whichSea_52 : decode cX12_whichSea 52 = .ok (.aload_n 0, 1) := by decide +kernel
theorem dX12_whichSea_53 : decode cX12_whichSea 53 = .ok (.getfield 37, 3) := by decide +kernel
theorem dX12_whichSea_56 : decode cX12_whichSea 56 = .ok (.iload_n 1, 1) := by decide +kernel
theorem dX12_whichSea_57 : decode cX12_whichSea 57 = .ok (.iaload, 1) := by decide +kernel
theorem dX12_whichSea_58 : decode cX12_whichSea 58 = .ok (.if_icmp .ge 43, 3) := by decide +kernel
theorem dX12_whichSea_61 : decode cX12_whichSea 61 = .ok (.iload 5, 2) := by decide +kernel
theorem dX12_whichSea_63 : decode cX12_whichSea 63 = .ok (.aload_n 0, 1) := by decide +kernel
theorem dX12_whichSea_64 : decode cX12_whichSea 64 = .ok (.iload_n 1, 1) := by decide +kernel
theorem dX12_whichSea_65 : decode cX12_whichSea 65 = .ok (.iload 6, 2) := by decide +kernel
theorem dX12_whichSea_67 : decode cX12_whichSea 67 = .ok (.aload_n 0, 1) := by decide +kernel
theorem dX12_whichSea_68 : decode cX12_whichSea 68 = .ok (.getfield 13, 3) := by decide +kernel
theorem dX12_whichSea_71 : decode cX12_whichSea 71 = .ok (.aload_n 0, 1) := by decide +kernel
theorem dX12_whichSea_72 : decode cX12_whichSea 72 = .ok (.getfield 13, 3) := by decide +kernel
theorem dX12_whichSea_75 : decode cX12_whichSea 75 = .ok (.invokestatic 151, 3) := by decide +kernel
theorem dX12_whichSea_78 : decode cX12_whichSea 78 = .ok (.invokestatic 187, 3) := by decide +kernel
theorem dX12_whichSea_81 : decode cX12_whichSea 81 = .ok (.invokevirtual 209, 3) := by decide +kernel
theorem dX12_whichSea_84 : decode cX12_whichSea 84 = .ok (.iand, 1) := by decide +kernel
theorem dX12_whichSea_85 : decode cX12_whichSea 85 = .ok (.istore 5, 2) := by decide +kernel
theorem dX12_whichSea_87 : decode cX12_whichSea 87 = .ok (.aload_n 0, 1) := by decide +kernel
theorem dX12_whichSea_88 : decode cX12_whichSea 88 = .ok (.getfield 13, 3) := by decide +kernel
theorem dX12_whichSea_91 : decode cX12_whichSea 91 = .ok (.iconst 1, 1) := by decide +kernel
theorem dX12_whichSea_92 : decode cX12_whichSea 92 = .ok (.invokestatic 126, 3) := by decide +kernel
theorem dX12_whichSea_95 : decode cX12_whichSea 95 = .ok (.iinc 6 1, 3) := by decide +kernel
theorem dX12_whichSea_98 : decode cX12_whichSea 98 = .ok (.goto (-48), 3) := by decide +kernel
theorem dX12_whichSea_101 : decode cX12_whichSea 101 = .ok (.iload_n 3, 1) := by decide +kernel
theorem dX12_whichSea_102 : decode cX12_whichSea 102 = .ok (.iload 5, 2) := by decide +kernel
theorem dX12_whichSea_104 : decode cX12_whichSea 104 = .ok (.ifCond .eq 10, 3) := by decide +kernel
theorem dX12_whichSea_107 : decode cX12_whichSea 107 = .ok (.iconst 1, 1) := by decide +kernel
theorem dX12_whichSea_108 : decode cX12_whichSea 108 = .ok (.iload 4, 2) := by decide +kernel
theorem dX12_whichSea_110 : decode cX12_whichSea 110 = .ok (.ishl, 1) := by decide +kernel
theorem dX12_whichSea_111 : decode cX12_whichSea 111 = .ok (.goto 4, 3) := by decide +kernel
theorem dX12_whichSea_114 : decode cX12_whichSea 114 = .ok (.iconst 0, 1) := by decide +kernel
theorem dX12_whichSea_115 : decode cX12_whichSea 115 = .ok (.ior, 1) := by decide +kernel
theorem dX12_whichSea_116 : decode cX12_whichSea 116 = .ok (.istore_n 3, 1) := by decide +kernel
theorem dX12_whichSea_117 : decode cX12_whichSea 117 = .ok (.iinc 4 1, 3) := by decide +kernel
theorem dX12_whichSea_120 : decode cX12_whichSea 120 = .ok (.goto (-102), 3) := by decide +kernel
theorem dX12_whichSea_123 : decode cX12_whichSea 123 = .ok (.iload_n 3, 1) := by decide +kernel
theorem dX12_whichSea_124 : decode cX12_whichSea 124 = .ok (.ireturn, 1) := by decide +kernel
set_option maxRecDepth 20000 in
theorem ggX12_hasBy_X12_copies : GoodIn wsX12_hasBy wsX12_copies := goodIn_r _ [6] (by decide +kernel) (by decide +kernel)
set_option maxRecDepth 20000 in
theorem gX12_hasBy_X12_copies : GoodIn wsX12_hasBy (va_wsS RX12 137 yX12_copies wsX12_copies) := goodIn_app (goodIn_of _ (by decide +kernel)) ggX12_hasBy_X12_copies
set_option maxRecDepth 20000 in
theorem ggX12_hasBy_X12_of : GoodIn wsX12_hasBy wsX12_of := goodIn_r _ [9] (by decide +kernel) (by decide +kernel)
set_option maxRecDepth 20000 in
theorem gX12_hasBy_X12_of : GoodIn wsX12_hasBy (va_wsS RX12 51 yX12_of wsX12_of) := goodIn_app (goodIn_of _ (by decide +kernel)) ggX12_hasBy_X12_of
set_option maxRecDepth 20000 in
theorem ggX12_hasBy_X12_daysOn : GoodIn wsX12_hasBy wsX12_daysOn := goodIn_r _ [12, 13, 14, 5, 15, 16, 17, 18, 7, 8, 9, 19, 20, 21, 22, 23, 24, 25, 26, 27, 28, 29, 30, 31, 32, 33, 34, 35, 36, 37, 38, 39, 40, 41, 42] (by decide +kernel) (by decide +kernel)
set_option maxRecDepth 20000 in
theorem gX12_hasBy_X12_daysOn : GoodIn wsX12_hasBy (va_wsS RX12 126 yX12_daysOn wsX12_daysOn) := goodIn_app (goodIn_of _ (by decide +kernel)) ggX12_hasBy_X12_daysOn
set_option maxRecDepth 20000 in
theorem ggX12_hasBy_X12_hereIn : GoodIn wsX12_hasBy wsX12_hereIn := goodIn_r _ [45, 7, 8, 5, 9] (by decide +kernel) (by decide +kernel)
set_option maxRecDepth 20000 in
theorem gX12_hasBy_X12_hereIn : GoodIn wsX12_hasBy (va_wsS RX12 151 yX12_hereIn wsX12_hereIn) := goodIn_app (goodIn_of _ (by decide +kernel)) ggX12_hasBy_X12_hereIn
set_option maxRecDepth 20000 in
theorem ggX12_hasBy_X12_isHere : GoodIn wsX12_hasBy wsX12_isHere := goodIn_r _ [18, 7, 8, 5, 9] (by decide +kernel) (by decide +kernel)
set_option maxRecDepth 20000 in
theorem gX12_hasBy_X12_isHere : GoodIn wsX12_hasBy (va_wsS RX12 66 yX12_isHere wsX12_isHere) := goodIn_app (goodIn_of _ (by decide +kernel)) ggX12_hasBy_X12_isHere
set_option maxRecDepth 20000 in
theorem ggX12_hasBy_X12_bits : GoodIn wsX12_hasBy wsX12_bits := goodIn_r _ [48] (by decide +kernel) (by decide +kernel)
set_option maxRecDepth 20000 in
theorem gX12_hasBy_X12_bits : GoodIn wsX12_hasBy (va_wsS RX12 155 yX12_bits wsX12_bits) := goodIn_app (goodIn_of _ (by decide +kernel)) ggX12_hasBy_X12_bits
theorem dX12_hasBy_0 : decode cX12_hasBy 0 = .ok (.aload_n 0, 1) := by decide +kernel
theorem dX12_hasBy_1 : decode cX12_hasBy 1 = .ok (.getfield 9, 3) := by decide +kernel
theorem dX12_hasBy_4 : decode cX12_hasBy 4 = .ok (.aload_n 0, 1) := by decide +kernel
theorem dX12_hasBy_5 : decode cX12_hasBy 5 = .ok (.getfield 13, 3) := by decide +kernel
theorem dX12_hasBy_8 : decode cX12_hasBy 8 = .ok (.invokestatic 137, 3) := by decide +kernel
theorem dX12_hasBy_11 : decode cX12_hasBy 11 = .ok (.iload_n 3, 1) := by decide +kernel
theorem dX12_hasBy_12 : decode cX12_hasBy 12 = .ok (.iconst 1, 1) := by decide +kernel
theorem dX12_hasBy_13 : decode cX12_hasBy 13 = .ok (.if_icmp .ne 28, 3) := by decide +kernel
theorem dX12_hasBy_16 : decode cX12_hasBy 16 = .ok (.aload_n 0, 1) := by decide +kernel
theorem dX12_hasBy_17 : decode cX12_hasBy 17 = .ok (.getfield 13, 3) := by decide +kernel
theorem dX12_hasBy_20 : decode cX12_hasBy 20 = .ok (.iload_n 2, 1) := by decide +kernel
theorem dX12_hasBy_21 : decode cX12_hasBy 21 = .ok (.iconst 2, 1) := by decide +kernel
theorem dX12_hasBy_22 : decode cX12_hasBy 22 = .ok (.invokestatic 51, 3) := by decide +kernel
theorem dX12_hasBy_25 : decode cX12_hasBy 25 = .ok (.dup2, 1) := by decide +kernel
theorem dX12_hasBy_26 : decode cX12_hasBy 26 = .ok (.iaload, 1) := by decide +kernel
theorem dX12_hasBy_27 : decode cX12_hasBy 27 = .ok (.aload_n 0, 1) := by decide +kernel
theorem dX12_hasBy_28 : decode cX12_hasBy 28 = .ok (.getfield 13, 3) := by decide +kernel
theorem dX12_hasBy_31 : decode cX12_hasBy 31 = .ok (.iload_n 2, 1) := by decide +kernel
theorem dX12_hasBy_32 : decode cX12_hasBy 32 = .ok (.iconst 2, 1) := by decide +kernel
theorem dX12_hasBy_33 : decode cX12_hasBy 33 = .ok (.invokestatic 51, 3) := by decide +kernel
theorem dX12_hasBy_36 : decode cX12_hasBy 36 = .ok (.iaload, 1) := by decide +kernel
theorem dX12_hasBy_37 : decode cX12_hasBy 37 = .ok (.iconst 2, 1) := by decide +kernel
theorem dX12_hasBy_38 : decode cX12_hasBy 38 = .ok (.idiv, 1) := by decide +kernel
theorem dX12_hasBy_39 : decode cX12_hasBy 39 = .ok (.isub, 1) := by decide +kernel
theorem dX12_hasBy_40 : decode cX12_hasBy 40 = .ok (.iastore, 1) := by decide +kernel
theorem dX12_hasBy_41 : decode cX12_hasBy 41 = .ok (.iload 5, 2) := by decide +kernel
theorem dX12_hasBy_43 : decode cX12_hasBy 43 = .ok (.iconst 1, 1) := by decide +kernel
theorem dX12_hasBy_44 : decode cX12_hasBy 44 = .ok (.if_icmp .ne 30, 3) := by decide +kernel
theorem dX12_hasBy_47 : decode cX12_hasBy 47 = .ok (.aload_n 0, 1) := by decide +kernel
theorem dX12_hasBy_48 : decode cX12_hasBy 48 = .ok (.getfield 13, 3) := by decide +kernel
theorem dX12_hasBy_51 : decode cX12_hasBy 51 = .ok (.iload 4, 2) := by decide +kernel
theorem dX12_hasBy_53 : decode cX12_hasBy 53 = .ok (.iconst 2, 1) := by decide +kernel
theorem dX12_hasBy_54 : decode cX12_hasBy 54 = .ok (.invokestatic 51, 3) := by decide +kernel
theorem dX12_hasBy_57 : decode cX12_hasBy 57 = .ok (.dup2, 1) := by decide +kernel
theorem dX12_hasBy_58 : decode cX12_hasBy 58 = .ok (.iaload, 1) := by decide +kernel
theorem dX12_hasBy_59 : decode cX12_hasBy 59 = .ok (.aload_n 0, 1) := by decide +kernel
theorem dX12_hasBy_60 : decode cX12_hasBy 60 = .ok (.getfield 13, 3) := by decide +kernel
theorem dX12_hasBy_63 : decode cX12_hasBy 63 = .ok (.iload 4, 2) := by decide +kernel
theorem dX12_hasBy_65 : decode cX12_hasBy 65 = .ok (.iconst 2, 1) := by decide +kernel
theorem dX12_hasBy_66 : decode cX12_hasBy 66 = .ok (.invokestatic 51, 3) := by decide +kernel
theorem dX12_hasBy_69 : decode cX12_hasBy 69 = .ok (.iaload, 1) := by decide +kernel
theorem dX12_hasBy_70 : decode cX12_hasBy 70 = .ok (.iconst 2, 1) := by decide +kernel
theorem dX12_hasBy_71 : decode cX12_hasBy 71 = .ok (.idiv, 1) := by decide +kernel
theorem dX12_hasBy_72 : decode cX12_hasBy 72 = .ok (.isub, 1) := by decide +kernel
theorem dX12_hasBy_73 : decode cX12_hasBy 73 = .ok (.iastore, 1) := by decide +kernel
theorem dX12_hasBy_74 : decode cX12_hasBy 74 = .ok (.aload_n 0, 1) := by decide +kernel
theorem dX12_hasBy_75 : decode cX12_hasBy 75 = .ok (.getfield 13, 3) := by decide +kernel
theorem dX12_hasBy_78 : decode cX12_hasBy 78 = .ok (.iload 6, 2) := by decide +kernel
theorem dX12_hasBy_80 : decode cX12_hasBy 80 = .ok (.invokestatic 126, 3) := by decide +kernel
theorem dX12_hasBy_83 : decode cX12_hasBy 83 = .ok (.iconst 1, 1) := by decide +kernel
theorem dX12_hasBy_84 : decode cX12_hasBy 84 = .ok (.aload_n 0, 1) := by decide +kernel
theorem dX12_hasBy_85 : decode cX12_hasBy 85 = .ok (.getfield 9, 3) := by decide +kernel
theorem dX12_hasBy_88 : decode cX12_hasBy 88 = .ok (.iconst 0, 1) := by decide +kernel
theorem dX12_hasBy_89 : decode cX12_hasBy 89 = .ok (.iaload, 1) := by decide +kernel
theorem dX12_hasBy_90 : decode cX12_hasBy 90 = .ok (.ishl, 1) := by decide +kernel
theorem dX12_hasBy_91 : decode cX12_hasBy 91 = .ok (.iconst 1, 1) := by decide +kernel
theorem dX12_hasBy_92 : decode cX12_hasBy 92 = .ok (.isub, 1) := by decide +kernel
theorem dX12_hasBy_93 : decode cX12_hasBy 93 = .ok (.aload_n 0, 1) := by decide +kernel
theorem dX12_hasBy_94 : decode cX12_hasBy 94 = .ok (.getfield 13, 3) := by decide +kernel
theorem dX12_hasBy_97 : decode cX12_hasBy 97 = .ok (.invokestatic 151, 3) := by decide +kernel
theorem dX12_hasBy_100 : decode cX12_hasBy 100 = .ok (.iconst (-1), 1) := by decide +kernel
theorem dX12_hasBy_101 : decode cX12_hasBy 101 = .ok (.ixor, 1) := by decide +kernel
theorem dX12_hasBy_102 : decode cX12_hasBy 102 = .ok (.iand, 1) := by decide +kernel
theorem dX12_hasBy_103 : decode cX12_hasBy 103 = .ok (.iconst 1, 1) := by decide +kernel
theorem dX12_hasBy_104 : decode cX12_hasBy 104 = .ok (.iload_n 1, 1) := by decide +kernel
theorem dX12_hasBy_105 : decode cX12_hasBy 105 = .ok (.ishl, 1) := by decide +kernel
theorem dX12_hasBy_106 : decode cX12_hasBy 106 = .ok (.iconst (-1), 1) := by decide +kernel
theorem dX12_hasBy_107 : decode cX12_hasBy 107 = .ok (.ixor, 1) := by decide +kernel
theorem dX12_hasBy_108 : decode cX12_hasBy 108 = .ok (.iand, 1) := by decide +kernel
theorem dX12_hasBy_109 : decode cX12_hasBy 109 = .ok (.istore 7, 2) := by decide +kernel
theorem dX12_hasBy_111 : decode cX12_hasBy 111 = .ok (.aload_n 0, 1) := by decide +kernel
theorem dX12_hasBy_112 : decode cX12_hasBy 112 = .ok (.getfield 13, 3) := by decide +kernel
theorem dX12_hasBy_115 : decode cX12_hasBy 115 = .ok (.iload_n 1, 1) := by decide +kernel
theorem dX12_hasBy_116 : decode cX12_hasBy 116 = .ok (.invokestatic 66, 3) := by decide +kernel
theorem dX12_hasBy_119 : decode cX12_hasBy 119 = .ok (.ifCond .eq 7, 3) := by decide +kernel
theorem dX12_hasBy_122 : decode cX12_hasBy 122 = .ok (.iconst 5, 1) := by decide +kernel
theorem dX12_hasBy_123 : decode cX12_hasBy 123 = .ok (.goto 4, 3) := by decide +kernel
theorem dX12_hasBy_126 : decode cX12_hasBy 126 = .ok (.iconst 0, 1) := by decide +kernel
theorem dX12_hasBy_127 : decode cX12_hasBy 127 = .ok (.iload 7, 2) := by decide +kernel
theorem dX12_hasBy_129 : decode cX12_hasBy 129 = .ok (.invokestatic 155, 3) := by decide +kernel
theorem dX12_hasBy_132 : decode cX12_hasBy 132 = .ok (.iadd, 1) := by decide +kernel
theorem dX12_hasBy_133 : decode cX12_hasBy 133 = .ok (.iload_n 1, 1) := by decide +kernel
theorem dX12_hasBy_134 : decode cX12_hasBy 134 = .ok (.iload_n 2, 1) := by decide +kernel
theorem dX12_hasBy_135 : decode cX12_hasBy 135 = .ok (.if_icmp .ne 7, 3) := by decide +kernel
theorem dX12_hasBy_138 : decode cX12_hasBy 138 = .ok (.iload_n 3, 1) := by decide +kernel
theorem dX12_hasBy_139 : decode cX12_hasBy 139 = .ok (.goto 5, 3) := by decide +kernel
theorem dX12_hasBy_142 : decode cX12_hasBy 142 = .ok (.iload 5, 2) := by decide +kernel
theorem dX12_hasBy_144 : decode cX12_hasBy 144 = .ok (.iadd, 1) := by decide +kernel
theorem dX12_hasBy_145 : decode cX12_hasBy 145 = .ok (.ireturn, 1) := by decide +kernel
set_option maxRecDepth 20000 in
theorem ggX12_two_X12_areTwo : GoodIn wsX12_two wsX12_areTwo := goodIn_r _ [6, 7, 8, 9, 5, 10, 1, 11, 12, 13, 64, 65, 66, 67, 68, 69, 70, 71, 72, 73, 74, 75, 76, 77, 78, 79, 80] (by decide +kernel) (by decide +kernel)
set_option maxRecDepth 20000 in
theorem gX12_two_X12_areTwo : GoodIn wsX12_two (wsV RX12 115 RX12 yX12_areTwo wsX12_areTwo) := goodIn_app (goodIn_of _ (by decide +kernel)) ggX12_two_X12_areTwo
set_option maxRecDepth 20000 in
theorem ggX12_two_X12_isIn : GoodIn wsX12_two wsX12_isIn := goodIn_r _ [13] (by decide +kernel) (by decide +kernel)
set_option maxRecDepth 20000 in
theorem gX12_two_X12_isIn : GoodIn wsX12_two (va_wsS RX12 43 yX12_isIn wsX12_isIn) := goodIn_app (goodIn_of _ (by decide +kernel)) ggX12_two_X12_isIn
set_option maxRecDepth 20000 in
theorem ggX12_two_X12_isHere : GoodIn wsX12_two wsX12_isHere := goodIn_r _ [16, 17, 18, 5, 19] (by decide +kernel) (by decide +kernel)
set_option maxRecDepth 20000 in
theorem gX12_two_X12_isHere : GoodIn wsX12_two (va_wsS RX12 66 yX12_isHere wsX12_isHere) := goodIn_app (goodIn_of _ (by decide +kernel)) ggX12_two_X12_isHere
set_option maxRecDepth 20000 in
theorem ggX12_two_X12_hasBy : GoodIn wsX12_two wsX12_hasBy := goodIn_r _ [23, 1, 24, 25, 26, 5, 27, 17, 18, 19, 28, 29, 30, 31, 32, 33, 14, 15, 16, 34, 35, 36, 37, 38, 39, 40, 41, 42, 43, 44, 45, 46, 47, 48, 49, 50, 51, 52, 53, 54, 55, 56, 57, 58, 59, 60, 61, 62, 63, 64, 65, 66, 67, 68, 69, 70, 71, 72, 73, 74, 75, 76, 77, 78, 79, 80] (by decide +kernel) (by decide +kernel)
set_option maxRecDepth 20000 in
theorem gX12_two_X12_hasBy : GoodIn wsX12_two (wsV RX12 212 RX12 yX12_hasBy wsX12_hasBy) := goodIn_app (goodIn_of _ (by decide +kernel)) ggX12_two_X12_hasBy
theorem dX12_two_0 : decode cX12_two 0 = .ok (.aload_n 0, 1) := by decide +kernel
theorem dX12_two_1 : decode cX12_two 1 = .ok (.iload_n 1, 1) := by decide +kernel
theorem dX12_two_2 : decode cX12_two 2 = .ok (.iload_n 2, 1) := by decide +kernel
theorem dX12_two_3 : decode cX12_two 3 = .ok (.invokevirtual 115, 3) := by decide +kernel
theorem dX12_two_6 : decode cX12_two 6 = .ok (.ifCond .eq 13, 3) := by decide +kernel
theorem dX12_two_9 : decode cX12_two 9 = .ok (.iload_n 3, 1) := by decide +kernel
theorem dX12_two_10 : decode cX12_two 10 = .ok (.iconst 1, 1) := by decide +kernel
theorem dX12_two_11 : decode cX12_two 11 = .ok (.bipush 60, 2) := by decide +kernel
theorem dX12_two_13 : decode cX12_two 13 = .ok (.invokestatic 43, 3) := by decide +kernel
theorem dX12_two_16 : decode cX12_two 16 = .ok (.ifCond .ne 5, 3) := by decide +kernel
theorem dX12_two_19 : decode cX12_two 19 = .ok (.iconst (-1), 1) := by decide +kernel
theorem dX12_two_20 : decode cX12_two 20 = .ok (.ireturn, 1) := by decide +kernel
theorem dX12_two_21 : decode cX12_two 21 = .ok (.aload_n 0, 1) := by decide +kernel
theorem dX12_two_22 : decode cX12_two 22 = .ok (.getfield 9, 3) := by decide +kernel
theorem dX12_two_25 : decode cX12_two 25 = .ok (.iload_n 1, 1) := by decide +kernel
theorem dX12_two_26 : decode cX12_two 26 = .ok (.invokestatic 66, 3) := by decide +kernel
theorem dX12_two_29 : decode cX12_two 29 = .ok (.ifCond .eq 14, 3) := by decide +kernel
theorem dX12_two_32 : decode cX12_two 32 = .ok (.aload_n 0, 1) := by decide +kernel
theorem dX12_two_33 : decode cX12_two 33 = .ok (.getfield 9, 3) := by decide +kernel
theorem dX12_two_36 : decode cX12_two 36 = .ok (.iload_n 2, 1) := by decide +kernel
theorem dX12_two_37 : decode cX12_two 37 = .ok (.invokestatic 66, 3) := by decide +kernel
theorem dX12_two_40 : decode cX12_two 40 = .ok (.ifCond .ne 6, 3) := by decide +kernel
theorem dX12_two_43 : decode cX12_two 43 = .ok (.bipush (-3), 2) := by decide +kernel
theorem dX12_two_45 : decode cX12_two 45 = .ok (.ireturn, 1) := by decide +kernel
theorem dX12_two_46 : decode cX12_two 46 = .ok (.iconst 0, 1) := by decide +kernel
theorem dX12_two_47 : decode cX12_two 47 = .ok (.istore 4, 2) := by decide +kernel
theorem dX12_two_49 : decode cX12_two 49 = .ok (.iload 4, 2) := by decide +kernel
theorem dX12_two_51 : decode cX12_two 51 = .ok (.iconst 4, 1) := by decide +kernel
theorem dX12_two_52 : decode cX12_two 52 = .ok (.if_icmp .ge 88, 3) := by decide +kernel
theorem dX12_two_55 : decode cX12_two 55 = .ok (.iload 4, 2) := by decide +kernel
theorem dX12_two_57 : decode cX12_two 57 = .ok (.iconst 2, 1) := by decide +kernel
theorem dX12_two_58 : decode cX12_two 58 = .ok (.idiv, 1) := by decide +kernel
theorem dX12_two_59 : decode cX12_two 59 = .ok (.istore 5, 2) := by decide +kernel
theorem dX12_two_61 : decode cX12_two 61 = .ok (.iload 4, 2) := by decide +kernel
theorem dX12_two_63 : decode cX12_two 63 = .ok (.iconst 2, 1) := by decide +kernel
theorem dX12_two_64 : decode cX12_two 64 = .ok (.irem, 1) := by decide +kernel
theorem dX12_two_65 : decode cX12_two 65 = .ok (.istore 6, 2) := by decide +kernel
theorem dX12_two_67 : decode cX12_two 67 = .ok (.aload_n 0, 1) := by decide +kernel
theorem dX12_two_68 : decode cX12_two 68 = .ok (.iload_n 1, 1) := by decide +kernel
theorem dX12_two_69 : decode cX12_two 69 = .ok (.iload_n 1, 1) := by decide +kernel
theorem dX12_two_70 : decode cX12_two 70 = .ok (.iconst 1, 1) := by decide +kernel
theorem dX12_two_71 : decode cX12_two 71 = .ok (.iload 5, 2) := by decide +kernel
theorem dX12_two_73 : decode cX12_two 73 = .ok (.isub, 1) := by decide +kernel
theorem dX12_two_74 : decode cX12_two 74 = .ok (.iload_n 2, 1) := by decide +kernel
theorem dX12_two_75 : decode cX12_two 75 = .ok (.iload 6, 2) := by decide +kernel
theorem dX12_two_77 : decode cX12_two 77 = .ok (.iload_n 3, 1) := by decide +kernel
theorem dX12_two_78 : decode cX12_two 78 = .ok (.invokevirtual 212, 3) := by decide +kernel
theorem dX12_two_81 : decode cX12_two 81 = .ok (.aload_n 0, 1) := by decide +kernel
theorem dX12_two_82 : decode cX12_two 82 = .ok (.iload_n 1, 1) := by decide +kernel
theorem dX12_two_83 : decode cX12_two 83 = .ok (.iload_n 1, 1) := by decide +kernel
theorem dX12_two_84 : decode cX12_two 84 = .ok (.iload 5, 2) := by decide +kernel
theorem dX12_two_86 : decode cX12_two 86 = .ok (.iload_n 2, 1) := by decide +kernel
theorem dX12_two_87 : decode cX12_two 87 = .ok (.iload 6, 2) := by decide +kernel
theorem dX12_two_89 : decode cX12_two 89 = .ok (.iload_n 3, 1) := by decide +kernel
theorem dX12_two_90 : decode cX12_two 90 = .ok (.invokevirtual 212, 3) := by decide +kernel
theorem dX12_two_93 : decode cX12_two 93 = .ok (.if_icmp .gt 41, 3) := by decide +kernel
theorem dX12_two_96 : decode cX12_two 96 = .ok (.aload_n 0, 1) := by decide +kernel
theorem dX12_two_97 : decode cX12_two 97 = .ok (.iload_n 2, 1) := by decide +kernel
theorem dX12_two_98 : decode cX12_two 98 = .ok (.iload_n 1, 1) := by decide +kernel
theorem dX12_two_99 : decode cX12_two 99 = .ok (.iload 5, 2) := by decide +kernel
theorem dX12_two_101 : decode cX12_two 101 = .ok (.iload_n 2, 1) := by decide +kernel
theorem dX12_two_102 : decode cX12_two 102 = .ok (.iconst 1, 1) := by decide +kernel
theorem dX12_two_103 : decode cX12_two 103 = .ok (.iload 6, 2) := by decide +kernel
theorem dX12_two_105 : decode cX12_two 105 = .ok (.isub, 1) := by decide +kernel
theorem dX12_two_106 : decode cX12_two 106 = .ok (.iload_n 3, 1) := by decide +kernel
theorem dX12_two_107 : decode cX12_two 107 = .ok (.invokevirtual 212, 3) := by decide +kernel
theorem dX12_two_110 : decode cX12_two 110 = .ok (.aload_n 0, 1) := by decide +kernel
theorem dX12_two_111 : decode cX12_two 111 = .ok (.iload_n 2, 1) := by decide +kernel
theorem dX12_two_112 : decode cX12_two 112 = .ok (.iload_n 1, 1) := by decide +kernel
theorem dX12_two_113 : decode cX12_two 113 = .ok (.iload 5, 2) := by decide +kernel
theorem dX12_two_115 : decode cX12_two 115 = .ok (.iload_n 2, 1) := by decide +kernel
theorem dX12_two_116 : decode cX12_two 116 = .ok (.iload 6, 2) := by decide +kernel
theorem dX12_two_118 : decode cX12_two 118 = .ok (.iload_n 3, 1) := by decide +kernel
theorem dX12_two_119 : decode cX12_two 119 = .ok (.invokevirtual 212, 3) := by decide +kernel
theorem dX12_two_122 : decode cX12_two 122 = .ok (.if_icmp .gt 12, 3) := by decide +kernel
theorem dX12_two_125 : decode cX12_two 125 = .ok (.bipush 10, 2) := by decide +kernel
theorem dX12_two_127 : decode cX12_two 127 = .ok (.iload 5, 2) := by decide +kernel
theorem dX12_two_129 : decode cX12_two 129 = .ok (.imul, 1) := by decide +kernel
theorem dX12_two_130 : decode cX12_two 130 = .ok (.iload 6, 2) := by decide +kernel
theorem dX12_two_132 : decode cX12_two 132 = .ok (.iadd, 1) := by decide +kernel
theorem dX12_two_133 : decode cX12_two 133 = .ok (.ireturn, 1) := by decide +kernel
theorem dX12_two_134 : decode cX12_two 134 = .ok (.iinc 4 1, 3) := by decide +kernel
theorem dX12_two_137 : decode cX12_two 137 = .ok (.goto (-88), 3) := by decide +kernel
theorem dX12_two_140 : decode cX12_two 140 = .ok (.bipush (-4), 2) := by decide +kernel
theorem dX12_two_142 : decode cX12_two 142 = .ok (.ireturn, 1) := by decide +kernel
theorem dX12_gcd_0 : decode cX12_gcd 0 = .ok (.lload_n 0, 1) := by decide +kernel
theorem dX12_gcd_1 : decode cX12_gcd 1 = .ok (.lstore 4, 2) := by decide +kernel
theorem dX12_gcd_3 : decode cX12_gcd 3 = .ok (.lload_n 2, 1) := by decide +kernel
theorem dX12_gcd_4 : decode cX12_gcd 4 = .ok (.lstore 6, 2) := by decide +kernel
theorem dX12_gcd_6 : decode cX12_gcd 6 = .ok (.lload 6, 2) := by decide +kernel
theorem dX12_gcd_8 : decode cX12_gcd 8 = .ok (.lconst 0, 1) := by decide +kernel
theorem dX12_gcd_9 : decode cX12_gcd 9 = .ok (.lcmp, 1) := by decide +kernel
theorem dX12_gcd_10 : decode cX12_gcd 10 = .ok (.ifCond .eq 21, 3) := by decide +kernel
theorem dX12_gcd_13 : decode cX12_gcd 13 = .ok (.lload 4, 2) := by decide +kernel
theorem dX12_gcd_15 : decode cX12_gcd 15 = .ok (.lload 6, 2) := by decide +kernel
theorem dX12_gcd_17 : decode cX12_gcd 17 = .ok (.lrem, 1) := by decide +kernel
theorem dX12_gcd_18 : decode cX12_gcd 18 = .ok (.lstore 8, 2) := by decide +kernel
theorem dX12_gcd_20 : decode cX12_gcd 20 = .ok (.lload 6, 2) := by decide +kernel
theorem dX12_gcd_22 : decode cX12_gcd 22 = .ok (.lstore 4, 2) := by decide +kernel
theorem dX12_gcd_24 : decode cX12_gcd 24 = .ok (.lload 8, 2) := by decide +kernel
theorem dX12_gcd_26 : decode cX12_gcd 26 = .ok (.lstore 6, 2) := by decide +kernel
theorem dX12_gcd_28 : decode cX12_gcd 28 = .ok (.goto (-22), 3) := by decide +kernel
theorem dX12_gcd_31 : decode cX12_gcd 31 = .ok (.lload 4, 2) := by decide +kernel
theorem dX12_gcd_33 : decode cX12_gcd 33 = .ok (.lreturn, 1) := by decide +kernel
set_option maxRecDepth 20000 in
theorem ggX12_partOf_X12_gcd : GoodIn wsX12_partOf wsX12_gcd := goodIn_r _ [4] (by decide +kernel) (by decide +kernel)
set_option maxRecDepth 20000 in
theorem gX12_partOf_X12_gcd : GoodIn wsX12_partOf (va_wsS RX12 216 yX12_gcd wsX12_gcd) := goodIn_app (goodIn_of _ (by decide +kernel)) ggX12_partOf_X12_gcd
theorem dX12_partOf_0 : decode cX12_partOf 0 = .ok (.lload_n 0, 1) := by decide +kernel
theorem dX12_partOf_1 : decode cX12_partOf 1 = .ok (.lconst 0, 1) := by decide +kernel
theorem dX12_partOf_2 : decode cX12_partOf 2 = .ok (.lcmp, 1) := by decide +kernel
theorem dX12_partOf_3 : decode cX12_partOf 3 = .ok (.ifCond .ne 7, 3) := by decide +kernel
theorem dX12_partOf_6 : decode cX12_partOf 6 = .ok (.iload 4, 2) := by decide +kernel
theorem dX12_partOf_8 : decode cX12_partOf 8 = .ok (.i2l, 1) := by decide +kernel
theorem dX12_partOf_9 : decode cX12_partOf 9 = .ok (.lreturn, 1) := by decide +kernel
theorem dX12_partOf_10 : decode cX12_partOf 10 = .ok (.iload 4, 2) := by decide +kernel
theorem dX12_partOf_12 : decode cX12_partOf 12 = .ok (.ifCond .ne 7, 3) := by decide +kernel
theorem dX12_partOf_15 : decode cX12_partOf 15 = .ok (.lload_n 0, 1) := by decide +kernel
theorem dX12_partOf_16 : decode cX12_partOf 16 = .ok (.goto 4, 3) := by decide +kernel
theorem dX12_partOf_19 : decode cX12_partOf 19 = .ok (.lload_n 2, 1) := by decide +kernel
theorem dX12_partOf_20 : decode cX12_partOf 20 = .ok (.lload_n 0, 1) := by decide +kernel
theorem dX12_partOf_21 : decode cX12_partOf 21 = .ok (.lload_n 2, 1) := by decide +kernel
theorem dX12_partOf_22 : decode cX12_partOf 22 = .ok (.invokestatic 216, 3) := by decide +kernel
theorem dX12_partOf_25 : decode cX12_partOf 25 = .ok (.ldiv, 1) := by decide +kernel
theorem dX12_partOf_26 : decode cX12_partOf 26 = .ok (.lreturn, 1) := by decide +kernel
set_option maxRecDepth 20000 in
theorem ggX12_storms_X12_isTenant : GoodIn wsX12_storms wsX12_isTenant := goodIn_r _ [8, 2, 9, 10, 7, 11, 57, 58, 59, 60, 61, 62, 63, 64, 65, 66, 67, 68, 69, 70, 71, 72, 73] (by decide +kernel) (by decide +kernel)
set_option maxRecDepth 20000 in
theorem gX12_storms_X12_isTenant : GoodIn wsX12_storms (wsV RX12 47 RX12 yX12_isTenant wsX12_isTenant) := goodIn_app (goodIn_of _ (by decide +kernel)) ggX12_storms_X12_isTenant
set_option maxRecDepth 20000 in
theorem ggX12_storms_X12_isIn : GoodIn wsX12_storms wsX12_isIn := goodIn_r _ [11] (by decide +kernel) (by decide +kernel)
set_option maxRecDepth 20000 in
theorem gX12_storms_X12_isIn : GoodIn wsX12_storms (va_wsS RX12 43 yX12_isIn wsX12_isIn) := goodIn_app (goodIn_of _ (by decide +kernel)) ggX12_storms_X12_isIn
set_option maxRecDepth 20000 in
theorem ggX12_storms_X12_copies : GoodIn wsX12_storms wsX12_copies := goodIn_r _ [14] (by decide +kernel) (by decide +kernel)
set_option maxRecDepth 20000 in
theorem gX12_storms_X12_copies : GoodIn wsX12_storms (va_wsS RX12 137 yX12_copies wsX12_copies) := goodIn_app (goodIn_of _ (by decide +kernel)) ggX12_storms_X12_copies
set_option maxRecDepth 20000 in
theorem ggX12_storms_X12_has : GoodIn wsX12_storms wsX12_has := goodIn_r _ [17] (by decide +kernel) (by decide +kernel)
set_option maxRecDepth 20000 in
theorem gX12_storms_X12_has : GoodIn wsX12_storms (va_wsS RX12 90 yX12_has wsX12_has) := goodIn_app (goodIn_of _ (by decide +kernel)) ggX12_storms_X12_has
set_option maxRecDepth 20000 in
theorem ggX12_storms_X12_day : GoodIn wsX12_storms wsX12_day := goodIn_r _ [20, 21, 22, 7, 23, 24, 25, 26, 27, 28, 29, 30, 31, 32, 33, 34, 35, 36, 37, 38, 39, 40, 41, 42, 43, 44, 45, 46, 47, 48, 49, 50] (by decide +kernel) (by decide +kernel)
set_option maxRecDepth 20000 in
theorem gX12_storms_X12_day : GoodIn wsX12_storms (va_wsS RX12 87 yX12_day wsX12_day) := goodIn_app (goodIn_of _ (by decide +kernel)) ggX12_storms_X12_day
set_option maxRecDepth 20000 in
theorem ggX12_storms_X12_of : GoodIn wsX12_storms wsX12_of := goodIn_r _ [26] (by decide +kernel) (by decide +kernel)
set_option maxRecDepth 20000 in
theorem gX12_storms_X12_of : GoodIn wsX12_storms (va_wsS RX12 51 yX12_of wsX12_of) := goodIn_app (goodIn_of _ (by decide +kernel)) ggX12_storms_X12_of
set_option maxRecDepth 20000 in
theorem ggX12_storms_X12_partOf : GoodIn wsX12_storms wsX12_partOf := goodIn_r _ [53, 54, 55, 7, 56] (by decide +kernel) (by decide +kernel)
set_option maxRecDepth 20000 in
theorem gX12_storms_X12_partOf : GoodIn wsX12_storms (va_wsS RX12 222 yX12_partOf wsX12_partOf) := goodIn_app (goodIn_of _ (by decide +kernel)) ggX12_storms_X12_partOf
theorem dX12_storms_0 : decode cX12_storms 0 = .ok (.aload_n 0, 1) := by decide +kernel
theorem dX12_storms_1 : decode cX12_storms 1 = .ok (.iload_n 1, 1) := by decide +kernel
theorem dX12_storms_2 : decode cX12_storms 2 = .ok (.invokevirtual 47, 3) := by decide +kernel
theorem dX12_storms_5 : decode cX12_storms 5 = .ok (.ifCond .eq 44, 3) := by decide +kernel
theorem dX12_storms_8 : decode cX12_storms 8 = .ok (.iload_n 2, 1) := by decide +kernel
theorem dX12_storms_9 : decode cX12_storms 9 = .ok (.iconst 0, 1) := by decide +kernel
theorem dX12_storms_10 : decode cX12_storms 10 = .ok (.bipush 7, 2) := by decide +kernel
theorem dX12_storms_12 : decode cX12_storms 12 = .ok (.invokestatic 43, 3) := by decide +kernel
theorem dX12_storms_15 : decode cX12_storms 15 = .ok (.ifCond .eq 34, 3) := by decide +kernel
theorem dX12_storms_18 : decode cX12_storms 18 = .ok (.iload_n 3, 1) := by decide +kernel
theorem dX12_storms_19 : decode cX12_storms 19 = .ok (.iconst 2, 1) := by decide +kernel
theorem dX12_storms_20 : decode cX12_storms 20 = .ok (.bipush 20, 2) := by decide +kernel
theorem dX12_storms_22 : decode cX12_storms 22 = .ok (.invokestatic 43, 3) := by decide +kernel
theorem dX12_storms_25 : decode cX12_storms 25 = .ok (.ifCond .eq 24, 3) := by decide +kernel
theorem dX12_storms_28 : decode cX12_storms 28 = .ok (.iload 4, 2) := by decide +kernel
theorem dX12_storms_30 : decode cX12_storms 30 = .ok (.iconst 0, 1) := by decide +kernel
theorem dX12_storms_31 : decode cX12_storms 31 = .ok (.bipush 99, 2) := by decide +kernel
theorem dX12_storms_33 : decode cX12_storms 33 = .ok (.invokestatic 43, 3) := by decide +kernel
theorem dX12_storms_36 : decode cX12_storms 36 = .ok (.ifCond .eq 13, 3) := by decide +kernel
theorem dX12_storms_39 : decode cX12_storms 39 = .ok (.iload 5, 2) := by decide +kernel
theorem dX12_storms_41 : decode cX12_storms 41 = .ok (.iconst 0, 1) := by decide +kernel
theorem dX12_storms_42 : decode cX12_storms 42 = .ok (.iconst 1, 1) := by decide +kernel
theorem dX12_storms_43 : decode cX12_storms 43 = .ok (.invokestatic 43, 3) := by decide +kernel
theorem dX12_storms_46 : decode cX12_storms 46 = .ok (.ifCond .ne 7, 3) := by decide +kernel
theorem dX12_storms_49 : decode cX12_storms 49 = .ok (.ldc2_w 220, 3) := by decide +kernel
theorem dX12_storms_52 : decode cX12_storms 52 = .ok (.lreturn, 1) := by decide +kernel
theorem dX12_storms_53 : decode cX12_storms 53 = .ok (.lconst 0, 1) := by decide +kernel
theorem dX12_storms_54 : decode cX12_storms 54 = .ok (.lstore 6, 2) := by decide +kernel
theorem dX12_storms_56 : decode cX12_storms 56 = .ok (.lconst 1, 1) := by decide +kernel
theorem dX12_storms_57 : decode cX12_storms 57 = .ok (.lstore 8, 2) := by decide +kernel
theorem dX12_storms_59 : decode cX12_storms 59 = .ok (.iconst 0, 1) := by decide +kernel
theorem dX12_storms_60 : decode cX12_storms 60 = .ok (.istore 10, 2) := by decide +kernel
theorem dX12_storms_62 : decode cX12_storms 62 = .ok (.iload 10, 2) := by decide +kernel
theorem dX12_storms_64 : decode cX12_storms 64 = .ok (.iload_n 2, 1) := by decide +kernel
theorem dX12_storms_65 : decode cX12_storms 65 = .ok (.if_icmp .ge 16, 3) := by decide +kernel
theorem dX12_storms_68 : decode cX12_storms 68 = .ok (.lload 8, 2) := by decide +kernel
theorem dX12_storms_70 : decode cX12_storms 70 = .ok (.iload_n 3, 1) := by decide +kernel
theorem dX12_storms_71 : decode cX12_storms 71 = .ok (.i2l, 1) := by decide +kernel
theorem dX12_storms_72 : decode cX12_storms 72 = .ok (.lmul, 1) := by decide +kernel
theorem dX12_storms_73 : decode cX12_storms 73 = .ok (.lstore 8, 2) := by decide +kernel
theorem dX12_storms_75 : decode cX12_storms 75 = .ok (.iinc 10 1, 3) := by decide +kernel
theorem dX12_storms_78 : decode cX12_storms 78 = .ok (.goto (-16), 3) := by decide +kernel
theorem dX12_storms_81 : decode cX12_storms 81 = .ok (.iconst 0, 1) := by decide +kernel
theorem dX12_storms_82 : decode cX12_storms 82 = .ok (.istore 10, 2) := by decide +kernel
theorem dX12_storms_84 : decode cX12_storms 84 = .ok (.iload 10, 2) := by decide +kernel
theorem dX12_storms_86 : decode cX12_storms 86 = .ok (.iconst 1, 1) := by decide +kernel
theorem dX12_storms_87 : decode cX12_storms 87 = .ok (.iload_n 2, 1) := by decide +kernel
theorem dX12_storms_88 : decode cX12_storms 88 = .ok (.ishl, 1) := by decide +kernel
theorem dX12_storms_89 : decode cX12_storms 89 = .ok (.if_icmp .ge 119, 3) := by decide +kernel
theorem dX12_storms_92 : decode cX12_storms 92 = .ok (.lconst 1, 1) := by decide +kernel
theorem dX12_storms_93 : decode cX12_storms 93 = .ok (.lstore 11, 2) := by decide +kernel
theorem dX12_storms_95 : decode cX12_storms 95 = .ok (.iconst 0, 1) := by decide +kernel
theorem dX12_storms_96 : decode cX12_storms 96 = .ok (.istore 13, 2) := by decide +kernel
theorem dX12_storms_98 : decode cX12_storms 98 = .ok (.aload_n 0, 1) := by decide +kernel
theorem dX12_storms_99 : decode cX12_storms 99 = .ok (.getfield 9, 3) := by decide +kernel
theorem dX12_storms_102 : decode cX12_storms 102 = .ok (.aload_n 0, 1) := by decide +kernel
theorem dX12_storms_103 : decode cX12_storms 103 = .ok (.getfield 13, 3) := by decide +kernel
theorem dX12_storms_106 : decode cX12_storms 106 = .ok (.invokestatic 137, 3) := by decide +kernel
theorem dX12_storms_109 : decode cX12_storms 109 = .ok (.iconst 0, 1) := by decide +kernel
theorem dX12_storms_110 : decode cX12_storms 110 = .ok (.istore 14, 2) := by decide +kernel
theorem dX12_storms_112 : decode cX12_storms 112 = .ok (.iload 14, 2) := by decide +kernel
theorem dX12_storms_114 : decode cX12_storms 114 = .ok (.iload_n 2, 1) := by decide +kernel
theorem dX12_storms_115 : decode cX12_storms 115 = .ok (.if_icmp .ge 61, 3) := by decide +kernel
theorem dX12_storms_118 : decode cX12_storms 118 = .ok (.lload 11, 2) := by decide +kernel
theorem dX12_storms_120 : decode cX12_storms 120 = .ok (.iload 10, 2) := by decide +kernel
theorem dX12_storms_122 : decode cX12_storms 122 = .ok (.iload 14, 2) := by decide +kernel
theorem dX12_storms_124 : decode cX12_storms 124 = .ok (.invokestatic 90, 3) := by decide +kernel
theorem dX12_storms_127 : decode cX12_storms 127 = .ok (.ifCond .eq 7, 3) := by decide +kernel
theorem dX12_storms_130 : decode cX12_storms 130 = .ok (.lconst 1, 1) := by decide +kernel
theorem dX12_storms_131 : decode cX12_storms 131 = .ok (.goto 7, 3) := by decide +kernel
theorem dX12_storms_134 : decode cX12_storms 134 = .ok (.iload_n 3, 1) := by decide +kernel
theorem dX12_storms_135 : decode cX12_storms 135 = .ok (.iconst 1, 1) := by decide +kernel
theorem dX12_storms_136 : decode cX12_storms 136 = .ok (.isub, 1) := by decide +kernel
theorem dX12_storms_137 : decode cX12_storms 137 = .ok (.i2l, 1) := by decide +kernel
theorem dX12_storms_138 : decode cX12_storms 138 = .ok (.lmul, 1) := by decide +kernel
theorem dX12_storms_139 : decode cX12_storms 139 = .ok (.lstore 11, 2) := by decide +kernel
theorem dX12_storms_141 : decode cX12_storms 141 = .ok (.aload_n 0, 1) := by decide +kernel
theorem dX12_storms_142 : decode cX12_storms 142 = .ok (.getfield 13, 3) := by decide +kernel
theorem dX12_storms_145 : decode cX12_storms 145 = .ok (.iload 10, 2) := by decide +kernel
theorem dX12_storms_147 : decode cX12_storms 147 = .ok (.iload 14, 2) := by decide +kernel
theorem dX12_storms_149 : decode cX12_storms 149 = .ok (.invokestatic 90, 3) := by decide +kernel
theorem dX12_storms_152 : decode cX12_storms 152 = .ok (.ifCond .eq 7, 3) := by decide +kernel
theorem dX12_storms_155 : decode cX12_storms 155 = .ok (.iconst 0, 1) := by decide +kernel
theorem dX12_storms_156 : decode cX12_storms 156 = .ok (.goto 9, 3) := by decide +kernel
theorem dX12_storms_159 : decode cX12_storms 159 = .ok (.aload_n 0, 1) := by decide +kernel
theorem dX12_storms_160 : decode cX12_storms 160 = .ok (.getfield 13, 3) := by decide +kernel
theorem dX12_storms_163 : decode cX12_storms 163 = .ok (.iconst 2, 1) := by decide +kernel
theorem dX12_storms_164 : decode cX12_storms 164 = .ok (.iaload, 1) := by decide +kernel
theorem dX12_storms_165 : decode cX12_storms 165 = .ok (.invokestatic 87, 3) := by decide +kernel
theorem dX12_storms_168 : decode cX12_storms 168 = .ok (.istore 13, 2) := by decide +kernel
theorem dX12_storms_170 : decode cX12_storms 170 = .ok (.iinc 14 1, 3) := by decide +kernel
theorem dX12_storms_173 : decode cX12_storms 173 = .ok (.goto (-61), 3) := by decide +kernel
theorem dX12_storms_176 : decode cX12_storms 176 = .ok (.lload 6, 2) := by decide +kernel
theorem dX12_storms_178 : decode cX12_storms 178 = .ok (.aload_n 0, 1) := by decide +kernel
theorem dX12_storms_179 : decode cX12_storms 179 = .ok (.getfield 13, 3) := by decide +kernel
theorem dX12_storms_182 : decode cX12_storms 182 = .ok (.iload_n 1, 1) := by decide +kernel
theorem dX12_storms_183 : decode cX12_storms 183 = .ok (.iconst 2, 1) := by decide +kernel
theorem dX12_storms_184 : decode cX12_storms 184 = .ok (.invokestatic 51, 3) := by decide +kernel
theorem dX12_storms_187 : decode cX12_storms 187 = .ok (.iaload, 1) := by decide +kernel
theorem dX12_storms_188 : decode cX12_storms 188 = .ok (.iload 4, 2) := by decide +kernel
theorem dX12_storms_190 : decode cX12_storms 190 = .ok (.if_icmp .lt 8, 3) := by decide +kernel
theorem dX12_storms_193 : decode cX12_storms 193 = .ok (.lload 11, 2) := by decide +kernel
theorem dX12_storms_195 : decode cX12_storms 195 = .ok (.goto 4, 3) := by decide +kernel
theorem dX12_storms_198 : decode cX12_storms 198 = .ok (.lconst 0, 1) := by decide +kernel
theorem dX12_storms_199 : decode cX12_storms 199 = .ok (.ladd, 1) := by decide +kernel
theorem dX12_storms_200 : decode cX12_storms 200 = .ok (.lstore 6, 2) := by decide +kernel
theorem dX12_storms_202 : decode cX12_storms 202 = .ok (.iinc 10 1, 3) := by decide +kernel
theorem dX12_storms_205 : decode cX12_storms 205 = .ok (.goto (-121), 3) := by decide +kernel
theorem dX12_storms_208 : decode cX12_storms 208 = .ok (.lload 6, 2) := by decide +kernel
theorem dX12_storms_210 : decode cX12_storms 210 = .ok (.lload 8, 2) := by decide +kernel
theorem dX12_storms_212 : decode cX12_storms 212 = .ok (.iload 5, 2) := by decide +kernel
theorem dX12_storms_214 : decode cX12_storms 214 = .ok (.invokestatic 222, 3) := by decide +kernel
theorem dX12_storms_217 : decode cX12_storms 217 = .ok (.lreturn, 1) := by decide +kernel
set_option maxRecDepth 20000 in
theorem ggX12_share_X12_isTenant : GoodIn wsX12_share wsX12_isTenant := goodIn_r _ [7, 2, 8, 9, 6, 10, 32, 33, 34, 35, 36, 37, 38, 39, 40, 41, 42, 43, 44, 45, 46, 47, 48] (by decide +kernel) (by decide +kernel)
set_option maxRecDepth 20000 in
theorem gX12_share_X12_isTenant : GoodIn wsX12_share (wsV RX12 47 RX12 yX12_isTenant wsX12_isTenant) := goodIn_app (goodIn_of _ (by decide +kernel)) ggX12_share_X12_isTenant
set_option maxRecDepth 20000 in
theorem ggX12_share_X12_isIn : GoodIn wsX12_share wsX12_isIn := goodIn_r _ [10] (by decide +kernel) (by decide +kernel)
set_option maxRecDepth 20000 in
theorem gX12_share_X12_isIn : GoodIn wsX12_share (va_wsS RX12 43 yX12_isIn wsX12_isIn) := goodIn_app (goodIn_of _ (by decide +kernel)) ggX12_share_X12_isIn
set_option maxRecDepth 20000 in
theorem ggX12_share_X12_isHere : GoodIn wsX12_share wsX12_isHere := goodIn_r _ [13, 14, 15, 6, 16] (by decide +kernel) (by decide +kernel)
set_option maxRecDepth 20000 in
theorem gX12_share_X12_isHere : GoodIn wsX12_share (va_wsS RX12 66 yX12_isHere wsX12_isHere) := goodIn_app (goodIn_of _ (by decide +kernel)) ggX12_share_X12_isHere
set_option maxRecDepth 20000 in
theorem ggX12_share_X12_of : GoodIn wsX12_share wsX12_of := goodIn_r _ [16] (by decide +kernel) (by decide +kernel)
set_option maxRecDepth 20000 in
theorem gX12_share_X12_of : GoodIn wsX12_share (va_wsS RX12 51 yX12_of wsX12_of) := goodIn_app (goodIn_of _ (by decide +kernel)) ggX12_share_X12_of
set_option maxRecDepth 20000 in
theorem ggX12_share_X12_hereIn : GoodIn wsX12_share wsX12_hereIn := goodIn_r _ [19, 14, 15, 6, 16] (by decide +kernel) (by decide +kernel)
set_option maxRecDepth 20000 in
theorem gX12_share_X12_hereIn : GoodIn wsX12_share (va_wsS RX12 151 yX12_hereIn wsX12_hereIn) := goodIn_app (goodIn_of _ (by decide +kernel)) ggX12_share_X12_hereIn
set_option maxRecDepth 20000 in
theorem ggX12_share_X12_storesIn : GoodIn wsX12_share wsX12_storesIn := goodIn_r _ [22, 23, 24, 6, 25, 14, 15, 16] (by decide +kernel) (by decide +kernel)
set_option maxRecDepth 20000 in
theorem gX12_share_X12_storesIn : GoodIn wsX12_share (va_wsS RX12 187 yX12_storesIn wsX12_storesIn) := goodIn_app (goodIn_of _ (by decide +kernel)) ggX12_share_X12_storesIn
set_option maxRecDepth 20000 in
theorem ggX12_share_X12_partOf : GoodIn wsX12_share wsX12_partOf := goodIn_r _ [28, 29, 30, 6, 31] (by decide +kernel) (by decide +kernel)
set_option maxRecDepth 20000 in
theorem gX12_share_X12_partOf : GoodIn wsX12_share (va_wsS RX12 222 yX12_partOf wsX12_partOf) := goodIn_app (goodIn_of _ (by decide +kernel)) ggX12_share_X12_partOf
theorem dX12_share_0 : decode cX12_share 0 = .ok (.aload_n 0, 1) := by decide +kernel
theorem dX12_share_1 : decode cX12_share 1 = .ok (.iload_n 1, 1) := by decide +kernel
theorem dX12_share_2 : decode cX12_share 2 = .ok (.invokevirtual 47, 3) := by decide +kernel
theorem dX12_share_5 : decode cX12_share 5 = .ok (.ifCond .eq 12, 3) := by decide +kernel
theorem dX12_share_8 : decode cX12_share 8 = .ok (.iload_n 2, 1) := by decide +kernel
theorem dX12_share_9 : decode cX12_share 9 = .ok (.iconst 0, 1) := by decide +kernel
theorem dX12_share_10 : decode cX12_share 10 = .ok (.iconst 1, 1) := by decide +kernel
theorem dX12_share_11 : decode cX12_share 11 = .ok (.invokestatic 43, 3) := by decide +kernel
theorem dX12_share_14 : decode cX12_share 14 = .ok (.ifCond .ne 7, 3) := by decide +kernel
theorem dX12_share_17 : decode cX12_share 17 = .ok (.ldc2_w 220, 3) := by decide +kernel
theorem dX12_share_20 : decode cX12_share 20 = .ok (.lreturn, 1) := by decide +kernel
theorem dX12_share_21 : decode cX12_share 21 = .ok (.aload_n 0, 1) := by decide +kernel
theorem dX12_share_22 : decode cX12_share 22 = .ok (.getfield 9, 3) := by decide +kernel
theorem dX12_share_25 : decode cX12_share 25 = .ok (.iload_n 1, 1) := by decide +kernel
theorem dX12_share_26 : decode cX12_share 26 = .ok (.invokestatic 66, 3) := by decide +kernel
theorem dX12_share_29 : decode cX12_share 29 = .ok (.ifCond .eq 17, 3) := by decide +kernel
theorem dX12_share_32 : decode cX12_share 32 = .ok (.aload_n 0, 1) := by decide +kernel
theorem dX12_share_33 : decode cX12_share 33 = .ok (.getfield 9, 3) := by decide +kernel
theorem dX12_share_36 : decode cX12_share 36 = .ok (.iload_n 1, 1) := by decide +kernel
theorem dX12_share_37 : decode cX12_share 37 = .ok (.iconst 2, 1) := by decide +kernel
theorem dX12_share_38 : decode cX12_share 38 = .ok (.invokestatic 51, 3) := by decide +kernel
theorem dX12_share_41 : decode cX12_share 41 = .ok (.iaload, 1) := by decide +kernel
theorem dX12_share_42 : decode cX12_share 42 = .ok (.i2l, 1) := by decide +kernel
theorem dX12_share_43 : decode cX12_share 43 = .ok (.goto 4, 3) := by decide +kernel
theorem dX12_share_46 : decode cX12_share 46 = .ok (.lconst 0, 1) := by decide +kernel
theorem dX12_share_47 : decode cX12_share 47 = .ok (.aload_n 0, 1) := by decide +kernel
theorem dX12_share_48 : decode cX12_share 48 = .ok (.getfield 9, 3) := by decide +kernel
theorem dX12_share_51 : decode cX12_share 51 = .ok (.aload_n 0, 1) := by decide +kernel
theorem dX12_share_52 : decode cX12_share 52 = .ok (.getfield 9, 3) := by decide +kernel
theorem dX12_share_55 : decode cX12_share 55 = .ok (.invokestatic 151, 3) := by decide +kernel
theorem dX12_share_58 : decode cX12_share 58 = .ok (.invokestatic 187, 3) := by decide +kernel
theorem dX12_share_61 : decode cX12_share 61 = .ok (.i2l, 1) := by decide +kernel
theorem dX12_share_62 : decode cX12_share 62 = .ok (.iload_n 2, 1) := by decide +kernel
theorem dX12_share_63 : decode cX12_share 63 = .ok (.invokestatic 222, 3) := by decide +kernel
theorem dX12_share_66 : decode cX12_share 66 = .ok (.lreturn, 1) := by decide +kernel
set_option maxRecDepth 20000 in
theorem ggX12_forged_X12_wrongRow : GoodIn wsX12_forged wsX12_wrongRow := goodIn_r _ [8, 9, 10, 11, 12, 7, 13, 14, 15, 16, 24, 25, 26, 27, 28, 29, 30, 31, 32, 33, 34, 35, 36, 37, 38, 39, 40] (by decide +kernel) (by decide +kernel)
set_option maxRecDepth 20000 in
theorem gX12_forged_X12_wrongRow : GoodIn wsX12_forged (wsV RX12 130 RX12 yX12_wrongRow wsX12_wrongRow) := goodIn_app (goodIn_of _ (by decide +kernel)) ggX12_forged_X12_wrongRow
set_option maxRecDepth 20000 in
theorem ggX12_forged_X12_isTenant : GoodIn wsX12_forged wsX12_isTenant := goodIn_r _ [20, 3, 14, 15, 7, 16, 24, 25, 26, 27, 28, 29, 30, 31, 32, 33, 34, 35, 36, 37, 38, 39, 40] (by decide +kernel) (by decide +kernel)
set_option maxRecDepth 20000 in
theorem gX12_forged_X12_isTenant : GoodIn wsX12_forged (wsV RX12 47 RX12 yX12_isTenant wsX12_isTenant) := goodIn_app (goodIn_of _ (by decide +kernel)) ggX12_forged_X12_isTenant
set_option maxRecDepth 20000 in
theorem ggX12_forged_X12_of : GoodIn wsX12_forged wsX12_of := goodIn_r _ [23] (by decide +kernel) (by decide +kernel)
set_option maxRecDepth 20000 in
theorem gX12_forged_X12_of : GoodIn wsX12_forged (va_wsS RX12 51 yX12_of wsX12_of) := goodIn_app (goodIn_of _ (by decide +kernel)) ggX12_forged_X12_of
theorem dX12_forged_0 : decode cX12_forged 0 = .ok (.aload_n 0, 1) := by decide +kernel
theorem dX12_forged_1 : decode cX12_forged 1 = .ok (.iload_n 1, 1) := by decide +kernel
theorem dX12_forged_2 : decode cX12_forged 2 = .ok (.iconst (-1), 1) := by decide +kernel
theorem dX12_forged_3 : decode cX12_forged 3 = .ok (.invokevirtual 130, 3) := by decide +kernel
theorem dX12_forged_6 : decode cX12_forged 6 = .ok (.istore_n 2, 1) := by decide +kernel
theorem dX12_forged_7 : decode cX12_forged 7 = .ok (.iload_n 2, 1) := by decide +kernel
theorem dX12_forged_8 : decode cX12_forged 8 = .ok (.ifCond .eq 5, 3) := by decide +kernel
theorem dX12_forged_11 : decode cX12_forged 11 = .ok (.iload_n 2, 1) := by decide +kernel
theorem dX12_forged_12 : decode cX12_forged 12 = .ok (.ireturn, 1) := by decide +kernel
theorem dX12_forged_13 : decode cX12_forged 13 = .ok (.iconst 0, 1) := by decide +kernel
theorem dX12_forged_14 : decode cX12_forged 14 = .ok (.istore_n 3, 1) := by decide +kernel
theorem dX12_forged_15 : decode cX12_forged 15 = .ok (.iload_n 3, 1) := by decide +kernel
theorem dX12_forged_16 : decode cX12_forged 16 = .ok (.aload_n 0, 1) := by decide +kernel
theorem dX12_forged_17 : decode cX12_forged 17 = .ok (.getfield 37, 3) := by decide +kernel
theorem dX12_forged_20 : decode cX12_forged 20 = .ok (.iload_n 1, 1) := by decide +kernel
theorem dX12_forged_21 : decode cX12_forged 21 = .ok (.iaload, 1) := by decide +kernel
theorem dX12_forged_22 : decode cX12_forged 22 = .ok (.if_icmp .ge 43, 3) := by decide +kernel
theorem dX12_forged_25 : decode cX12_forged 25 = .ok (.aload_n 0, 1) := by decide +kernel
theorem dX12_forged_26 : decode cX12_forged 26 = .ok (.iload_n 3, 1) := by decide +kernel
theorem dX12_forged_27 : decode cX12_forged 27 = .ok (.invokevirtual 47, 3) := by decide +kernel
theorem dX12_forged_30 : decode cX12_forged 30 = .ok (.ifCond .eq 27, 3) := by decide +kernel
theorem dX12_forged_33 : decode cX12_forged 33 = .ok (.aload_n 0, 1) := by decide +kernel
theorem dX12_forged_34 : decode cX12_forged 34 = .ok (.getfield 40, 3) := by decide +kernel
theorem dX12_forged_37 : decode cX12_forged 37 = .ok (.bipush 100, 2) := by decide +kernel
theorem dX12_forged_39 : decode cX12_forged 39 = .ok (.iload_n 1, 1) := by decide +kernel
theorem dX12_forged_40 : decode cX12_forged 40 = .ok (.imul, 1) := by decide +kernel
theorem dX12_forged_41 : decode cX12_forged 41 = .ok (.iload_n 3, 1) := by decide +kernel
theorem dX12_forged_42 : decode cX12_forged 42 = .ok (.iadd, 1) := by decide +kernel
theorem dX12_forged_43 : decode cX12_forged 43 = .ok (.iaload, 1) := by decide +kernel
theorem dX12_forged_44 : decode cX12_forged 44 = .ok (.aload_n 0, 1) := by decide +kernel
theorem dX12_forged_45 : decode cX12_forged 45 = .ok (.getfield 9, 3) := by decide +kernel
theorem dX12_forged_48 : decode cX12_forged 48 = .ok (.iload_n 3, 1) := by decide +kernel
theorem dX12_forged_49 : decode cX12_forged 49 = .ok (.iconst 2, 1) := by decide +kernel
theorem dX12_forged_50 : decode cX12_forged 50 = .ok (.invokestatic 51, 3) := by decide +kernel
theorem dX12_forged_53 : decode cX12_forged 53 = .ok (.iaload, 1) := by decide +kernel
theorem dX12_forged_54 : decode cX12_forged 54 = .ok (.if_icmp .eq 5, 3) := by decide +kernel
theorem dX12_forged_57 : decode cX12_forged 57 = .ok (.iload_n 3, 1) := by decide +kernel
theorem dX12_forged_58 : decode cX12_forged 58 = .ok (.ireturn, 1) := by decide +kernel
theorem dX12_forged_59 : decode cX12_forged 59 = .ok (.iinc 3 1, 3) := by decide +kernel
theorem dX12_forged_62 : decode cX12_forged 62 = .ok (.goto (-47), 3) := by decide +kernel
theorem dX12_forged_65 : decode cX12_forged 65 = .ok (.bipush (-4), 2) := by decide +kernel
theorem dX12_forged_67 : decode cX12_forged 67 = .ok (.ireturn, 1) := by decide +kernel
set_option maxRecDepth 20000 in
theorem ggX12_judge_X12_wrongRow : GoodIn wsX12_judge wsX12_wrongRow := goodIn_r _ [8, 9, 10, 11, 12, 7, 13, 14, 15, 16, 71, 72, 73, 74, 75, 76, 77, 78, 79, 80, 81, 82, 83, 84, 85, 86, 87] (by decide +kernel) (by decide +kernel)
set_option maxRecDepth 20000 in
theorem gX12_judge_X12_wrongRow : GoodIn wsX12_judge (wsV RX12 130 RX12 yX12_wrongRow wsX12_wrongRow) := goodIn_app (goodIn_of _ (by decide +kernel)) ggX12_judge_X12_wrongRow
set_option maxRecDepth 20000 in
theorem ggX12_judge_X12_copies : GoodIn wsX12_judge wsX12_copies := goodIn_r _ [19] (by decide +kernel) (by decide +kernel)
set_option maxRecDepth 20000 in
theorem gX12_judge_X12_copies : GoodIn wsX12_judge (va_wsS RX12 137 yX12_copies wsX12_copies) := goodIn_app (goodIn_of _ (by decide +kernel)) ggX12_judge_X12_copies
set_option maxRecDepth 20000 in
theorem ggX12_judge_X12_hereIn : GoodIn wsX12_judge wsX12_hereIn := goodIn_r _ [22, 23, 24, 7, 25] (by decide +kernel) (by decide +kernel)
set_option maxRecDepth 20000 in
theorem gX12_judge_X12_hereIn : GoodIn wsX12_judge (va_wsS RX12 151 yX12_hereIn wsX12_hereIn) := goodIn_app (goodIn_of _ (by decide +kernel)) ggX12_judge_X12_hereIn
set_option maxRecDepth 20000 in
theorem ggX12_judge_X12_bits : GoodIn wsX12_judge wsX12_bits := goodIn_r _ [28] (by decide +kernel) (by decide +kernel)
set_option maxRecDepth 20000 in
theorem gX12_judge_X12_bits : GoodIn wsX12_judge (va_wsS RX12 155 yX12_bits wsX12_bits) := goodIn_app (goodIn_of _ (by decide +kernel)) ggX12_judge_X12_bits
set_option maxRecDepth 20000 in
theorem ggX12_judge_X12_isTold : GoodIn wsX12_judge wsX12_isTold := goodIn_r _ [32, 33, 10, 34, 35, 7, 36, 37, 71, 72, 73, 74, 75, 76, 77, 78, 79, 80, 81, 82, 83, 84, 85, 86, 87] (by decide +kernel) (by decide +kernel)
set_option maxRecDepth 20000 in
theorem gX12_judge_X12_isTold : GoodIn wsX12_judge (wsV RX12 209 RX12 yX12_isTold wsX12_isTold) := goodIn_app (goodIn_of _ (by decide +kernel)) ggX12_judge_X12_isTold
set_option maxRecDepth 20000 in
theorem ggX12_judge_X12_daysOn : GoodIn wsX12_judge wsX12_daysOn := goodIn_r _ [40, 41, 42, 7, 43, 44, 45, 46, 23, 24, 25, 47, 48, 49, 50, 51, 52, 53, 54, 55, 56, 57, 58, 59, 60, 61, 62, 63, 64, 65, 66, 67, 68, 69, 70] (by decide +kernel) (by decide +kernel)
set_option maxRecDepth 20000 in
theorem gX12_judge_X12_daysOn : GoodIn wsX12_judge (va_wsS RX12 126 yX12_daysOn wsX12_daysOn) := goodIn_app (goodIn_of _ (by decide +kernel)) ggX12_judge_X12_daysOn
theorem dX12_judge_0 : decode cX12_judge 0 = .ok (.aload_n 0, 1) := by decide +kernel
theorem dX12_judge_1 : decode cX12_judge 1 = .ok (.iload_n 1, 1) := by decide +kernel
theorem dX12_judge_2 : decode cX12_judge 2 = .ok (.iconst (-1), 1) := by decide +kernel
theorem dX12_judge_3 : decode cX12_judge 3 = .ok (.invokevirtual 130, 3) := by decide +kernel
theorem dX12_judge_6 : decode cX12_judge 6 = .ok (.istore_n 2, 1) := by decide +kernel
theorem dX12_judge_7 : decode cX12_judge 7 = .ok (.iload_n 2, 1) := by decide +kernel
theorem dX12_judge_8 : decode cX12_judge 8 = .ok (.ifCond .eq 5, 3) := by decide +kernel
theorem dX12_judge_11 : decode cX12_judge 11 = .ok (.iload_n 2, 1) := by decide +kernel
theorem dX12_judge_12 : decode cX12_judge 12 = .ok (.ireturn, 1) := by decide +kernel
theorem dX12_judge_13 : decode cX12_judge 13 = .ok (.aload_n 0, 1) := by decide +kernel
theorem dX12_judge_14 : decode cX12_judge 14 = .ok (.getfield 9, 3) := by decide +kernel
theorem dX12_judge_17 : decode cX12_judge 17 = .ok (.aload_n 0, 1) := by decide +kernel
theorem dX12_judge_18 : decode cX12_judge 18 = .ok (.getfield 13, 3) := by decide +kernel
theorem dX12_judge_21 : decode cX12_judge 21 = .ok (.invokestatic 137, 3) := by decide +kernel
theorem dX12_judge_24 : decode cX12_judge 24 = .ok (.iconst 0, 1) := by decide +kernel
theorem dX12_judge_25 : decode cX12_judge 25 = .ok (.istore_n 3, 1) := by decide +kernel
theorem dX12_judge_26 : decode cX12_judge 26 = .ok (.iload_n 3, 1) := by decide +kernel
theorem dX12_judge_27 : decode cX12_judge 27 = .ok (.aload_n 0, 1) := by decide +kernel
theorem dX12_judge_28 : decode cX12_judge 28 = .ok (.getfield 37, 3) := by decide +kernel
theorem dX12_judge_31 : decode cX12_judge 31 = .ok (.iload_n 1, 1) := by decide +kernel
theorem dX12_judge_32 : decode cX12_judge 32 = .ok (.iaload, 1) := by decide +kernel
theorem dX12_judge_33 : decode cX12_judge 33 = .ok (.if_icmp .ge 38, 3) := by decide +kernel
theorem dX12_judge_36 : decode cX12_judge 36 = .ok (.aload_n 0, 1) := by decide +kernel
theorem dX12_judge_37 : decode cX12_judge 37 = .ok (.iload_n 1, 1) := by decide +kernel
theorem dX12_judge_38 : decode cX12_judge 38 = .ok (.iload_n 3, 1) := by decide +kernel
theorem dX12_judge_39 : decode cX12_judge 39 = .ok (.aload_n 0, 1) := by decide +kernel
theorem dX12_judge_40 : decode cX12_judge 40 = .ok (.getfield 13, 3) := by decide +kernel
theorem dX12_judge_43 : decode cX12_judge 43 = .ok (.invokestatic 151, 3) := by decide +kernel
theorem dX12_judge_46 : decode cX12_judge 46 = .ok (.invokestatic 155, 3) := by decide +kernel
theorem dX12_judge_49 : decode cX12_judge 49 = .ok (.invokevirtual 209, 3) := by decide +kernel
theorem dX12_judge_52 : decode cX12_judge 52 = .ok (.ifCond .ne 5, 3) := by decide +kernel
theorem dX12_judge_55 : decode cX12_judge 55 = .ok (.iload_n 3, 1) := by decide +kernel
theorem dX12_judge_56 : decode cX12_judge 56 = .ok (.ireturn, 1) := by decide +kernel
theorem dX12_judge_57 : decode cX12_judge 57 = .ok (.aload_n 0, 1) := by decide +kernel
theorem dX12_judge_58 : decode cX12_judge 58 = .ok (.getfield 13, 3) := by decide +kernel
theorem dX12_judge_61 : decode cX12_judge 61 = .ok (.iconst 1, 1) := by decide +kernel
theorem dX12_judge_62 : decode cX12_judge 62 = .ok (.invokestatic 126, 3) := by decide +kernel
theorem dX12_judge_65 : decode cX12_judge 65 = .ok (.iinc 3 1, 3) := by decide +kernel
theorem dX12_judge_68 : decode cX12_judge 68 = .ok (.goto (-42), 3) := by decide +kernel
theorem dX12_judge_71 : decode cX12_judge 71 = .ok (.bipush (-4), 2) := by decide +kernel
theorem dX12_judge_73 : decode cX12_judge 73 = .ok (.ireturn, 1) := by decide +kernel
theorem dX12_drawn_0 : decode cX12_drawn 0 = .ok (.aload_n 0, 1) := by decide +kernel
theorem dX12_drawn_1 : decode cX12_drawn 1 = .ok (.aload_n 0, 1) := by decide +kernel
theorem dX12_drawn_2 : decode cX12_drawn 2 = .ok (.getfield 226, 3) := by decide +kernel
theorem dX12_drawn_5 : decode cX12_drawn 5 = .ok (.ldc 229, 2) := by decide +kernel
theorem dX12_drawn_7 : decode cX12_drawn 7 = .ok (.imul, 1) := by decide +kernel
theorem dX12_drawn_8 : decode cX12_drawn 8 = .ok (.sipush 12345, 3) := by decide +kernel
theorem dX12_drawn_11 : decode cX12_drawn 11 = .ok (.iadd, 1) := by decide +kernel
theorem dX12_drawn_12 : decode cX12_drawn 12 = .ok (.putfield 226, 3) := by decide +kernel
theorem dX12_drawn_15 : decode cX12_drawn 15 = .ok (.aload_n 0, 1) := by decide +kernel
theorem dX12_drawn_16 : decode cX12_drawn 16 = .ok (.getfield 226, 3) := by decide +kernel
theorem dX12_drawn_19 : decode cX12_drawn 19 = .ok (.ldc 230, 2) := by decide +kernel
theorem dX12_drawn_21 : decode cX12_drawn 21 = .ok (.iand, 1) := by decide +kernel
theorem dX12_drawn_22 : decode cX12_drawn 22 = .ok (.ldc 231, 2) := by decide +kernel
theorem dX12_drawn_24 : decode cX12_drawn 24 = .ok (.idiv, 1) := by decide +kernel
theorem dX12_drawn_25 : decode cX12_drawn 25 = .ok (.iload_n 1, 1) := by decide +kernel
theorem dX12_drawn_26 : decode cX12_drawn 26 = .ok (.irem, 1) := by decide +kernel
theorem dX12_drawn_27 : decode cX12_drawn 27 = .ok (.ireturn, 1) := by decide +kernel
set_option maxRecDepth 20000 in
theorem ggX12_years_X12_isIn : GoodIn wsX12_years wsX12_isIn := goodIn_r _ [7] (by decide +kernel) (by decide +kernel)
set_option maxRecDepth 20000 in
theorem gX12_years_X12_isIn : GoodIn wsX12_years (va_wsS RX12 43 yX12_isIn wsX12_isIn) := goodIn_app (goodIn_of _ (by decide +kernel)) ggX12_years_X12_isIn
set_option maxRecDepth 20000 in
theorem ggX12_years_X12_copies : GoodIn wsX12_years wsX12_copies := goodIn_r _ [10] (by decide +kernel) (by decide +kernel)
set_option maxRecDepth 20000 in
theorem gX12_years_X12_copies : GoodIn wsX12_years (va_wsS RX12 137 yX12_copies wsX12_copies) := goodIn_app (goodIn_of _ (by decide +kernel)) ggX12_years_X12_copies
set_option maxRecDepth 20000 in
theorem ggX12_years_X12_drawn : GoodIn wsX12_years wsX12_drawn := goodIn_r _ [14, 1, 15, 16, 17, 60, 61, 62, 63, 64, 65, 66, 67, 68, 69, 70, 71, 72, 73, 74, 75, 76] (by decide +kernel) (by decide +kernel)
set_option maxRecDepth 20000 in
theorem gX12_years_X12_drawn : GoodIn wsX12_years (wsV RX12 232 RX12 yX12_drawn wsX12_drawn) := goodIn_app (goodIn_of _ (by decide +kernel)) ggX12_years_X12_drawn
set_option maxRecDepth 20000 in
theorem ggX12_years_X12_daysOn : GoodIn wsX12_years wsX12_daysOn := goodIn_r _ [20, 21, 22, 6, 23, 24, 25, 26, 27, 28, 29, 30, 31, 32, 33, 34, 35, 36, 37, 38, 39, 40, 41, 42, 43, 44, 45, 46, 47, 48, 49, 50, 51, 52, 53] (by decide +kernel) (by decide +kernel)
set_option maxRecDepth 20000 in
theorem gX12_years_X12_daysOn : GoodIn wsX12_years (va_wsS RX12 126 yX12_daysOn wsX12_daysOn) := goodIn_app (goodIn_of _ (by decide +kernel)) ggX12_years_X12_daysOn
set_option maxRecDepth 20000 in
theorem ggX12_years_X12_hereIn : GoodIn wsX12_years wsX12_hereIn := goodIn_r _ [56, 27, 28, 6, 29] (by decide +kernel) (by decide +kernel)
set_option maxRecDepth 20000 in
theorem gX12_years_X12_hereIn : GoodIn wsX12_years (va_wsS RX12 151 yX12_hereIn wsX12_hereIn) := goodIn_app (goodIn_of _ (by decide +kernel)) ggX12_years_X12_hereIn
set_option maxRecDepth 20000 in
theorem ggX12_years_X12_bits : GoodIn wsX12_years wsX12_bits := goodIn_r _ [59] (by decide +kernel) (by decide +kernel)
set_option maxRecDepth 20000 in
theorem gX12_years_X12_bits : GoodIn wsX12_years (va_wsS RX12 155 yX12_bits wsX12_bits) := goodIn_app (goodIn_of _ (by decide +kernel)) ggX12_years_X12_bits
theorem dX12_years_0 : decode cX12_years 0 = .ok (.iload_n 1, 1) := by decide +kernel
theorem dX12_years_1 : decode cX12_years 1 = .ok (.iconst 1, 1) := by decide +kernel
theorem dX12_years_2 : decode cX12_years 2 = .ok (.bipush 20, 2) := by decide +kernel
theorem dX12_years_4 : decode cX12_years 4 = .ok (.invokestatic 43, 3) := by decide +kernel
theorem dX12_years_7 : decode cX12_years 7 = .ok (.ifCond .eq 12, 3) := by decide +kernel
theorem dX12_years_10 : decode cX12_years 10 = .ok (.iload_n 3, 1) := by decide +kernel
theorem dX12_years_11 : decode cX12_years 11 = .ok (.iconst 0, 1) := by decide +kernel
theorem dX12_years_12 : decode cX12_years 12 = .ok (.iconst 1, 1) := by decide +kernel
theorem dX12_years_13 : decode cX12_years 13 = .ok (.invokestatic 43, 3) := by decide +kernel
theorem dX12_years_16 : decode cX12_years 16 = .ok (.ifCond .ne 5, 3) := by decide +kernel
theorem dX12_years_19 : decode cX12_years 19 = .ok (.iconst (-1), 1) := by decide +kernel
theorem dX12_years_20 : decode cX12_years 20 = .ok (.ireturn, 1) := by decide +kernel
theorem dX12_years_21 : decode cX12_years 21 = .ok (.aload_n 0, 1) := by decide +kernel
theorem dX12_years_22 : decode cX12_years 22 = .ok (.iload_n 2, 1) := by decide +kernel
theorem dX12_years_23 : decode cX12_years 23 = .ok (.putfield 226, 3) := by decide +kernel
theorem dX12_years_26 : decode cX12_years 26 = .ok (.iconst 0, 1) := by decide +kernel
theorem dX12_years_27 : decode cX12_years 27 = .ok (.istore 4, 2) := by decide +kernel
theorem dX12_years_29 : decode cX12_years 29 = .ok (.iconst 0, 1) := by decide +kernel
theorem dX12_years_30 : decode cX12_years 30 = .ok (.istore 5, 2) := by decide +kernel
theorem dX12_years_32 : decode cX12_years 32 = .ok (.iload 5, 2) := by decide +kernel
theorem dX12_years_34 : decode cX12_years 34 = .ok (.iload_n 1, 1) := by decide +kernel
theorem dX12_years_35 : decode cX12_years 35 = .ok (.if_icmp .ge 81, 3) := by decide +kernel
theorem dX12_years_38 : decode cX12_years 38 = .ok (.aload_n 0, 1) := by decide +kernel
theorem dX12_years_39 : decode cX12_years 39 = .ok (.getfield 9, 3) := by decide +kernel
theorem dX12_years_42 : decode cX12_years 42 = .ok (.aload_n 0, 1) := by decide +kernel
theorem dX12_years_43 : decode cX12_years 43 = .ok (.getfield 13, 3) := by decide +kernel
theorem dX12_years_46 : decode cX12_years 46 = .ok (.invokestatic 137, 3) := by decide +kernel
theorem dX12_years_49 : decode cX12_years 49 = .ok (.aload_n 0, 1) := by decide +kernel
theorem dX12_years_50 : decode cX12_years 50 = .ok (.getfield 13, 3) := by decide +kernel
theorem dX12_years_53 : decode cX12_years 53 = .ok (.iconst 2, 1) := by decide +kernel
theorem dX12_years_54 : decode cX12_years 54 = .ok (.aload_n 0, 1) := by decide +kernel
theorem dX12_years_55 : decode cX12_years 55 = .ok (.bipush 10, 2) := by decide +kernel
theorem dX12_years_57 : decode cX12_years 57 = .ok (.invokevirtual 232, 3) := by decide +kernel
theorem dX12_years_60 : decode cX12_years 60 = .ok (.iastore, 1) := by decide +kernel
theorem dX12_years_61 : decode cX12_years 61 = .ok (.aload_n 0, 1) := by decide +kernel
theorem dX12_years_62 : decode cX12_years 62 = .ok (.getfield 13, 3) := by decide +kernel
theorem dX12_years_65 : decode cX12_years 65 = .ok (.iconst 3, 1) := by decide +kernel
theorem dX12_years_66 : decode cX12_years 66 = .ok (.aload_n 0, 1) := by decide +kernel
theorem dX12_years_67 : decode cX12_years 67 = .ok (.bipush 100, 2) := by decide +kernel
theorem dX12_years_69 : decode cX12_years 69 = .ok (.invokevirtual 232, 3) := by decide +kernel
theorem dX12_years_72 : decode cX12_years 72 = .ok (.iastore, 1) := by decide +kernel
theorem dX12_years_73 : decode cX12_years 73 = .ok (.aload_n 0, 1) := by decide +kernel
theorem dX12_years_74 : decode cX12_years 74 = .ok (.getfield 13, 3) := by decide +kernel
theorem dX12_years_77 : decode cX12_years 77 = .ok (.bipush 20, 2) := by decide +kernel
theorem dX12_years_79 : decode cX12_years 79 = .ok (.invokestatic 126, 3) := by decide +kernel
theorem dX12_years_82 : decode cX12_years 82 = .ok (.iload 4, 2) := by decide +kernel
theorem dX12_years_84 : decode cX12_years 84 = .ok (.iload_n 3, 1) := by decide +kernel
theorem dX12_years_85 : decode cX12_years 85 = .ok (.ifCond .ne 16, 3) := by decide +kernel
theorem dX12_years_88 : decode cX12_years 88 = .ok (.aload_n 0, 1) := by decide +kernel
theorem dX12_years_89 : decode cX12_years 89 = .ok (.getfield 13, 3) := by decide +kernel
theorem dX12_years_92 : decode cX12_years 92 = .ok (.invokestatic 151, 3) := by decide +kernel
theorem dX12_years_95 : decode cX12_years 95 = .ok (.invokestatic 155, 3) := by decide +kernel
theorem dX12_years_98 : decode cX12_years 98 = .ok (.goto 9, 3) := by decide +kernel
theorem dX12_years_101 : decode cX12_years 101 = .ok (.aload_n 0, 1) := by decide +kernel
theorem dX12_years_102 : decode cX12_years 102 = .ok (.getfield 13, 3) := by decide +kernel
theorem dX12_years_105 : decode cX12_years 105 = .ok (.iconst 3, 1) := by decide +kernel
theorem dX12_years_106 : decode cX12_years 106 = .ok (.iaload, 1) := by decide +kernel
theorem dX12_years_107 : decode cX12_years 107 = .ok (.iadd, 1) := by decide +kernel
theorem dX12_years_108 : decode cX12_years 108 = .ok (.istore 4, 2) := by decide +kernel
theorem dX12_years_110 : decode cX12_years 110 = .ok (.iinc 5 1, 3) := by decide +kernel
theorem dX12_years_113 : decode cX12_years 113 = .ok (.goto (-81), 3) := by decide +kernel
theorem dX12_years_116 : decode cX12_years 116 = .ok (.iload 4, 2) := by decide +kernel
theorem dX12_years_118 : decode cX12_years 118 = .ok (.ireturn, 1) := by decide +kernel
set_option maxRecDepth 20000 in
theorem ggX12_image_X12_copies : GoodIn wsX12_image wsX12_copies := goodIn_r _ [7] (by decide +kernel) (by decide +kernel)
set_option maxRecDepth 20000 in
theorem gX12_image_X12_copies : GoodIn wsX12_image (va_wsS RX12 137 yX12_copies wsX12_copies) := goodIn_app (goodIn_of _ (by decide +kernel)) ggX12_image_X12_copies
theorem dX12_image_0 : decode cX12_image 0 = .ok (.aload_n 0, 1) := by decide +kernel
theorem dX12_image_1 : decode cX12_image 1 = .ok (.getfield 9, 3) := by decide +kernel
theorem dX12_image_4 : decode cX12_image 4 = .ok (.aload_n 0, 1) := by decide +kernel
theorem dX12_image_5 : decode cX12_image 5 = .ok (.getfield 16, 3) := by decide +kernel
theorem dX12_image_8 : decode cX12_image 8 = .ok (.invokestatic 137, 3) := by decide +kernel
theorem dX12_image_11 : decode cX12_image 11 = .ok (.aload_n 0, 1) := by decide +kernel
theorem dX12_image_12 : decode cX12_image 12 = .ok (.iconst 1, 1) := by decide +kernel
theorem dX12_image_13 : decode cX12_image 13 = .ok (.putfield 235, 3) := by decide +kernel
theorem dX12_image_16 : decode cX12_image 16 = .ok (.aload_n 0, 1) := by decide +kernel
theorem dX12_image_17 : decode cX12_image 17 = .ok (.getfield 9, 3) := by decide +kernel
theorem dX12_image_20 : decode cX12_image 20 = .ok (.iconst 1, 1) := by decide +kernel
theorem dX12_image_21 : decode cX12_image 21 = .ok (.iaload, 1) := by decide +kernel
theorem dX12_image_22 : decode cX12_image 22 = .ok (.ireturn, 1) := by decide +kernel
set_option maxRecDepth 20000 in
theorem ggX12_restore_X12_copies : GoodIn wsX12_restore wsX12_copies := goodIn_r _ [7] (by decide +kernel) (by decide +kernel)
set_option maxRecDepth 20000 in
theorem gX12_restore_X12_copies : GoodIn wsX12_restore (va_wsS RX12 137 yX12_copies wsX12_copies) := goodIn_app (goodIn_of _ (by decide +kernel)) ggX12_restore_X12_copies
theorem dX12_restore_0 : decode cX12_restore 0 = .ok (.aload_n 0, 1) := by decide +kernel
theorem dX12_restore_1 : decode cX12_restore 1 = .ok (.getfield 235, 3) := by decide +kernel
theorem dX12_restore_4 : decode cX12_restore 4 = .ok (.ifCond .ne 6, 3) := by decide +kernel
theorem dX12_restore_7 : decode cX12_restore 7 = .ok (.bipush (-3), 2) := by decide +kernel
theorem dX12_restore_9 : decode cX12_restore 9 = .ok (.ireturn, 1) := by decide +kernel
theorem dX12_restore_10 : decode cX12_restore 10 = .ok (.aload_n 0, 1) := by decide +kernel
theorem dX12_restore_11 : decode cX12_restore 11 = .ok (.getfield 16, 3) := by decide +kernel
theorem dX12_restore_14 : decode cX12_restore 14 = .ok (.aload_n 0, 1) := by decide +kernel
theorem dX12_restore_15 : decode cX12_restore 15 = .ok (.getfield 9, 3) := by decide +kernel
theorem dX12_restore_18 : decode cX12_restore 18 = .ok (.invokestatic 137, 3) := by decide +kernel
theorem dX12_restore_21 : decode cX12_restore 21 = .ok (.aload_n 0, 1) := by decide +kernel
theorem dX12_restore_22 : decode cX12_restore 22 = .ok (.getfield 9, 3) := by decide +kernel
theorem dX12_restore_25 : decode cX12_restore 25 = .ok (.iconst 1, 1) := by decide +kernel
theorem dX12_restore_26 : decode cX12_restore 26 = .ok (.iaload, 1) := by decide +kernel
theorem dX12_restore_27 : decode cX12_restore 27 = .ok (.ireturn, 1) := by decide +kernel
set_option maxRecDepth 20000 in
theorem ggX12_count_X12_isIn : GoodIn wsX12_count wsX12_isIn := goodIn_r _ [5] (by decide +kernel) (by decide +kernel)
set_option maxRecDepth 20000 in
theorem gX12_count_X12_isIn : GoodIn wsX12_count (va_wsS RX12 43 yX12_isIn wsX12_isIn) := goodIn_app (goodIn_of _ (by decide +kernel)) ggX12_count_X12_isIn
set_option maxRecDepth 20000 in
theorem ggX12_count_X12_hereIn : GoodIn wsX12_count wsX12_hereIn := goodIn_r _ [8, 9, 10, 4, 11] (by decide +kernel) (by decide +kernel)
set_option maxRecDepth 20000 in
theorem gX12_count_X12_hereIn : GoodIn wsX12_count (va_wsS RX12 151 yX12_hereIn wsX12_hereIn) := goodIn_app (goodIn_of _ (by decide +kernel)) ggX12_count_X12_hereIn
set_option maxRecDepth 20000 in
theorem ggX12_count_X12_storesIn : GoodIn wsX12_count wsX12_storesIn := goodIn_r _ [14, 15, 16, 4, 17, 9, 10, 11] (by decide +kernel) (by decide +kernel)
set_option maxRecDepth 20000 in
theorem gX12_count_X12_storesIn : GoodIn wsX12_count (va_wsS RX12 187 yX12_storesIn wsX12_storesIn) := goodIn_app (goodIn_of _ (by decide +kernel)) ggX12_count_X12_storesIn
theorem dX12_count_0 : decode cX12_count 0 = .ok (.iload_n 1, 1) := by decide +kernel
theorem dX12_count_1 : decode cX12_count 1 = .ok (.iconst 0, 1) := by decide +kernel
theorem dX12_count_2 : decode cX12_count 2 = .ok (.iconst 3, 1) := by decide +kernel
theorem dX12_count_3 : decode cX12_count 3 = .ok (.invokestatic 43, 3) := by decide +kernel
theorem dX12_count_6 : decode cX12_count 6 = .ok (.ifCond .eq 12, 3) := by decide +kernel
theorem dX12_count_9 : decode cX12_count 9 = .ok (.aload_n 0, 1) := by decide +kernel
theorem dX12_count_10 : decode cX12_count 10 = .ok (.getfield 9, 3) := by decide +kernel
theorem dX12_count_13 : decode cX12_count 13 = .ok (.iload_n 1, 1) := by decide +kernel
theorem dX12_count_14 : decode cX12_count 14 = .ok (.iaload, 1) := by decide +kernel
theorem dX12_count_15 : decode cX12_count 15 = .ok (.goto 41, 3) := by decide +kernel
theorem dX12_count_18 : decode cX12_count 18 = .ok (.iload_n 1, 1) := by decide +kernel
theorem dX12_count_19 : decode cX12_count 19 = .ok (.iconst 4, 1) := by decide +kernel
theorem dX12_count_20 : decode cX12_count 20 = .ok (.if_icmp .ne 13, 3) := by decide +kernel
theorem dX12_count_23 : decode cX12_count 23 = .ok (.aload_n 0, 1) := by decide +kernel
theorem dX12_count_24 : decode cX12_count 24 = .ok (.getfield 9, 3) := by decide +kernel
theorem dX12_count_27 : decode cX12_count 27 = .ok (.invokestatic 151, 3) := by decide +kernel
theorem dX12_count_30 : decode cX12_count 30 = .ok (.goto 26, 3) := by decide +kernel
theorem dX12_count_33 : decode cX12_count 33 = .ok (.iload_n 1, 1) := by decide +kernel
theorem dX12_count_34 : decode cX12_count 34 = .ok (.iconst 5, 1) := by decide +kernel
theorem dX12_count_35 : decode cX12_count 35 = .ok (.if_icmp .ne 20, 3) := by decide +kernel
theorem dX12_count_38 : decode cX12_count 38 = .ok (.aload_n 0, 1) := by decide +kernel
theorem dX12_count_39 : decode cX12_count 39 = .ok (.getfield 9, 3) := by decide +kernel
theorem dX12_count_42 : decode cX12_count 42 = .ok (.aload_n 0, 1) := by decide +kernel
theorem dX12_count_43 : decode cX12_count 43 = .ok (.getfield 9, 3) := by decide +kernel
theorem dX12_count_46 : decode cX12_count 46 = .ok (.invokestatic 151, 3) := by decide +kernel
theorem dX12_count_49 : decode cX12_count 49 = .ok (.invokestatic 187, 3) := by decide +kernel
theorem dX12_count_52 : decode cX12_count 52 = .ok (.goto 4, 3) := by decide +kernel
theorem dX12_count_55 : decode cX12_count 55 = .ok (.iconst (-1), 1) := by decide +kernel
theorem dX12_count_56 : decode cX12_count 56 = .ok (.ireturn, 1) := by decide +kernel
theorem dX12_thrown_0 : decode cX12_thrown 0 = .ok (.aload_n 0, 1) := by decide +kernel
theorem dX12_thrown_1 : decode cX12_thrown 1 = .ok (.getfield 239, 3) := by decide +kernel
theorem dX12_thrown_4 : decode cX12_thrown 4 = .ok (.ireturn, 1) := by decide +kernel
set_option maxRecDepth 20000 in
theorem ggX12_isShelf_X12_isIn : GoodIn wsX12_isShelf wsX12_isIn := goodIn_r _ [4] (by decide +kernel) (by decide +kernel)
set_option maxRecDepth 20000 in
theorem gX12_isShelf_X12_isIn : GoodIn wsX12_isShelf (va_wsS RX12 43 yX12_isIn wsX12_isIn) := goodIn_app (goodIn_of _ (by decide +kernel)) ggX12_isShelf_X12_isIn
theorem dX12_isShelf_0 : decode cX12_isShelf 0 = .ok (.iload_n 0, 1) := by decide +kernel
theorem dX12_isShelf_1 : decode cX12_isShelf 1 = .ok (.iconst 0, 1) := by decide +kernel
theorem dX12_isShelf_2 : decode cX12_isShelf 2 = .ok (.bipush 7, 2) := by decide +kernel
theorem dX12_isShelf_4 : decode cX12_isShelf 4 = .ok (.invokestatic 43, 3) := by decide +kernel
theorem dX12_isShelf_7 : decode cX12_isShelf 7 = .ok (.ireturn, 1) := by decide +kernel
set_option maxRecDepth 20000 in
theorem ggX12_wrongRow_X12_isShelf : GoodIn wsX12_wrongRow wsX12_isShelf := goodIn_r _ [6, 7, 8, 5, 9] (by decide +kernel) (by decide +kernel)
set_option maxRecDepth 20000 in
theorem gX12_wrongRow_X12_isShelf : GoodIn wsX12_wrongRow (va_wsS RX12 242 yX12_isShelf wsX12_isShelf) := goodIn_app (goodIn_of _ (by decide +kernel)) ggX12_wrongRow_X12_isShelf
theorem dX12_wrongRow_0 : decode cX12_wrongRow 0 = .ok (.iload_n 1, 1) := by decide +kernel
theorem dX12_wrongRow_1 : decode cX12_wrongRow 1 = .ok (.invokestatic 242, 3) := by decide +kernel
theorem dX12_wrongRow_4 : decode cX12_wrongRow 4 = .ok (.ifCond .ne 7, 3) := by decide +kernel
theorem dX12_wrongRow_7 : decode cX12_wrongRow 7 = .ok (.iconst (-1), 1) := by decide +kernel
theorem dX12_wrongRow_8 : decode cX12_wrongRow 8 = .ok (.goto 47, 3) := by decide +kernel
theorem dX12_wrongRow_11 : decode cX12_wrongRow 11 = .ok (.aload_n 0, 1) := by decide +kernel
theorem dX12_wrongRow_12 : decode cX12_wrongRow 12 = .ok (.getfield 25, 3) := by decide +kernel
theorem dX12_wrongRow_15 : decode cX12_wrongRow 15 = .ok (.iload_n 1, 1) := by decide +kernel
theorem dX12_wrongRow_16 : decode cX12_wrongRow 16 = .ok (.iaload, 1) := by decide +kernel
theorem dX12_wrongRow_17 : decode cX12_wrongRow 17 = .ok (.ifCond .ne 8, 3) := by decide +kernel
theorem dX12_wrongRow_20 : decode cX12_wrongRow 20 = .ok (.bipush (-11), 2) := by decide +kernel
theorem dX12_wrongRow_22 : decode cX12_wrongRow 22 = .ok (.goto 33, 3) := by decide +kernel
theorem dX12_wrongRow_25 : decode cX12_wrongRow 25 = .ok (.aload_n 0, 1) := by decide +kernel
theorem dX12_wrongRow_26 : decode cX12_wrongRow 26 = .ok (.getfield 25, 3) := by decide +kernel
theorem dX12_wrongRow_29 : decode cX12_wrongRow 29 = .ok (.iload_n 1, 1) := by decide +kernel
theorem dX12_wrongRow_30 : decode cX12_wrongRow 30 = .ok (.iaload, 1) := by decide +kernel
theorem dX12_wrongRow_31 : decode cX12_wrongRow 31 = .ok (.iconst 2, 1) := by decide +kernel
theorem dX12_wrongRow_32 : decode cX12_wrongRow 32 = .ok (.if_icmp .ne 17, 3) := by decide +kernel
theorem dX12_wrongRow_35 : decode cX12_wrongRow 35 = .ok (.iload_n 2, 1) := by decide +kernel
theorem dX12_wrongRow_36 : decode cX12_wrongRow 36 = .ok (.ifCond .lt 18, 3) := by decide +kernel
theorem dX12_wrongRow_39 : decode cX12_wrongRow 39 = .ok (.aload_n 0, 1) := by decide +kernel
theorem dX12_wrongRow_40 : decode cX12_wrongRow 40 = .ok (.getfield 34, 3) := by decide +kernel
theorem dX12_wrongRow_43 : decode cX12_wrongRow 43 = .ok (.iload_n 1, 1) := by decide +kernel
theorem dX12_wrongRow_44 : decode cX12_wrongRow 44 = .ok (.iaload, 1) := by decide +kernel
theorem dX12_wrongRow_45 : decode cX12_wrongRow 45 = .ok (.iload_n 2, 1) := by decide +kernel
theorem dX12_wrongRow_46 : decode cX12_wrongRow 46 = .ok (.if_icmp .eq 8, 3) := by decide +kernel
theorem dX12_wrongRow_49 : decode cX12_wrongRow 49 = .ok (.bipush (-12), 2) := by decide +kernel
theorem dX12_wrongRow_51 : decode cX12_wrongRow 51 = .ok (.goto 4, 3) := by decide +kernel
theorem dX12_wrongRow_54 : decode cX12_wrongRow 54 = .ok (.iconst 0, 1) := by decide +kernel
theorem dX12_wrongRow_55 : decode cX12_wrongRow 55 = .ok (.ireturn, 1) := by decide +kernel
set_option maxRecDepth 20000 in
theorem ggX12_wrongKept_X12_isShelf : GoodIn wsX12_wrongKept wsX12_isShelf := goodIn_r _ [5, 6, 7, 4, 8] (by decide +kernel) (by decide +kernel)
set_option maxRecDepth 20000 in
theorem gX12_wrongKept_X12_isShelf : GoodIn wsX12_wrongKept (va_wsS RX12 242 yX12_isShelf wsX12_isShelf) := goodIn_app (goodIn_of _ (by decide +kernel)) ggX12_wrongKept_X12_isShelf
theorem dX12_wrongKept_0 : decode cX12_wrongKept 0 = .ok (.iload_n 1, 1) := by decide +kernel
theorem dX12_wrongKept_1 : decode cX12_wrongKept 1 = .ok (.invokestatic 242, 3) := by decide +kernel
theorem dX12_wrongKept_4 : decode cX12_wrongKept 4 = .ok (.ifCond .ne 7, 3) := by decide +kernel
theorem dX12_wrongKept_7 : decode cX12_wrongKept 7 = .ok (.iconst (-1), 1) := by decide +kernel
theorem dX12_wrongKept_8 : decode cX12_wrongKept 8 = .ok (.goto 33, 3) := by decide +kernel
theorem dX12_wrongKept_11 : decode cX12_wrongKept 11 = .ok (.aload_n 0, 1) := by decide +kernel
theorem dX12_wrongKept_12 : decode cX12_wrongKept 12 = .ok (.getfield 25, 3) := by decide +kernel
theorem dX12_wrongKept_15 : decode cX12_wrongKept 15 = .ok (.iload_n 1, 1) := by decide +kernel
theorem dX12_wrongKept_16 : decode cX12_wrongKept 16 = .ok (.iaload, 1) := by decide +kernel
theorem dX12_wrongKept_17 : decode cX12_wrongKept 17 = .ok (.ifCond .ne 8, 3) := by decide +kernel
theorem dX12_wrongKept_20 : decode cX12_wrongKept 20 = .ok (.bipush (-11), 2) := by decide +kernel
theorem dX12_wrongKept_22 : decode cX12_wrongKept 22 = .ok (.goto 19, 3) := by decide +kernel
theorem dX12_wrongKept_25 : decode cX12_wrongKept 25 = .ok (.aload_n 0, 1) := by decide +kernel
theorem dX12_wrongKept_26 : decode cX12_wrongKept 26 = .ok (.getfield 25, 3) := by decide +kernel
theorem dX12_wrongKept_29 : decode cX12_wrongKept 29 = .ok (.iload_n 1, 1) := by decide +kernel
theorem dX12_wrongKept_30 : decode cX12_wrongKept 30 = .ok (.iaload, 1) := by decide +kernel
theorem dX12_wrongKept_31 : decode cX12_wrongKept 31 = .ok (.iconst 2, 1) := by decide +kernel
theorem dX12_wrongKept_32 : decode cX12_wrongKept 32 = .ok (.if_icmp .ne 8, 3) := by decide +kernel
theorem dX12_wrongKept_35 : decode cX12_wrongKept 35 = .ok (.bipush (-12), 2) := by decide +kernel
theorem dX12_wrongKept_37 : decode cX12_wrongKept 37 = .ok (.goto 4, 3) := by decide +kernel
theorem dX12_wrongKept_40 : decode cX12_wrongKept 40 = .ok (.iconst 0, 1) := by decide +kernel
theorem dX12_wrongKept_41 : decode cX12_wrongKept 41 = .ok (.ireturn, 1) := by decide +kernel
set_option maxRecDepth 20000 in
theorem ggX12_keep_X12_isShelf : GoodIn wsX12_keep wsX12_isShelf := goodIn_r _ [7, 8, 9, 6, 10] (by decide +kernel) (by decide +kernel)
set_option maxRecDepth 20000 in
theorem gX12_keep_X12_isShelf : GoodIn wsX12_keep (va_wsS RX12 242 yX12_isShelf wsX12_isShelf) := goodIn_app (goodIn_of _ (by decide +kernel)) ggX12_keep_X12_isShelf
set_option maxRecDepth 20000 in
theorem ggX12_keep_X12_isIn : GoodIn wsX12_keep wsX12_isIn := goodIn_r _ [10] (by decide +kernel) (by decide +kernel)
set_option maxRecDepth 20000 in
theorem gX12_keep_X12_isIn : GoodIn wsX12_keep (va_wsS RX12 43 yX12_isIn wsX12_isIn) := goodIn_app (goodIn_of _ (by decide +kernel)) ggX12_keep_X12_isIn
theorem dX12_keep_0 : decode cX12_keep 0 = .ok (.iload_n 1, 1) := by decide +kernel
theorem dX12_keep_1 : decode cX12_keep 1 = .ok (.invokestatic 242, 3) := by decide +kernel
theorem dX12_keep_4 : decode cX12_keep 4 = .ok (.ifCond .eq 38, 3) := by decide +kernel
theorem dX12_keep_7 : decode cX12_keep 7 = .ok (.iload_n 2, 1) := by decide +kernel
theorem dX12_keep_8 : decode cX12_keep 8 = .ok (.iconst 0, 1) := by decide +kernel
theorem dX12_keep_9 : decode cX12_keep 9 = .ok (.iconst 1, 1) := by decide +kernel
theorem dX12_keep_10 : decode cX12_keep 10 = .ok (.invokestatic 43, 3) := by decide +kernel
theorem dX12_keep_13 : decode cX12_keep 13 = .ok (.ifCond .eq 29, 3) := by decide +kernel
theorem dX12_keep_16 : decode cX12_keep 16 = .ok (.iload_n 2, 1) := by decide +kernel
theorem dX12_keep_17 : decode cX12_keep 17 = .ok (.iconst 1, 1) := by decide +kernel
theorem dX12_keep_18 : decode cX12_keep 18 = .ok (.if_icmp .ne 26, 3) := by decide +kernel
theorem dX12_keep_21 : decode cX12_keep 21 = .ok (.iload_n 3, 1) := by decide +kernel
theorem dX12_keep_22 : decode cX12_keep 22 = .ok (.iconst 0, 1) := by decide +kernel
theorem dX12_keep_23 : decode cX12_keep 23 = .ok (.bipush 7, 2) := by decide +kernel
theorem dX12_keep_25 : decode cX12_keep 25 = .ok (.invokestatic 43, 3) := by decide +kernel
theorem dX12_keep_28 : decode cX12_keep 28 = .ok (.ifCond .eq 14, 3) := by decide +kernel
theorem dX12_keep_31 : decode cX12_keep 31 = .ok (.iload 4, 2) := by decide +kernel
theorem dX12_keep_33 : decode cX12_keep 33 = .ok (.iconst 0, 1) := by decide +kernel
theorem dX12_keep_34 : decode cX12_keep 34 = .ok (.bipush 9, 2) := by decide +kernel
theorem dX12_keep_36 : decode cX12_keep 36 = .ok (.invokestatic 43, 3) := by decide +kernel
theorem dX12_keep_39 : decode cX12_keep 39 = .ok (.ifCond .ne 5, 3) := by decide +kernel
theorem dX12_keep_42 : decode cX12_keep 42 = .ok (.iconst (-1), 1) := by decide +kernel
theorem dX12_keep_43 : decode cX12_keep 43 = .ok (.ireturn, 1) := by decide +kernel
theorem dX12_keep_44 : decode cX12_keep 44 = .ok (.aload_n 0, 1) := by decide +kernel
theorem dX12_keep_45 : decode cX12_keep 45 = .ok (.getfield 25, 3) := by decide +kernel
theorem dX12_keep_48 : decode cX12_keep 48 = .ok (.iload_n 1, 1) := by decide +kernel
theorem dX12_keep_49 : decode cX12_keep 49 = .ok (.iload_n 2, 1) := by decide +kernel
theorem dX12_keep_50 : decode cX12_keep 50 = .ok (.iastore, 1) := by decide +kernel
theorem dX12_keep_51 : decode cX12_keep 51 = .ok (.aload_n 0, 1) := by decide +kernel
theorem dX12_keep_52 : decode cX12_keep 52 = .ok (.getfield 28, 3) := by decide +kernel
theorem dX12_keep_55 : decode cX12_keep 55 = .ok (.iload_n 1, 1) := by decide +kernel
theorem dX12_keep_56 : decode cX12_keep 56 = .ok (.iload_n 3, 1) := by decide +kernel
theorem dX12_keep_57 : decode cX12_keep 57 = .ok (.iastore, 1) := by decide +kernel
theorem dX12_keep_58 : decode cX12_keep 58 = .ok (.aload_n 0, 1) := by decide +kernel
theorem dX12_keep_59 : decode cX12_keep 59 = .ok (.getfield 31, 3) := by decide +kernel
theorem dX12_keep_62 : decode cX12_keep 62 = .ok (.iload_n 1, 1) := by decide +kernel
theorem dX12_keep_63 : decode cX12_keep 63 = .ok (.iload 4, 2) := by decide +kernel
theorem dX12_keep_65 : decode cX12_keep 65 = .ok (.iastore, 1) := by decide +kernel
theorem dX12_keep_66 : decode cX12_keep 66 = .ok (.iconst 0, 1) := by decide +kernel
theorem dX12_keep_67 : decode cX12_keep 67 = .ok (.ireturn, 1) := by decide +kernel
set_option maxRecDepth 20000 in
theorem ggX12_row_X12_isShelf : GoodIn wsX12_row wsX12_isShelf := goodIn_r _ [8, 9, 10, 7, 11] (by decide +kernel) (by decide +kernel)
set_option maxRecDepth 20000 in
theorem gX12_row_X12_isShelf : GoodIn wsX12_row (va_wsS RX12 242 yX12_isShelf wsX12_isShelf) := goodIn_app (goodIn_of _ (by decide +kernel)) ggX12_row_X12_isShelf
set_option maxRecDepth 20000 in
theorem ggX12_row_X12_isIn : GoodIn wsX12_row wsX12_isIn := goodIn_r _ [11] (by decide +kernel) (by decide +kernel)
set_option maxRecDepth 20000 in
theorem gX12_row_X12_isIn : GoodIn wsX12_row (va_wsS RX12 43 yX12_isIn wsX12_isIn) := goodIn_app (goodIn_of _ (by decide +kernel)) ggX12_row_X12_isIn
theorem dX12_row_0 : decode cX12_row 0 = .ok (.iload_n 1, 1) := by decide +kernel
theorem dX12_row_1 : decode cX12_row 1 = .ok (.invokestatic 242, 3) := by decide +kernel
theorem dX12_row_4 : decode cX12_row 4 = .ok (.ifCond .eq 18, 3) := by decide +kernel
theorem dX12_row_7 : decode cX12_row 7 = .ok (.iload_n 2, 1) := by decide +kernel
theorem dX12_row_8 : decode cX12_row 8 = .ok (.iconst 0, 1) := by decide +kernel
theorem dX12_row_9 : decode cX12_row 9 = .ok (.iconst 2, 1) := by decide +kernel
theorem dX12_row_10 : decode cX12_row 10 = .ok (.invokestatic 43, 3) := by decide +kernel
theorem dX12_row_13 : decode cX12_row 13 = .ok (.ifCond .eq 9, 3) := by decide +kernel
theorem dX12_row_16 : decode cX12_row 16 = .ok (.iload_n 3, 1) := by decide +kernel
theorem dX12_row_17 : decode cX12_row 17 = .ok (.bipush 100, 2) := by decide +kernel
theorem dX12_row_19 : decode cX12_row 19 = .ok (.if_icmp .le 5, 3) := by decide +kernel
theorem dX12_row_22 : decode cX12_row 22 = .ok (.iconst (-1), 1) := by decide +kernel
theorem dX12_row_23 : decode cX12_row 23 = .ok (.ireturn, 1) := by decide +kernel
theorem dX12_row_24 : decode cX12_row 24 = .ok (.iload_n 3, 1) := by decide +kernel
theorem dX12_row_25 : decode cX12_row 25 = .ok (.ifCond .ge 6, 3) := by decide +kernel
theorem dX12_row_28 : decode cX12_row 28 = .ok (.bipush (-14), 2) := by decide +kernel
theorem dX12_row_30 : decode cX12_row 30 = .ok (.ireturn, 1) := by decide +kernel
theorem dX12_row_31 : decode cX12_row 31 = .ok (.aload_n 0, 1) := by decide +kernel
theorem dX12_row_32 : decode cX12_row 32 = .ok (.getfield 25, 3) := by decide +kernel
theorem dX12_row_35 : decode cX12_row 35 = .ok (.iload_n 1, 1) := by decide +kernel
theorem dX12_row_36 : decode cX12_row 36 = .ok (.iconst 2, 1) := by decide +kernel
theorem dX12_row_37 : decode cX12_row 37 = .ok (.iastore, 1) := by decide +kernel
theorem dX12_row_38 : decode cX12_row 38 = .ok (.aload_n 0, 1) := by decide +kernel
theorem dX12_row_39 : decode cX12_row 39 = .ok (.getfield 34, 3) := by decide +kernel
theorem dX12_row_42 : decode cX12_row 42 = .ok (.iload_n 1, 1) := by decide +kernel
theorem dX12_row_43 : decode cX12_row 43 = .ok (.iload_n 2, 1) := by decide +kernel
theorem dX12_row_44 : decode cX12_row 44 = .ok (.iastore, 1) := by decide +kernel
theorem dX12_row_45 : decode cX12_row 45 = .ok (.aload_n 0, 1) := by decide +kernel
theorem dX12_row_46 : decode cX12_row 46 = .ok (.getfield 37, 3) := by decide +kernel
theorem dX12_row_49 : decode cX12_row 49 = .ok (.iload_n 1, 1) := by decide +kernel
theorem dX12_row_50 : decode cX12_row 50 = .ok (.iload_n 3, 1) := by decide +kernel
theorem dX12_row_51 : decode cX12_row 51 = .ok (.iastore, 1) := by decide +kernel
theorem dX12_row_52 : decode cX12_row 52 = .ok (.iconst 0, 1) := by decide +kernel
theorem dX12_row_53 : decode cX12_row 53 = .ok (.istore 4, 2) := by decide +kernel
theorem dX12_row_55 : decode cX12_row 55 = .ok (.iload 4, 2) := by decide +kernel
theorem dX12_row_57 : decode cX12_row 57 = .ok (.bipush 100, 2) := by decide +kernel
theorem dX12_row_59 : decode cX12_row 59 = .ok (.if_icmp .ge 22, 3) := by decide +kernel
theorem dX12_row_62 : decode cX12_row 62 = .ok (.aload_n 0, 1) := by decide +kernel
theorem dX12_row_63 : decode cX12_row 63 = .ok (.getfield 40, 3) := by decide +kernel
theorem dX12_row_66 : decode cX12_row 66 = .ok (.bipush 100, 2) := by decide +kernel
theorem dX12_row_68 : decode cX12_row 68 = .ok (.iload_n 1, 1) := by decide +kernel
theorem dX12_row_69 : decode cX12_row 69 = .ok (.imul, 1) := by decide +kernel
theorem dX12_row_70 : decode cX12_row 70 = .ok (.iload 4, 2) := by decide +kernel
theorem dX12_row_72 : decode cX12_row 72 = .ok (.iadd, 1) := by decide +kernel
theorem dX12_row_73 : decode cX12_row 73 = .ok (.iconst 0, 1) := by decide +kernel
theorem dX12_row_74 : decode cX12_row 74 = .ok (.iastore, 1) := by decide +kernel
theorem dX12_row_75 : decode cX12_row 75 = .ok (.iinc 4 1, 3) := by decide +kernel
theorem dX12_row_78 : decode cX12_row 78 = .ok (.goto (-23), 3) := by decide +kernel
theorem dX12_row_81 : decode cX12_row 81 = .ok (.iconst 0, 1) := by decide +kernel
theorem dX12_row_82 : decode cX12_row 82 = .ok (.ireturn, 1) := by decide +kernel
set_option maxRecDepth 20000 in
theorem ggX12_put_X12_wrongRow : GoodIn wsX12_put wsX12_wrongRow := goodIn_r _ [8, 9, 3, 10, 11, 7, 12, 13, 14, 15, 16, 17, 18, 19, 20, 21, 22, 23, 24, 25, 26, 27, 28, 29, 30, 31, 32] (by decide +kernel) (by decide +kernel)
set_option maxRecDepth 20000 in
theorem gX12_put_X12_wrongRow : GoodIn wsX12_put (wsV RX12 130 RX12 yX12_wrongRow wsX12_wrongRow) := goodIn_app (goodIn_of _ (by decide +kernel)) ggX12_put_X12_wrongRow
set_option maxRecDepth 20000 in
theorem ggX12_put_X12_isIn : GoodIn wsX12_put wsX12_isIn := goodIn_r _ [15] (by decide +kernel) (by decide +kernel)
set_option maxRecDepth 20000 in
theorem gX12_put_X12_isIn : GoodIn wsX12_put (va_wsS RX12 43 yX12_isIn wsX12_isIn) := goodIn_app (goodIn_of _ (by decide +kernel)) ggX12_put_X12_isIn
theorem dX12_put_0 : decode cX12_put 0 = .ok (.aload_n 0, 1) := by decide +kernel
theorem dX12_put_1 : decode cX12_put 1 = .ok (.iload_n 1, 1) := by decide +kernel
theorem dX12_put_2 : decode cX12_put 2 = .ok (.iconst (-1), 1) := by decide +kernel
theorem dX12_put_3 : decode cX12_put 3 = .ok (.invokevirtual 130, 3) := by decide +kernel
theorem dX12_put_6 : decode cX12_put 6 = .ok (.istore 4, 2) := by decide +kernel
theorem dX12_put_8 : decode cX12_put 8 = .ok (.iload 4, 2) := by decide +kernel
theorem dX12_put_10 : decode cX12_put 10 = .ok (.ifCond .eq 6, 3) := by decide +kernel
theorem dX12_put_13 : decode cX12_put 13 = .ok (.iload 4, 2) := by decide +kernel
theorem dX12_put_15 : decode cX12_put 15 = .ok (.ireturn, 1) := by decide +kernel
theorem dX12_put_16 : decode cX12_put 16 = .ok (.iload_n 2, 1) := by decide +kernel
theorem dX12_put_17 : decode cX12_put 17 = .ok (.iconst 0, 1) := by decide +kernel
theorem dX12_put_18 : decode cX12_put 18 = .ok (.aload_n 0, 1) := by decide +kernel
theorem dX12_put_19 : decode cX12_put 19 = .ok (.getfield 37, 3) := by decide +kernel
theorem dX12_put_22 : decode cX12_put 22 = .ok (.iload_n 1, 1) := by decide +kernel
theorem dX12_put_23 : decode cX12_put 23 = .ok (.iaload, 1) := by decide +kernel
theorem dX12_put_24 : decode cX12_put 24 = .ok (.iconst 1, 1) := by decide +kernel
theorem dX12_put_25 : decode cX12_put 25 = .ok (.isub, 1) := by decide +kernel
theorem dX12_put_26 : decode cX12_put 26 = .ok (.invokestatic 43, 3) := by decide +kernel
theorem dX12_put_29 : decode cX12_put 29 = .ok (.ifCond .ne 6, 3) := by decide +kernel
theorem dX12_put_32 : decode cX12_put 32 = .ok (.bipush (-13), 2) := by decide +kernel
theorem dX12_put_34 : decode cX12_put 34 = .ok (.ireturn, 1) := by decide +kernel
theorem dX12_put_35 : decode cX12_put 35 = .ok (.aload_n 0, 1) := by decide +kernel
theorem dX12_put_36 : decode cX12_put 36 = .ok (.getfield 40, 3) := by decide +kernel
theorem dX12_put_39 : decode cX12_put 39 = .ok (.bipush 100, 2) := by decide +kernel
theorem dX12_put_41 : decode cX12_put 41 = .ok (.iload_n 1, 1) := by decide +kernel
theorem dX12_put_42 : decode cX12_put 42 = .ok (.imul, 1) := by decide +kernel
theorem dX12_put_43 : decode cX12_put 43 = .ok (.iload_n 2, 1) := by decide +kernel
theorem dX12_put_44 : decode cX12_put 44 = .ok (.iadd, 1) := by decide +kernel
theorem dX12_put_45 : decode cX12_put 45 = .ok (.aload_n 0, 1) := by decide +kernel
theorem dX12_put_46 : decode cX12_put 46 = .ok (.getfield 34, 3) := by decide +kernel
theorem dX12_put_49 : decode cX12_put 49 = .ok (.iload_n 1, 1) := by decide +kernel
theorem dX12_put_50 : decode cX12_put 50 = .ok (.iaload, 1) := by decide +kernel
theorem dX12_put_51 : decode cX12_put 51 = .ok (.ifCond .ne 8, 3) := by decide +kernel
theorem dX12_put_54 : decode cX12_put 54 = .ok (.iload_n 3, 1) := by decide +kernel
theorem dX12_put_55 : decode cX12_put 55 = .ok (.i2b, 1) := by decide +kernel
theorem dX12_put_56 : decode cX12_put 56 = .ok (.goto 19, 3) := by decide +kernel
theorem dX12_put_59 : decode cX12_put 59 = .ok (.aload_n 0, 1) := by decide +kernel
theorem dX12_put_60 : decode cX12_put 60 = .ok (.getfield 34, 3) := by decide +kernel
theorem dX12_put_63 : decode cX12_put 63 = .ok (.iload_n 1, 1) := by decide +kernel
theorem dX12_put_64 : decode cX12_put 64 = .ok (.iaload, 1) := by decide +kernel
theorem dX12_put_65 : decode cX12_put 65 = .ok (.iconst 1, 1) := by decide +kernel
theorem dX12_put_66 : decode cX12_put 66 = .ok (.if_icmp .ne 8, 3) := by decide +kernel
theorem dX12_put_69 : decode cX12_put 69 = .ok (.iload_n 3, 1) := by decide +kernel
theorem dX12_put_70 : decode cX12_put 70 = .ok (.i2s, 1) := by decide +kernel
theorem dX12_put_71 : decode cX12_put 71 = .ok (.goto 4, 3) := by decide +kernel
theorem dX12_put_74 : decode cX12_put 74 = .ok (.iload_n 3, 1) := by decide +kernel
theorem dX12_put_75 : decode cX12_put 75 = .ok (.iastore, 1) := by decide +kernel
theorem dX12_put_76 : decode cX12_put 76 = .ok (.iconst 0, 1) := by decide +kernel
theorem dX12_put_77 : decode cX12_put 77 = .ok (.ireturn, 1) := by decide +kernel
set_option maxRecDepth 20000 in
theorem ggX12_element_X12_isShelf : GoodIn wsX12_element wsX12_isShelf := goodIn_r _ [8, 9, 10, 7, 11] (by decide +kernel) (by decide +kernel)
set_option maxRecDepth 20000 in
theorem gX12_element_X12_isShelf : GoodIn wsX12_element (va_wsS RX12 242 yX12_isShelf wsX12_isShelf) := goodIn_app (goodIn_of _ (by decide +kernel)) ggX12_element_X12_isShelf
set_option maxRecDepth 20000 in
theorem ggX12_element_X12_isIn : GoodIn wsX12_element wsX12_isIn := goodIn_r _ [11] (by decide +kernel) (by decide +kernel)
set_option maxRecDepth 20000 in
theorem gX12_element_X12_isIn : GoodIn wsX12_element (va_wsS RX12 43 yX12_isIn wsX12_isIn) := goodIn_app (goodIn_of _ (by decide +kernel)) ggX12_element_X12_isIn
theorem dX12_element_0 : decode cX12_element 0 = .ok (.aload_n 0, 1) := by decide +kernel
theorem dX12_element_1 : decode cX12_element 1 = .ok (.iload_n 1, 1) := by decide +kernel
theorem dX12_element_2 : decode cX12_element 2 = .ok (.invokestatic 242, 3) := by decide +kernel
theorem dX12_element_5 : decode cX12_element 5 = .ok (.ifCond .ne 7, 3) := by decide +kernel
theorem dX12_element_8 : decode cX12_element 8 = .ok (.iconst 1, 1) := by decide +kernel
theorem dX12_element_9 : decode cX12_element 9 = .ok (.goto 34, 3) := by decide +kernel
theorem dX12_element_12 : decode cX12_element 12 = .ok (.aload_n 0, 1) := by decide +kernel
theorem dX12_element_13 : decode cX12_element 13 = .ok (.getfield 25, 3) := by decide +kernel
theorem dX12_element_16 : decode cX12_element 16 = .ok (.iload_n 1, 1) := by decide +kernel
theorem dX12_element_17 : decode cX12_element 17 = .ok (.iaload, 1) := by decide +kernel
theorem dX12_element_18 : decode cX12_element 18 = .ok (.iconst 2, 1) := by decide +kernel
theorem dX12_element_19 : decode cX12_element 19 = .ok (.if_icmp .ne 19, 3) := by decide +kernel
theorem dX12_element_22 : decode cX12_element 22 = .ok (.iload_n 2, 1) := by decide +kernel
theorem dX12_element_23 : decode cX12_element 23 = .ok (.iconst 0, 1) := by decide +kernel
theorem dX12_element_24 : decode cX12_element 24 = .ok (.aload_n 0, 1) := by decide +kernel
theorem dX12_element_25 : decode cX12_element 25 = .ok (.getfield 37, 3) := by decide +kernel
theorem dX12_element_28 : decode cX12_element 28 = .ok (.iload_n 1, 1) := by decide +kernel
theorem dX12_element_29 : decode cX12_element 29 = .ok (.iaload, 1) := by decide +kernel
theorem dX12_element_30 : decode cX12_element 30 = .ok (.iconst 1, 1) := by decide +kernel
theorem dX12_element_31 : decode cX12_element 31 = .ok (.isub, 1) := by decide +kernel
theorem dX12_element_32 : decode cX12_element 32 = .ok (.invokestatic 43, 3) := by decide +kernel
theorem dX12_element_35 : decode cX12_element 35 = .ok (.ifCond .ne 7, 3) := by decide +kernel
theorem dX12_element_38 : decode cX12_element 38 = .ok (.iconst 2, 1) := by decide +kernel
theorem dX12_element_39 : decode cX12_element 39 = .ok (.goto 4, 3) := by decide +kernel
theorem dX12_element_42 : decode cX12_element 42 = .ok (.iconst 0, 1) := by decide +kernel
theorem dX12_element_43 : decode cX12_element 43 = .ok (.putfield 239, 3) := by decide +kernel
theorem dX12_element_46 : decode cX12_element 46 = .ok (.aload_n 0, 1) := by decide +kernel
theorem dX12_element_47 : decode cX12_element 47 = .ok (.getfield 239, 3) := by decide +kernel
theorem dX12_element_50 : decode cX12_element 50 = .ok (.ifCond .ne 18, 3) := by decide +kernel
theorem dX12_element_53 : decode cX12_element 53 = .ok (.aload_n 0, 1) := by decide +kernel
theorem dX12_element_54 : decode cX12_element 54 = .ok (.getfield 40, 3) := by decide +kernel
theorem dX12_element_57 : decode cX12_element 57 = .ok (.bipush 100, 2) := by decide +kernel
theorem dX12_element_59 : decode cX12_element 59 = .ok (.iload_n 1, 1) := by decide +kernel
theorem dX12_element_60 : decode cX12_element 60 = .ok (.imul, 1) := by decide +kernel
theorem dX12_element_61 : decode cX12_element 61 = .ok (.iload_n 2, 1) := by decide +kernel
theorem dX12_element_62 : decode cX12_element 62 = .ok (.iadd, 1) := by decide +kernel
theorem dX12_element_63 : decode cX12_element 63 = .ok (.iaload, 1) := by decide +kernel
theorem dX12_element_64 : decode cX12_element 64 = .ok (.i2l, 1) := by decide +kernel
theorem dX12_element_65 : decode cX12_element 65 = .ok (.goto 4, 3) := by decide +kernel
theorem dX12_element_68 : decode cX12_element 68 = .ok (.lconst 0, 1) := by decide +kernel
theorem dX12_element_69 : decode cX12_element 69 = .ok (.lreturn, 1) := by decide +kernel
set_option maxRecDepth 20000 in
theorem ggX12_copy_X12_isShelf : GoodIn wsX12_copy wsX12_isShelf := goodIn_r _ [8, 9, 10, 7, 11] (by decide +kernel) (by decide +kernel)
set_option maxRecDepth 20000 in
theorem gX12_copy_X12_isShelf : GoodIn wsX12_copy (va_wsS RX12 242 yX12_isShelf wsX12_isShelf) := goodIn_app (goodIn_of _ (by decide +kernel)) ggX12_copy_X12_isShelf
theorem dX12_copy_0 : decode cX12_copy 0 = .ok (.iload_n 1, 1) := by decide +kernel
theorem dX12_copy_1 : decode cX12_copy 1 = .ok (.invokestatic 242, 3) := by decide +kernel
theorem dX12_copy_4 : decode cX12_copy 4 = .ok (.ifCond .eq 10, 3) := by decide +kernel
theorem dX12_copy_7 : decode cX12_copy 7 = .ok (.iload_n 3, 1) := by decide +kernel
theorem dX12_copy_8 : decode cX12_copy 8 = .ok (.invokestatic 242, 3) := by decide +kernel
theorem dX12_copy_11 : decode cX12_copy 11 = .ok (.ifCond .ne 5, 3) := by decide +kernel
theorem dX12_copy_14 : decode cX12_copy 14 = .ok (.iconst (-1), 1) := by decide +kernel
theorem dX12_copy_15 : decode cX12_copy 15 = .ok (.ireturn, 1) := by decide +kernel
theorem dX12_copy_16 : decode cX12_copy 16 = .ok (.aload_n 0, 1) := by decide +kernel
theorem dX12_copy_17 : decode cX12_copy 17 = .ok (.getfield 25, 3) := by decide +kernel
theorem dX12_copy_20 : decode cX12_copy 20 = .ok (.iload_n 1, 1) := by decide +kernel
theorem dX12_copy_21 : decode cX12_copy 21 = .ok (.iaload, 1) := by decide +kernel
theorem dX12_copy_22 : decode cX12_copy 22 = .ok (.ifCond .eq 12, 3) := by decide +kernel
theorem dX12_copy_25 : decode cX12_copy 25 = .ok (.aload_n 0, 1) := by decide +kernel
theorem dX12_copy_26 : decode cX12_copy 26 = .ok (.getfield 25, 3) := by decide +kernel
theorem dX12_copy_29 : decode cX12_copy 29 = .ok (.iload_n 3, 1) := by decide +kernel
theorem dX12_copy_30 : decode cX12_copy 30 = .ok (.iaload, 1) := by decide +kernel
theorem dX12_copy_31 : decode cX12_copy 31 = .ok (.ifCond .ne 6, 3) := by decide +kernel
theorem dX12_copy_34 : decode cX12_copy 34 = .ok (.bipush (-11), 2) := by decide +kernel
theorem dX12_copy_36 : decode cX12_copy 36 = .ok (.ireturn, 1) := by decide +kernel
theorem dX12_copy_37 : decode cX12_copy 37 = .ok (.aload_n 0, 1) := by decide +kernel
theorem dX12_copy_38 : decode cX12_copy 38 = .ok (.getfield 25, 3) := by decide +kernel
theorem dX12_copy_41 : decode cX12_copy 41 = .ok (.iload_n 1, 1) := by decide +kernel
theorem dX12_copy_42 : decode cX12_copy 42 = .ok (.iaload, 1) := by decide +kernel
theorem dX12_copy_43 : decode cX12_copy 43 = .ok (.iconst 2, 1) := by decide +kernel
theorem dX12_copy_44 : decode cX12_copy 44 = .ok (.if_icmp .ne 28, 3) := by decide +kernel
theorem dX12_copy_47 : decode cX12_copy 47 = .ok (.aload_n 0, 1) := by decide +kernel
theorem dX12_copy_48 : decode cX12_copy 48 = .ok (.getfield 25, 3) := by decide +kernel
theorem dX12_copy_51 : decode cX12_copy 51 = .ok (.iload_n 3, 1) := by decide +kernel
theorem dX12_copy_52 : decode cX12_copy 52 = .ok (.iaload, 1) := by decide +kernel
theorem dX12_copy_53 : decode cX12_copy 53 = .ok (.iconst 2, 1) := by decide +kernel
theorem dX12_copy_54 : decode cX12_copy 54 = .ok (.if_icmp .ne 18, 3) := by decide +kernel
theorem dX12_copy_57 : decode cX12_copy 57 = .ok (.aload_n 0, 1) := by decide +kernel
theorem dX12_copy_58 : decode cX12_copy 58 = .ok (.getfield 34, 3) := by decide +kernel
theorem dX12_copy_61 : decode cX12_copy 61 = .ok (.iload_n 1, 1) := by decide +kernel
theorem dX12_copy_62 : decode cX12_copy 62 = .ok (.iaload, 1) := by decide +kernel
theorem dX12_copy_63 : decode cX12_copy 63 = .ok (.aload_n 0, 1) := by decide +kernel
theorem dX12_copy_64 : decode cX12_copy 64 = .ok (.getfield 34, 3) := by decide +kernel
theorem dX12_copy_67 : decode cX12_copy 67 = .ok (.iload_n 3, 1) := by decide +kernel
theorem dX12_copy_68 : decode cX12_copy 68 = .ok (.iaload, 1) := by decide +kernel
theorem dX12_copy_69 : decode cX12_copy 69 = .ok (.if_icmp .eq 6, 3) := by decide +kernel
theorem dX12_copy_72 : decode cX12_copy 72 = .ok (.bipush (-12), 2) := by decide +kernel
theorem dX12_copy_74 : decode cX12_copy 74 = .ok (.ireturn, 1) := by decide +kernel
theorem dX12_copy_75 : decode cX12_copy 75 = .ok (.iload 5, 2) := by decide +kernel
theorem dX12_copy_77 : decode cX12_copy 77 = .ok (.ifCond .lt 39, 3) := by decide +kernel
theorem dX12_copy_80 : decode cX12_copy 80 = .ok (.iload_n 2, 1) := by decide +kernel
theorem dX12_copy_81 : decode cX12_copy 81 = .ok (.ifCond .lt 35, 3) := by decide +kernel
theorem dX12_copy_84 : decode cX12_copy 84 = .ok (.iload 4, 2) := by decide +kernel
theorem dX12_copy_86 : decode cX12_copy 86 = .ok (.ifCond .lt 30, 3) := by decide +kernel
theorem dX12_copy_89 : decode cX12_copy 89 = .ok (.iload 5, 2) := by decide +kernel
theorem dX12_copy_91 : decode cX12_copy 91 = .ok (.aload_n 0, 1) := by decide +kernel
theorem dX12_copy_92 : decode cX12_copy 92 = .ok (.getfield 37, 3) := by decide +kernel
theorem dX12_copy_95 : decode cX12_copy 95 = .ok (.iload_n 1, 1) := by decide +kernel
theorem dX12_copy_96 : decode cX12_copy 96 = .ok (.iaload, 1) := by decide +kernel
theorem dX12_copy_97 : decode cX12_copy 97 = .ok (.iload_n 2, 1) := by decide +kernel
theorem dX12_copy_98 : decode cX12_copy 98 = .ok (.isub, 1) := by decide +kernel
theorem dX12_copy_99 : decode cX12_copy 99 = .ok (.if_icmp .gt 17, 3) := by decide +kernel
theorem dX12_copy_102 : decode cX12_copy 102 = .ok (.iload 5, 2) := by decide +kernel
theorem dX12_copy_104 : decode cX12_copy 104 = .ok (.aload_n 0, 1) := by decide +kernel
theorem dX12_copy_105 : decode cX12_copy 105 = .ok (.getfield 37, 3) := by decide +kernel
theorem dX12_copy_108 : decode cX12_copy 108 = .ok (.iload_n 3, 1) := by decide +kernel
theorem dX12_copy_109 : decode cX12_copy 109 = .ok (.iaload, 1) := by decide +kernel
theorem dX12_copy_110 : decode cX12_copy 110 = .ok (.iload 4, 2) := by decide +kernel
theorem dX12_copy_112 : decode cX12_copy 112 = .ok (.isub, 1) := by decide +kernel
theorem dX12_copy_113 : decode cX12_copy 113 = .ok (.if_icmp .le 6, 3) := by decide +kernel
theorem dX12_copy_116 : decode cX12_copy 116 = .ok (.bipush (-13), 2) := by decide +kernel
theorem dX12_copy_118 : decode cX12_copy 118 = .ok (.ireturn, 1) := by decide +kernel
theorem dX12_copy_119 : decode cX12_copy 119 = .ok (.iconst 0, 1) := by decide +kernel
theorem dX12_copy_120 : decode cX12_copy 120 = .ok (.istore 6, 2) := by decide +kernel
theorem dX12_copy_122 : decode cX12_copy 122 = .ok (.iload 6, 2) := by decide +kernel
theorem dX12_copy_124 : decode cX12_copy 124 = .ok (.iload 5, 2) := by decide +kernel
theorem dX12_copy_126 : decode cX12_copy 126 = .ok (.if_icmp .ge 58, 3) := by decide +kernel
theorem dX12_copy_129 : decode cX12_copy 129 = .ok (.iload_n 2, 1) := by decide +kernel
theorem dX12_copy_130 : decode cX12_copy 130 = .ok (.iload 4, 2) := by decide +kernel
theorem dX12_copy_132 : decode cX12_copy 132 = .ok (.if_icmp .le 8, 3) := by decide +kernel
theorem dX12_copy_135 : decode cX12_copy 135 = .ok (.iload 6, 2) := by decide +kernel
theorem dX12_copy_137 : decode cX12_copy 137 = .ok (.goto 10, 3) := by decide +kernel
theorem dX12_copy_140 : decode cX12_copy 140 = .ok (.iload 5, 2) := by decide +kernel
theorem dX12_copy_142 : decode cX12_copy 142 = .ok (.iconst 1, 1) := by decide +kernel
theorem dX12_copy_143 : decode cX12_copy 143 = .ok (.isub, 1) := by decide +kernel
theorem dX12_copy_144 : decode cX12_copy 144 = .ok (.iload 6, 2) := by decide +kernel
theorem dX12_copy_146 : decode cX12_copy 146 = .ok (.isub, 1) := by decide +kernel
theorem dX12_copy_147 : decode cX12_copy 147 = .ok (.istore 7, 2) := by decide +kernel
theorem dX12_copy_149 : decode cX12_copy 149 = .ok (.aload_n 0, 1) := by decide +kernel
theorem dX12_copy_150 : decode cX12_copy 150 = .ok (.getfield 40, 3) := by decide +kernel
theorem dX12_copy_153 : decode cX12_copy 153 = .ok (.bipush 100, 2) := by decide +kernel
theorem dX12_copy_155 : decode cX12_copy 155 = .ok (.iload_n 3, 1) := by decide +kernel
theorem dX12_copy_156 : decode cX12_copy 156 = .ok (.imul, 1) := by decide +kernel
theorem dX12_copy_157 : decode cX12_copy 157 = .ok (.iload 4, 2) := by decide +kernel
theorem dX12_copy_159 : decode cX12_copy 159 = .ok (.iadd, 1) := by decide +kernel
theorem dX12_copy_160 : decode cX12_copy 160 = .ok (.iload 7, 2) := by decide +kernel
theorem dX12_copy_162 : decode cX12_copy 162 = .ok (.iadd, 1) := by decide +kernel
theorem dX12_copy_163 : decode cX12_copy 163 = .ok (.aload_n 0, 1) := by decide +kernel
theorem dX12_copy_164 : decode cX12_copy 164 = .ok (.getfield 40, 3) := by decide +kernel
theorem dX12_copy_167 : decode cX12_copy 167 = .ok (.bipush 100, 2) := by decide +kernel
theorem dX12_copy_169 : decode cX12_copy 169 = .ok (.iload_n 1, 1) := by decide +kernel
theorem dX12_copy_170 : decode cX12_copy 170 = .ok (.imul, 1) := by decide +kernel
theorem dX12_copy_171 : decode cX12_copy 171 = .ok (.iload_n 2, 1) := by decide +kernel
theorem dX12_copy_172 : decode cX12_copy 172 = .ok (.iadd, 1) := by decide +kernel
theorem dX12_copy_173 : decode cX12_copy 173 = .ok (.iload 7, 2) := by decide +kernel
theorem dX12_copy_175 : decode cX12_copy 175 = .ok (.iadd, 1) := by decide +kernel
theorem dX12_copy_176 : decode cX12_copy 176 = .ok (.iaload, 1) := by decide +kernel
theorem dX12_copy_177 : decode cX12_copy 177 = .ok (.iastore, 1) := by decide +kernel
theorem dX12_copy_178 : decode cX12_copy 178 = .ok (.iinc 6 1, 3) := by decide +kernel
theorem dX12_copy_181 : decode cX12_copy 181 = .ok (.goto (-59), 3) := by decide +kernel
theorem dX12_copy_184 : decode cX12_copy 184 = .ok (.iload 5, 2) := by decide +kernel
theorem dX12_copy_186 : decode cX12_copy 186 = .ok (.ireturn, 1) := by decide +kernel
theorem dX12_costBy_0 : decode cX12_costBy 0 = .ok (.iload_n 0, 1) := by decide +kernel
theorem dX12_costBy_1 : decode cX12_costBy 1 = .ok (.tableswitch 63 1 7 #[43, 47, 49, 51, 53, 59, 51], 43) := by decide +kernel
theorem dX12_costBy_44 : decode cX12_costBy 44 = .ok (.iconst 3, 1) := by decide +kernel
theorem dX12_costBy_45 : decode cX12_costBy 45 = .ok (.iload_n 1, 1) := by decide +kernel
theorem dX12_costBy_46 : decode cX12_costBy 46 = .ok (.iadd, 1) := by decide +kernel
theorem dX12_costBy_47 : decode cX12_costBy 47 = .ok (.ireturn, 1) := by decide +kernel
theorem dX12_costBy_48 : decode cX12_costBy 48 = .ok (.iconst 1, 1) := by decide +kernel
theorem dX12_costBy_49 : decode cX12_costBy 49 = .ok (.ireturn, 1) := by decide +kernel
theorem dX12_costBy_50 : decode cX12_costBy 50 = .ok (.iconst 5, 1) := by decide +kernel
theorem dX12_costBy_51 : decode cX12_costBy 51 = .ok (.ireturn, 1) := by decide +kernel
theorem dX12_costBy_52 : decode cX12_costBy 52 = .ok (.iconst 0, 1) := by decide +kernel
theorem dX12_costBy_53 : decode cX12_costBy 53 = .ok (.ireturn, 1) := by decide +kernel
theorem dX12_costBy_54 : decode cX12_costBy 54 = .ok (.iconst 2, 1) := by decide +kernel
theorem dX12_costBy_55 : decode cX12_costBy 55 = .ok (.iconst 3, 1) := by decide +kernel
theorem dX12_costBy_56 : decode cX12_costBy 56 = .ok (.iload_n 1, 1) := by decide +kernel
theorem dX12_costBy_57 : decode cX12_costBy 57 = .ok (.iadd, 1) := by decide +kernel
theorem dX12_costBy_58 : decode cX12_costBy 58 = .ok (.imul, 1) := by decide +kernel
theorem dX12_costBy_59 : decode cX12_costBy 59 = .ok (.ireturn, 1) := by decide +kernel
theorem dX12_costBy_60 : decode cX12_costBy 60 = .ok (.iconst 5, 1) := by decide +kernel
theorem dX12_costBy_61 : decode cX12_costBy 61 = .ok (.iload_n 1, 1) := by decide +kernel
theorem dX12_costBy_62 : decode cX12_costBy 62 = .ok (.iadd, 1) := by decide +kernel
theorem dX12_costBy_63 : decode cX12_costBy 63 = .ok (.ireturn, 1) := by decide +kernel
theorem dX12_costBy_64 : decode cX12_costBy 64 = .ok (.iconst 3, 1) := by decide +kernel
theorem dX12_costBy_65 : decode cX12_costBy 65 = .ok (.ireturn, 1) := by decide +kernel
set_option maxRecDepth 20000 in
theorem ggX12_cost_X12_wrongKept : GoodIn wsX12_cost wsX12_wrongKept := goodIn_r _ [7, 8, 9, 10, 6, 11, 12, 13, 14, 18, 19, 20, 21, 22, 23, 24, 25, 26, 27, 28, 29, 30, 31, 32, 33, 34] (by decide +kernel) (by decide +kernel)
set_option maxRecDepth 20000 in
theorem gX12_cost_X12_wrongKept : GoodIn wsX12_cost (wsV RX12 144 RX12 yX12_wrongKept wsX12_wrongKept) := goodIn_app (goodIn_of _ (by decide +kernel)) ggX12_cost_X12_wrongKept
set_option maxRecDepth 20000 in
theorem ggX12_cost_X12_costBy : GoodIn wsX12_cost wsX12_costBy := goodIn_r _ [17] (by decide +kernel) (by decide +kernel)
set_option maxRecDepth 20000 in
theorem gX12_cost_X12_costBy : GoodIn wsX12_cost (va_wsS RX12 245 yX12_costBy wsX12_costBy) := goodIn_app (goodIn_of _ (by decide +kernel)) ggX12_cost_X12_costBy
theorem dX12_cost_0 : decode cX12_cost 0 = .ok (.aload_n 0, 1) := by decide +kernel
theorem dX12_cost_1 : decode cX12_cost 1 = .ok (.iload_n 1, 1) := by decide +kernel
theorem dX12_cost_2 : decode cX12_cost 2 = .ok (.invokevirtual 144, 3) := by decide +kernel
theorem dX12_cost_5 : decode cX12_cost 5 = .ok (.istore_n 2, 1) := by decide +kernel
theorem dX12_cost_6 : decode cX12_cost 6 = .ok (.iload_n 2, 1) := by decide +kernel
theorem dX12_cost_7 : decode cX12_cost 7 = .ok (.ifCond .eq 7, 3) := by decide +kernel
theorem dX12_cost_10 : decode cX12_cost 10 = .ok (.iload_n 2, 1) := by decide +kernel
theorem dX12_cost_11 : decode cX12_cost 11 = .ok (.goto 18, 3) := by decide +kernel
theorem dX12_cost_14 : decode cX12_cost 14 = .ok (.aload_n 0, 1) := by decide +kernel
theorem dX12_cost_15 : decode cX12_cost 15 = .ok (.getfield 28, 3) := by decide +kernel
theorem dX12_cost_18 : decode cX12_cost 18 = .ok (.iload_n 1, 1) := by decide +kernel
theorem dX12_cost_19 : decode cX12_cost 19 = .ok (.iaload, 1) := by decide +kernel
theorem dX12_cost_20 : decode cX12_cost 20 = .ok (.aload_n 0, 1) := by decide +kernel
theorem dX12_cost_21 : decode cX12_cost 21 = .ok (.getfield 31, 3) := by decide +kernel
theorem dX12_cost_24 : decode cX12_cost 24 = .ok (.iload_n 1, 1) := by decide +kernel
theorem dX12_cost_25 : decode cX12_cost 25 = .ok (.iaload, 1) := by decide +kernel
theorem dX12_cost_26 : decode cX12_cost 26 = .ok (.invokestatic 245, 3) := by decide +kernel
theorem dX12_cost_29 : decode cX12_cost 29 = .ok (.ireturn, 1) := by decide +kernel
set_option maxRecDepth 20000 in
theorem ggX12_toss_X12_wrongKept : GoodIn wsX12_toss wsX12_wrongKept := goodIn_r _ [7, 8, 9, 10, 6, 11, 12, 13, 14, 18, 19, 20, 21, 22, 23, 24, 25, 26, 27, 28, 29, 30, 31, 32, 33, 34] (by decide +kernel) (by decide +kernel)
set_option maxRecDepth 20000 in
theorem gX12_toss_X12_wrongKept : GoodIn wsX12_toss (wsV RX12 144 RX12 yX12_wrongKept wsX12_wrongKept) := goodIn_app (goodIn_of _ (by decide +kernel)) ggX12_toss_X12_wrongKept
set_option maxRecDepth 20000 in
theorem ggX12_toss_X12_costBy : GoodIn wsX12_toss wsX12_costBy := goodIn_r _ [17] (by decide +kernel) (by decide +kernel)
set_option maxRecDepth 20000 in
theorem gX12_toss_X12_costBy : GoodIn wsX12_toss (va_wsS RX12 245 yX12_costBy wsX12_costBy) := goodIn_app (goodIn_of _ (by decide +kernel)) ggX12_toss_X12_costBy
theorem dX12_toss_0 : decode cX12_toss 0 = .ok (.aload_n 0, 1) := by decide +kernel
theorem dX12_toss_1 : decode cX12_toss 1 = .ok (.iload_n 1, 1) := by decide +kernel
theorem dX12_toss_2 : decode cX12_toss 2 = .ok (.invokevirtual 144, 3) := by decide +kernel
theorem dX12_toss_5 : decode cX12_toss 5 = .ok (.istore_n 2, 1) := by decide +kernel
theorem dX12_toss_6 : decode cX12_toss 6 = .ok (.iload_n 2, 1) := by decide +kernel
theorem dX12_toss_7 : decode cX12_toss 7 = .ok (.ifCond .eq 5, 3) := by decide +kernel
theorem dX12_toss_10 : decode cX12_toss 10 = .ok (.iload_n 2, 1) := by decide +kernel
theorem dX12_toss_11 : decode cX12_toss 11 = .ok (.ireturn, 1) := by decide +kernel
theorem dX12_toss_12 : decode cX12_toss 12 = .ok (.aload_n 0, 1) := by decide +kernel
theorem dX12_toss_13 : decode cX12_toss 13 = .ok (.getfield 28, 3) := by decide +kernel
theorem dX12_toss_16 : decode cX12_toss 16 = .ok (.iload_n 1, 1) := by decide +kernel
theorem dX12_toss_17 : decode cX12_toss 17 = .ok (.iaload, 1) := by decide +kernel
theorem dX12_toss_18 : decode cX12_toss 18 = .ok (.istore_n 3, 1) := by decide +kernel
theorem dX12_toss_19 : decode cX12_toss 19 = .ok (.aload_n 0, 1) := by decide +kernel
theorem dX12_toss_20 : decode cX12_toss 20 = .ok (.getfield 31, 3) := by decide +kernel
theorem dX12_toss_23 : decode cX12_toss 23 = .ok (.iload_n 1, 1) := by decide +kernel
theorem dX12_toss_24 : decode cX12_toss 24 = .ok (.iaload, 1) := by decide +kernel
theorem dX12_toss_25 : decode cX12_toss 25 = .ok (.istore 4, 2) := by decide +kernel
theorem dX12_toss_27 : decode cX12_toss 27 = .ok (.iload_n 3, 1) := by decide +kernel
theorem dX12_toss_28 : decode cX12_toss 28 = .ok (.iconst 2, 1) := by decide +kernel
theorem dX12_toss_29 : decode cX12_toss 29 = .ok (.if_icmp .eq 19, 3) := by decide +kernel
theorem dX12_toss_32 : decode cX12_toss 32 = .ok (.iload_n 3, 1) := by decide +kernel
theorem dX12_toss_33 : decode cX12_toss 33 = .ok (.iconst 4, 1) := by decide +kernel
theorem dX12_toss_34 : decode cX12_toss 34 = .ok (.if_icmp .eq 14, 3) := by decide +kernel
theorem dX12_toss_37 : decode cX12_toss 37 = .ok (.iload_n 3, 1) := by decide +kernel
theorem dX12_toss_38 : decode cX12_toss 38 = .ok (.bipush 7, 2) := by decide +kernel
theorem dX12_toss_40 : decode cX12_toss 40 = .ok (.if_icmp .eq 8, 3) := by decide +kernel
theorem dX12_toss_43 : decode cX12_toss 43 = .ok (.iload 4, 2) := by decide +kernel
theorem dX12_toss_45 : decode cX12_toss 45 = .ok (.ifCond .ne 6, 3) := by decide +kernel
theorem dX12_toss_48 : decode cX12_toss 48 = .ok (.bipush (-15), 2) := by decide +kernel
theorem dX12_toss_50 : decode cX12_toss 50 = .ok (.ireturn, 1) := by decide +kernel
theorem dX12_toss_51 : decode cX12_toss 51 = .ok (.iload_n 3, 1) := by decide +kernel
theorem dX12_toss_52 : decode cX12_toss 52 = .ok (.bipush 6, 2) := by decide +kernel
theorem dX12_toss_54 : decode cX12_toss 54 = .ok (.if_icmp .ne 16, 3) := by decide +kernel
theorem dX12_toss_57 : decode cX12_toss 57 = .ok (.sipush 200, 3) := by decide +kernel
theorem dX12_toss_60 : decode cX12_toss 60 = .ok (.iload_n 3, 1) := by decide +kernel
theorem dX12_toss_61 : decode cX12_toss 61 = .ok (.iload 4, 2) := by decide +kernel
theorem dX12_toss_63 : decode cX12_toss 63 = .ok (.invokestatic 245, 3) := by decide +kernel
theorem dX12_toss_66 : decode cX12_toss 66 = .ok (.iadd, 1) := by decide +kernel
theorem dX12_toss_67 : decode cX12_toss 67 = .ok (.goto 23, 3) := by decide +kernel
theorem dX12_toss_70 : decode cX12_toss 70 = .ok (.iload_n 3, 1) := by decide +kernel
theorem dX12_toss_71 : decode cX12_toss 71 = .ok (.iconst 1, 1) := by decide +kernel
theorem dX12_toss_72 : decode cX12_toss 72 = .ok (.if_icmp .eq 8, 3) := by decide +kernel
theorem dX12_toss_75 : decode cX12_toss 75 = .ok (.iload_n 3, 1) := by decide +kernel
theorem dX12_toss_76 : decode cX12_toss 76 = .ok (.iconst 5, 1) := by decide +kernel
theorem dX12_toss_77 : decode cX12_toss 77 = .ok (.if_icmp .ne 11, 3) := by decide +kernel
theorem dX12_toss_80 : decode cX12_toss 80 = .ok (.bipush 100, 2) := by decide +kernel
theorem dX12_toss_82 : decode cX12_toss 82 = .ok (.iload 4, 2) := by decide +kernel
theorem dX12_toss_84 : decode cX12_toss 84 = .ok (.iadd, 1) := by decide +kernel
theorem dX12_toss_85 : decode cX12_toss 85 = .ok (.goto 5, 3) := by decide +kernel
theorem dX12_toss_88 : decode cX12_toss 88 = .ok (.iload 4, 2) := by decide +kernel
theorem dX12_toss_90 : decode cX12_toss 90 = .ok (.ireturn, 1) := by decide +kernel
theorem dJ6_numberOfTrailingZeros_0f7a4_0 : decode cJ6_numberOfTrailingZeros_0f7a4 0 = .ok (.iload_n 0, 1) := by decide +kernel
theorem dJ6_numberOfTrailingZeros_0f7a4_1 : decode cJ6_numberOfTrailingZeros_0f7a4 1 = .ok (.iconst (-1), 1) := by decide +kernel
theorem dJ6_numberOfTrailingZeros_0f7a4_2 : decode cJ6_numberOfTrailingZeros_0f7a4 2 = .ok (.ixor, 1) := by decide +kernel
theorem dJ6_numberOfTrailingZeros_0f7a4_3 : decode cJ6_numberOfTrailingZeros_0f7a4 3 = .ok (.iload_n 0, 1) := by decide +kernel
theorem dJ6_numberOfTrailingZeros_0f7a4_4 : decode cJ6_numberOfTrailingZeros_0f7a4 4 = .ok (.iconst 1, 1) := by decide +kernel
theorem dJ6_numberOfTrailingZeros_0f7a4_5 : decode cJ6_numberOfTrailingZeros_0f7a4 5 = .ok (.isub, 1) := by decide +kernel
theorem dJ6_numberOfTrailingZeros_0f7a4_6 : decode cJ6_numberOfTrailingZeros_0f7a4 6 = .ok (.iand, 1) := by decide +kernel
theorem dJ6_numberOfTrailingZeros_0f7a4_7 : decode cJ6_numberOfTrailingZeros_0f7a4 7 = .ok (.istore_n 0, 1) := by decide +kernel
theorem dJ6_numberOfTrailingZeros_0f7a4_8 : decode cJ6_numberOfTrailingZeros_0f7a4 8 = .ok (.iload_n 0, 1) := by decide +kernel
theorem dJ6_numberOfTrailingZeros_0f7a4_9 : decode cJ6_numberOfTrailingZeros_0f7a4 9 = .ok (.ifCond .gt 8, 3) := by decide +kernel
theorem dJ6_numberOfTrailingZeros_0f7a4_12 : decode cJ6_numberOfTrailingZeros_0f7a4 12 = .ok (.iload_n 0, 1) := by decide +kernel
theorem dJ6_numberOfTrailingZeros_0f7a4_13 : decode cJ6_numberOfTrailingZeros_0f7a4 13 = .ok (.bipush 32, 2) := by decide +kernel
theorem dJ6_numberOfTrailingZeros_0f7a4_15 : decode cJ6_numberOfTrailingZeros_0f7a4 15 = .ok (.iand, 1) := by decide +kernel
theorem dJ6_numberOfTrailingZeros_0f7a4_16 : decode cJ6_numberOfTrailingZeros_0f7a4 16 = .ok (.ireturn, 1) := by decide +kernel
theorem dJ6_numberOfTrailingZeros_0f7a4_17 : decode cJ6_numberOfTrailingZeros_0f7a4 17 = .ok (.iconst 1, 1) := by decide +kernel
theorem dJ6_numberOfTrailingZeros_0f7a4_18 : decode cJ6_numberOfTrailingZeros_0f7a4 18 = .ok (.istore_n 1, 1) := by decide +kernel
theorem dJ6_numberOfTrailingZeros_0f7a4_19 : decode cJ6_numberOfTrailingZeros_0f7a4 19 = .ok (.iload_n 0, 1) := by decide +kernel
theorem dJ6_numberOfTrailingZeros_0f7a4_20 : decode cJ6_numberOfTrailingZeros_0f7a4 20 = .ok (.ldc_w 264, 3) := by decide +kernel
theorem dJ6_numberOfTrailingZeros_0f7a4_23 : decode cJ6_numberOfTrailingZeros_0f7a4 23 = .ok (.if_icmp .le 11, 3) := by decide +kernel
theorem dJ6_numberOfTrailingZeros_0f7a4_26 : decode cJ6_numberOfTrailingZeros_0f7a4 26 = .ok (.iinc 1 16, 3) := by decide +kernel
theorem dJ6_numberOfTrailingZeros_0f7a4_29 : decode cJ6_numberOfTrailingZeros_0f7a4 29 = .ok (.iload_n 0, 1) := by decide +kernel
theorem dJ6_numberOfTrailingZeros_0f7a4_30 : decode cJ6_numberOfTrailingZeros_0f7a4 30 = .ok (.bipush 16, 2) := by decide +kernel
theorem dJ6_numberOfTrailingZeros_0f7a4_32 : decode cJ6_numberOfTrailingZeros_0f7a4 32 = .ok (.iushr, 1) := by decide +kernel
theorem dJ6_numberOfTrailingZeros_0f7a4_33 : decode cJ6_numberOfTrailingZeros_0f7a4 33 = .ok (.istore_n 0, 1) := by decide +kernel
theorem dJ6_numberOfTrailingZeros_0f7a4_34 : decode cJ6_numberOfTrailingZeros_0f7a4 34 = .ok (.iload_n 0, 1) := by decide +kernel
theorem dJ6_numberOfTrailingZeros_0f7a4_35 : decode cJ6_numberOfTrailingZeros_0f7a4 35 = .ok (.sipush 256, 3) := by decide +kernel
theorem dJ6_numberOfTrailingZeros_0f7a4_38 : decode cJ6_numberOfTrailingZeros_0f7a4 38 = .ok (.if_icmp .le 11, 3) := by decide +kernel
theorem dJ6_numberOfTrailingZeros_0f7a4_41 : decode cJ6_numberOfTrailingZeros_0f7a4 41 = .ok (.iinc 1 8, 3) := by decide +kernel
theorem dJ6_numberOfTrailingZeros_0f7a4_44 : decode cJ6_numberOfTrailingZeros_0f7a4 44 = .ok (.iload_n 0, 1) := by decide +kernel
theorem dJ6_numberOfTrailingZeros_0f7a4_45 : decode cJ6_numberOfTrailingZeros_0f7a4 45 = .ok (.bipush 8, 2) := by decide +kernel
theorem dJ6_numberOfTrailingZeros_0f7a4_47 : decode cJ6_numberOfTrailingZeros_0f7a4 47 = .ok (.iushr, 1) := by decide +kernel
theorem dJ6_numberOfTrailingZeros_0f7a4_48 : decode cJ6_numberOfTrailingZeros_0f7a4 48 = .ok (.istore_n 0, 1) := by decide +kernel
theorem dJ6_numberOfTrailingZeros_0f7a4_49 : decode cJ6_numberOfTrailingZeros_0f7a4 49 = .ok (.iload_n 0, 1) := by decide +kernel
theorem dJ6_numberOfTrailingZeros_0f7a4_50 : decode cJ6_numberOfTrailingZeros_0f7a4 50 = .ok (.bipush 16, 2) := by decide +kernel
theorem dJ6_numberOfTrailingZeros_0f7a4_52 : decode cJ6_numberOfTrailingZeros_0f7a4 52 = .ok (.if_icmp .le 10, 3) := by decide +kernel
theorem dJ6_numberOfTrailingZeros_0f7a4_55 : decode cJ6_numberOfTrailingZeros_0f7a4 55 = .ok (.iinc 1 4, 3) := by decide +kernel
theorem dJ6_numberOfTrailingZeros_0f7a4_58 : decode cJ6_numberOfTrailingZeros_0f7a4 58 = .ok (.iload_n 0, 1) := by decide +kernel
theorem dJ6_numberOfTrailingZeros_0f7a4_59 : decode cJ6_numberOfTrailingZeros_0f7a4 59 = .ok (.iconst 4, 1) := by decide +kernel
theorem dJ6_numberOfTrailingZeros_0f7a4_60 : decode cJ6_numberOfTrailingZeros_0f7a4 60 = .ok (.iushr, 1) := by decide +kernel
theorem dJ6_numberOfTrailingZeros_0f7a4_61 : decode cJ6_numberOfTrailingZeros_0f7a4 61 = .ok (.istore_n 0, 1) := by decide +kernel
theorem dJ6_numberOfTrailingZeros_0f7a4_62 : decode cJ6_numberOfTrailingZeros_0f7a4 62 = .ok (.iload_n 0, 1) := by decide +kernel
theorem dJ6_numberOfTrailingZeros_0f7a4_63 : decode cJ6_numberOfTrailingZeros_0f7a4 63 = .ok (.iconst 4, 1) := by decide +kernel
theorem dJ6_numberOfTrailingZeros_0f7a4_64 : decode cJ6_numberOfTrailingZeros_0f7a4 64 = .ok (.if_icmp .le 10, 3) := by decide +kernel
theorem dJ6_numberOfTrailingZeros_0f7a4_67 : decode cJ6_numberOfTrailingZeros_0f7a4 67 = .ok (.iinc 1 2, 3) := by decide +kernel
theorem dJ6_numberOfTrailingZeros_0f7a4_70 : decode cJ6_numberOfTrailingZeros_0f7a4 70 = .ok (.iload_n 0, 1) := by decide +kernel
theorem dJ6_numberOfTrailingZeros_0f7a4_71 : decode cJ6_numberOfTrailingZeros_0f7a4 71 = .ok (.iconst 2, 1) := by decide +kernel
theorem dJ6_numberOfTrailingZeros_0f7a4_72 : decode cJ6_numberOfTrailingZeros_0f7a4 72 = .ok (.iushr, 1) := by decide +kernel
theorem dJ6_numberOfTrailingZeros_0f7a4_73 : decode cJ6_numberOfTrailingZeros_0f7a4 73 = .ok (.istore_n 0, 1) := by decide +kernel
theorem dJ6_numberOfTrailingZeros_0f7a4_74 : decode cJ6_numberOfTrailingZeros_0f7a4 74 = .ok (.iload_n 1, 1) := by decide +kernel
theorem dJ6_numberOfTrailingZeros_0f7a4_75 : decode cJ6_numberOfTrailingZeros_0f7a4 75 = .ok (.iload_n 0, 1) := by decide +kernel
theorem dJ6_numberOfTrailingZeros_0f7a4_76 : decode cJ6_numberOfTrailingZeros_0f7a4 76 = .ok (.iconst 1, 1) := by decide +kernel
theorem dJ6_numberOfTrailingZeros_0f7a4_77 : decode cJ6_numberOfTrailingZeros_0f7a4 77 = .ok (.iushr, 1) := by decide +kernel
theorem dJ6_numberOfTrailingZeros_0f7a4_78 : decode cJ6_numberOfTrailingZeros_0f7a4 78 = .ok (.iadd, 1) := by decide +kernel
theorem dJ6_numberOfTrailingZeros_0f7a4_79 : decode cJ6_numberOfTrailingZeros_0f7a4 79 = .ok (.ireturn, 1) := by decide +kernel
theorem dJ6_bitCount_0f7a4_0 : decode cJ6_bitCount_0f7a4 0 = .ok (.iload_n 0, 1) := by decide +kernel
theorem dJ6_bitCount_0f7a4_1 : decode cJ6_bitCount_0f7a4 1 = .ok (.iload_n 0, 1) := by decide +kernel
theorem dJ6_bitCount_0f7a4_2 : decode cJ6_bitCount_0f7a4 2 = .ok (.iconst 1, 1) := by decide +kernel
theorem dJ6_bitCount_0f7a4_3 : decode cJ6_bitCount_0f7a4 3 = .ok (.iushr, 1) := by decide +kernel
theorem dJ6_bitCount_0f7a4_4 : decode cJ6_bitCount_0f7a4 4 = .ok (.ldc_w 265, 3) := by decide +kernel
theorem dJ6_bitCount_0f7a4_7 : decode cJ6_bitCount_0f7a4 7 = .ok (.iand, 1) := by decide +kernel
theorem dJ6_bitCount_0f7a4_8 : decode cJ6_bitCount_0f7a4 8 = .ok (.isub, 1) := by decide +kernel
theorem dJ6_bitCount_0f7a4_9 : decode cJ6_bitCount_0f7a4 9 = .ok (.istore_n 0, 1) := by decide +kernel
theorem dJ6_bitCount_0f7a4_10 : decode cJ6_bitCount_0f7a4 10 = .ok (.iload_n 0, 1) := by decide +kernel
theorem dJ6_bitCount_0f7a4_11 : decode cJ6_bitCount_0f7a4 11 = .ok (.ldc_w 266, 3) := by decide +kernel
theorem dJ6_bitCount_0f7a4_14 : decode cJ6_bitCount_0f7a4 14 = .ok (.iand, 1) := by decide +kernel
theorem dJ6_bitCount_0f7a4_15 : decode cJ6_bitCount_0f7a4 15 = .ok (.iload_n 0, 1) := by decide +kernel
theorem dJ6_bitCount_0f7a4_16 : decode cJ6_bitCount_0f7a4 16 = .ok (.iconst 2, 1) := by decide +kernel
theorem dJ6_bitCount_0f7a4_17 : decode cJ6_bitCount_0f7a4 17 = .ok (.iushr, 1) := by decide +kernel
theorem dJ6_bitCount_0f7a4_18 : decode cJ6_bitCount_0f7a4 18 = .ok (.ldc_w 266, 3) := by decide +kernel
theorem dJ6_bitCount_0f7a4_21 : decode cJ6_bitCount_0f7a4 21 = .ok (.iand, 1) := by decide +kernel
theorem dJ6_bitCount_0f7a4_22 : decode cJ6_bitCount_0f7a4 22 = .ok (.iadd, 1) := by decide +kernel
theorem dJ6_bitCount_0f7a4_23 : decode cJ6_bitCount_0f7a4 23 = .ok (.istore_n 0, 1) := by decide +kernel
theorem dJ6_bitCount_0f7a4_24 : decode cJ6_bitCount_0f7a4 24 = .ok (.iload_n 0, 1) := by decide +kernel
theorem dJ6_bitCount_0f7a4_25 : decode cJ6_bitCount_0f7a4 25 = .ok (.iload_n 0, 1) := by decide +kernel
theorem dJ6_bitCount_0f7a4_26 : decode cJ6_bitCount_0f7a4 26 = .ok (.iconst 4, 1) := by decide +kernel
theorem dJ6_bitCount_0f7a4_27 : decode cJ6_bitCount_0f7a4 27 = .ok (.iushr, 1) := by decide +kernel
theorem dJ6_bitCount_0f7a4_28 : decode cJ6_bitCount_0f7a4 28 = .ok (.iadd, 1) := by decide +kernel
theorem dJ6_bitCount_0f7a4_29 : decode cJ6_bitCount_0f7a4 29 = .ok (.ldc_w 267, 3) := by decide +kernel
theorem dJ6_bitCount_0f7a4_32 : decode cJ6_bitCount_0f7a4 32 = .ok (.iand, 1) := by decide +kernel
theorem dJ6_bitCount_0f7a4_33 : decode cJ6_bitCount_0f7a4 33 = .ok (.istore_n 0, 1) := by decide +kernel
theorem dJ6_bitCount_0f7a4_34 : decode cJ6_bitCount_0f7a4 34 = .ok (.iload_n 0, 1) := by decide +kernel
theorem dJ6_bitCount_0f7a4_35 : decode cJ6_bitCount_0f7a4 35 = .ok (.iload_n 0, 1) := by decide +kernel
theorem dJ6_bitCount_0f7a4_36 : decode cJ6_bitCount_0f7a4 36 = .ok (.bipush 8, 2) := by decide +kernel
theorem dJ6_bitCount_0f7a4_38 : decode cJ6_bitCount_0f7a4 38 = .ok (.iushr, 1) := by decide +kernel
theorem dJ6_bitCount_0f7a4_39 : decode cJ6_bitCount_0f7a4 39 = .ok (.iadd, 1) := by decide +kernel
theorem dJ6_bitCount_0f7a4_40 : decode cJ6_bitCount_0f7a4 40 = .ok (.istore_n 0, 1) := by decide +kernel
theorem dJ6_bitCount_0f7a4_41 : decode cJ6_bitCount_0f7a4 41 = .ok (.iload_n 0, 1) := by decide +kernel
theorem dJ6_bitCount_0f7a4_42 : decode cJ6_bitCount_0f7a4 42 = .ok (.iload_n 0, 1) := by decide +kernel
theorem dJ6_bitCount_0f7a4_43 : decode cJ6_bitCount_0f7a4 43 = .ok (.bipush 16, 2) := by decide +kernel
theorem dJ6_bitCount_0f7a4_45 : decode cJ6_bitCount_0f7a4 45 = .ok (.iushr, 1) := by decide +kernel
theorem dJ6_bitCount_0f7a4_46 : decode cJ6_bitCount_0f7a4 46 = .ok (.iadd, 1) := by decide +kernel
theorem dJ6_bitCount_0f7a4_47 : decode cJ6_bitCount_0f7a4 47 = .ok (.istore_n 0, 1) := by decide +kernel
theorem dJ6_bitCount_0f7a4_48 : decode cJ6_bitCount_0f7a4 48 = .ok (.iload_n 0, 1) := by decide +kernel
theorem dJ6_bitCount_0f7a4_49 : decode cJ6_bitCount_0f7a4 49 = .ok (.bipush 63, 2) := by decide +kernel
theorem dJ6_bitCount_0f7a4_51 : decode cJ6_bitCount_0f7a4 51 = .ok (.iand, 1) := by decide +kernel
theorem dJ6_bitCount_0f7a4_52 : decode cJ6_bitCount_0f7a4 52 = .ok (.ireturn, 1) := by decide +kernel
theorem dJ9_max_7cf53_0 : decode cJ9_max_7cf53 0 = .ok (.iload_n 0, 1) := by decide +kernel
theorem dJ9_max_7cf53_1 : decode cJ9_max_7cf53 1 = .ok (.iload_n 1, 1) := by decide +kernel
theorem dJ9_max_7cf53_2 : decode cJ9_max_7cf53 2 = .ok (.if_icmp .lt 7, 3) := by decide +kernel
theorem dJ9_max_7cf53_5 : decode cJ9_max_7cf53 5 = .ok (.iload_n 0, 1) := by decide +kernel
theorem dJ9_max_7cf53_6 : decode cJ9_max_7cf53 6 = .ok (.goto 4, 3) := by decide +kernel
theorem dJ9_max_7cf53_9 : decode cJ9_max_7cf53 9 = .ok (.iload_n 1, 1) := by decide +kernel
theorem dJ9_max_7cf53_10 : decode cJ9_max_7cf53 10 = .ok (.ireturn, 1) := by decide +kernel
theorem dJ9_min_7cf53_0 : decode cJ9_min_7cf53 0 = .ok (.iload_n 0, 1) := by decide +kernel
theorem dJ9_min_7cf53_1 : decode cJ9_min_7cf53 1 = .ok (.iload_n 1, 1) := by decide +kernel
theorem dJ9_min_7cf53_2 : decode cJ9_min_7cf53 2 = .ok (.if_icmp .gt 7, 3) := by decide +kernel
theorem dJ9_min_7cf53_5 : decode cJ9_min_7cf53 5 = .ok (.iload_n 0, 1) := by decide +kernel
theorem dJ9_min_7cf53_6 : decode cJ9_min_7cf53 6 = .ok (.goto 4, 3) := by decide +kernel
theorem dJ9_min_7cf53_9 : decode cJ9_min_7cf53 9 = .ok (.iload_n 1, 1) := by decide +kernel
theorem dJ9_min_7cf53_10 : decode cJ9_min_7cf53 10 = .ok (.ireturn, 1) := by decide +kernel
