theorem dX7_init_0 : decode cX7_init 0 = .ok (.aload_n 0, 1) := by decide +kernel
theorem dX7_init_1 : decode cX7_init 1 = .ok (.invokespecial 1, 3) := by decide +kernel
theorem dX7_init_4 : decode cX7_init 4 = .ok (.aload_n 0, 1) := by decide +kernel
theorem dX7_init_5 : decode cX7_init 5 = .ok (.bipush 41, 2) := by decide +kernel
theorem dX7_init_7 : decode cX7_init 7 = .ok (.newarray .int, 2) := by decide +kernel
theorem dX7_init_9 : decode cX7_init 9 = .ok (.putfield 7, 3) := by decide +kernel
theorem dX7_init_12 : decode cX7_init 12 = .ok (.aload_n 0, 1) := by decide +kernel
theorem dX7_init_13 : decode cX7_init 13 = .ok (.bipush 41, 2) := by decide +kernel
theorem dX7_init_15 : decode cX7_init 15 = .ok (.newarray .int, 2) := by decide +kernel
theorem dX7_init_17 : decode cX7_init 17 = .ok (.putfield 13, 3) := by decide +kernel
theorem dX7_init_20 : decode cX7_init 20 = .ok (.aload_n 0, 1) := by decide +kernel
theorem dX7_init_21 : decode cX7_init 21 = .ok (.sipush 246, 3) := by decide +kernel
theorem dX7_init_24 : decode cX7_init 24 = .ok (.newarray .int, 2) := by decide +kernel
theorem dX7_init_26 : decode cX7_init 26 = .ok (.putfield 16, 3) := by decide +kernel
theorem dX7_init_29 : decode cX7_init 29 = .ok (.aload_n 0, 1) := by decide +kernel
theorem dX7_init_30 : decode cX7_init 30 = .ok (.bipush 82, 2) := by decide +kernel
theorem dX7_init_32 : decode cX7_init 32 = .ok (.newarray .int, 2) := by decide +kernel
theorem dX7_init_34 : decode cX7_init 34 = .ok (.putfield 19, 3) := by decide +kernel
theorem dX7_init_37 : decode cX7_init 37 = .ok (.aload_n 0, 1) := by decide +kernel
theorem dX7_init_38 : decode cX7_init 38 = .ok (.iconst 2, 1) := by decide +kernel
theorem dX7_init_39 : decode cX7_init 39 = .ok (.newarray .boolean, 2) := by decide +kernel
theorem dX7_init_41 : decode cX7_init 41 = .ok (.putfield 22, 3) := by decide +kernel
theorem dX7_init_44 : decode cX7_init 44 = .ok (.aload_n 0, 1) := by decide +kernel
theorem dX7_init_45 : decode cX7_init 45 = .ok (.bipush 6, 2) := by decide +kernel
theorem dX7_init_47 : decode cX7_init 47 = .ok (.newarray .int, 2) := by decide +kernel
theorem dX7_init_49 : decode cX7_init 49 = .ok (.putfield 26, 3) := by decide +kernel
theorem dX7_init_52 : decode cX7_init 52 = .ok (.aload_n 0, 1) := by decide +kernel
theorem dX7_init_53 : decode cX7_init 53 = .ok (.bipush 6, 2) := by decide +kernel
theorem dX7_init_55 : decode cX7_init 55 = .ok (.newarray .int, 2) := by decide +kernel
theorem dX7_init_57 : decode cX7_init 57 = .ok (.putfield 29, 3) := by decide +kernel
theorem dX7_init_60 : decode cX7_init 60 = .ok (.aload_n 0, 1) := by decide +kernel
theorem dX7_init_61 : decode cX7_init 61 = .ok (.bipush 100, 2) := by decide +kernel
theorem dX7_init_63 : decode cX7_init 63 = .ok (.newarray .int, 2) := by decide +kernel
theorem dX7_init_65 : decode cX7_init 65 = .ok (.putfield 32, 3) := by decide +kernel
theorem dX7_init_68 : decode cX7_init 68 = .ok (.aload_n 0, 1) := by decide +kernel
theorem dX7_init_69 : decode cX7_init 69 = .ok (.bipush 8, 2) := by decide +kernel
theorem dX7_init_71 : decode cX7_init 71 = .ok (.newarray .int, 2) := by decide +kernel
theorem dX7_init_73 : decode cX7_init 73 = .ok (.putfield 35, 3) := by decide +kernel
theorem dX7_init_76 : decode cX7_init 76 = .ok (.aload_n 0, 1) := by decide +kernel
theorem dX7_init_77 : decode cX7_init 77 = .ok (.bipush 8, 2) := by decide +kernel
theorem dX7_init_79 : decode cX7_init 79 = .ok (.newarray .int, 2) := by decide +kernel
theorem dX7_init_81 : decode cX7_init 81 = .ok (.putfield 38, 3) := by decide +kernel
theorem dX7_init_84 : decode cX7_init 84 = .ok (.aload_n 0, 1) := by decide +kernel
theorem dX7_init_85 : decode cX7_init 85 = .ok (.bipush 9, 2) := by decide +kernel
theorem dX7_init_87 : decode cX7_init 87 = .ok (.newarray .boolean, 2) := by decide +kernel
theorem dX7_init_89 : decode cX7_init 89 = .ok (.putfield 41, 3) := by decide +kernel
theorem dX7_init_92 : decode cX7_init 92 = .ok (.aload_n 0, 1) := by decide +kernel
theorem dX7_init_93 : decode cX7_init 93 = .ok (.bipush 9, 2) := by decide +kernel
theorem dX7_init_95 : decode cX7_init 95 = .ok (.newarray .int, 2) := by decide +kernel
theorem dX7_init_97 : decode cX7_init 97 = .ok (.putfield 44, 3) := by decide +kernel
theorem dX7_init_100 : decode cX7_init 100 = .ok (.aload_n 0, 1) := by decide +kernel
theorem dX7_init_101 : decode cX7_init 101 = .ok (.getfield 7, 3) := by decide +kernel
theorem dX7_init_104 : decode cX7_init 104 = .ok (.iconst 0, 1) := by decide +kernel
theorem dX7_init_105 : decode cX7_init 105 = .ok (.iconst 1, 1) := by decide +kernel
theorem dX7_init_106 : decode cX7_init 106 = .ok (.iastore, 1) := by decide +kernel
theorem dX7_init_107 : decode cX7_init 107 = .ok (.aload_n 0, 1) := by decide +kernel
theorem dX7_init_108 : decode cX7_init 108 = .ok (.getfield 7, 3) := by decide +kernel
theorem dX7_init_111 : decode cX7_init 111 = .ok (.iconst 1, 1) := by decide +kernel
theorem dX7_init_112 : decode cX7_init 112 = .ok (.iconst 1, 1) := by decide +kernel
theorem dX7_init_113 : decode cX7_init 113 = .ok (.iastore, 1) := by decide +kernel
theorem dX7_init_114 : decode cX7_init 114 = .ok (.aload_n 0, 1) := by decide +kernel
theorem dX7_init_115 : decode cX7_init 115 = .ok (.getfield 7, 3) := by decide +kernel
theorem dX7_init_118 : decode cX7_init 118 = .ok (.iconst 2, 1) := by decide +kernel
theorem dX7_init_119 : decode cX7_init 119 = .ok (.iconst 1, 1) := by decide +kernel
theorem dX7_init_120 : decode cX7_init 120 = .ok (.iastore, 1) := by decide +kernel
theorem dX7_init_121 : decode cX7_init 121 = .ok (.aload_n 0, 1) := by decide +kernel
theorem dX7_init_122 : decode cX7_init 122 = .ok (.getfield 7, 3) := by decide +kernel
theorem dX7_init_125 : decode cX7_init 125 = .ok (.iconst 4, 1) := by decide +kernel
theorem dX7_init_126 : decode cX7_init 126 = .ok (.bipush 99, 2) := by decide +kernel
theorem dX7_init_128 : decode cX7_init 128 = .ok (.iastore, 1) := by decide +kernel
theorem dX7_init_129 : decode cX7_init 129 = .ok (.aload_n 0, 1) := by decide +kernel
theorem dX7_init_130 : decode cX7_init 130 = .ok (.getfield 7, 3) := by decide +kernel
theorem dX7_init_133 : decode cX7_init 133 = .ok (.iconst 5, 1) := by decide +kernel
theorem dX7_init_134 : decode cX7_init 134 = .ok (.iconst 1, 1) := by decide +kernel
theorem dX7_init_135 : decode cX7_init 135 = .ok (.iastore, 1) := by decide +kernel
theorem dX7_init_136 : decode cX7_init 136 = .ok (.return_, 1) := by decide +kernel
theorem dX7_in_0 : decode cX7_in 0 = .ok (.iload_n 0, 1) := by decide +kernel
theorem dX7_in_1 : decode cX7_in 1 = .ok (.iload_n 1, 1) := by decide +kernel
theorem dX7_in_2 : decode cX7_in 2 = .ok (.if_icmp .lt 12, 3) := by decide +kernel
theorem dX7_in_5 : decode cX7_in 5 = .ok (.iload_n 0, 1) := by decide +kernel
theorem dX7_in_6 : decode cX7_in 6 = .ok (.iload_n 2, 1) := by decide +kernel
theorem dX7_in_7 : decode cX7_in 7 = .ok (.if_icmp .gt 7, 3) := by decide +kernel
theorem dX7_in_10 : decode cX7_in 10 = .ok (.iconst 1, 1) := by decide +kernel
theorem dX7_in_11 : decode cX7_in 11 = .ok (.goto 4, 3) := by decide +kernel
theorem dX7_in_14 : decode cX7_in 14 = .ok (.iconst 0, 1) := by decide +kernel
theorem dX7_in_15 : decode cX7_in 15 = .ok (.ireturn, 1) := by decide +kernel
theorem dX7_has_0 : decode cX7_has 0 = .ok (.iload_n 0, 1) := by decide +kernel
theorem dX7_has_1 : decode cX7_has 1 = .ok (.iload_n 1, 1) := by decide +kernel
theorem dX7_has_2 : decode cX7_has 2 = .ok (.ishr, 1) := by decide +kernel
theorem dX7_has_3 : decode cX7_has 3 = .ok (.iconst 1, 1) := by decide +kernel
theorem dX7_has_4 : decode cX7_has 4 = .ok (.iand, 1) := by decide +kernel
theorem dX7_has_5 : decode cX7_has 5 = .ok (.iconst 1, 1) := by decide +kernel
theorem dX7_has_6 : decode cX7_has 6 = .ok (.if_icmp .ne 7, 3) := by decide +kernel
theorem dX7_has_9 : decode cX7_has 9 = .ok (.iconst 1, 1) := by decide +kernel
theorem dX7_has_10 : decode cX7_has 10 = .ok (.goto 4, 3) := by decide +kernel
theorem dX7_has_13 : decode cX7_has 13 = .ok (.iconst 0, 1) := by decide +kernel
theorem dX7_has_14 : decode cX7_has 14 = .ok (.ireturn, 1) := by decide +kernel
set_option maxRecDepth 20000 in
theorem ggX7_isLeaf_X7_in : GoodIn wsX7_isLeaf wsX7_in := goodIn_r _ [5] (by decide +kernel) (by decide +kernel)
set_option maxRecDepth 20000 in
theorem gX7_isLeaf_X7_in : GoodIn wsX7_isLeaf (va_wsS RX7 47 yX7_in wsX7_in) := goodIn_app (goodIn_of _ (by decide +kernel)) ggX7_isLeaf_X7_in
theorem dX7_isLeaf_0 : decode cX7_isLeaf 0 = .ok (.iload_n 1, 1) := by decide +kernel
theorem dX7_isLeaf_1 : decode cX7_isLeaf 1 = .ok (.iconst 0, 1) := by decide +kernel
theorem dX7_isLeaf_2 : decode cX7_isLeaf 2 = .ok (.aload_n 0, 1) := by decide +kernel
theorem dX7_isLeaf_3 : decode cX7_isLeaf 3 = .ok (.getfield 7, 3) := by decide +kernel
theorem dX7_isLeaf_6 : decode cX7_isLeaf 6 = .ok (.iconst 0, 1) := by decide +kernel
theorem dX7_isLeaf_7 : decode cX7_isLeaf 7 = .ok (.iaload, 1) := by decide +kernel
theorem dX7_isLeaf_8 : decode cX7_isLeaf 8 = .ok (.iconst 1, 1) := by decide +kernel
theorem dX7_isLeaf_9 : decode cX7_isLeaf 9 = .ok (.isub, 1) := by decide +kernel
theorem dX7_isLeaf_10 : decode cX7_isLeaf 10 = .ok (.invokestatic 47, 3) := by decide +kernel
theorem dX7_isLeaf_13 : decode cX7_isLeaf 13 = .ok (.ireturn, 1) := by decide +kernel
theorem dX7_of_0 : decode cX7_of 0 = .ok (.aload_n 0, 1) := by decide +kernel
theorem dX7_of_1 : decode cX7_of 1 = .ok (.getfield 7, 3) := by decide +kernel
theorem dX7_of_4 : decode cX7_of 4 = .ok (.iconst 5, 1) := by decide +kernel
theorem dX7_of_5 : decode cX7_of 5 = .ok (.iload_n 1, 1) := by decide +kernel
theorem dX7_of_6 : decode cX7_of 6 = .ok (.imul, 1) := by decide +kernel
theorem dX7_of_7 : decode cX7_of 7 = .ok (.iload_n 2, 1) := by decide +kernel
theorem dX7_of_8 : decode cX7_of 8 = .ok (.iadd, 1) := by decide +kernel
theorem dX7_of_9 : decode cX7_of 9 = .ok (.iaload, 1) := by decide +kernel
theorem dX7_of_10 : decode cX7_of 10 = .ok (.ireturn, 1) := by decide +kernel
set_option maxRecDepth 20000 in
theorem ggX7_isWhole_X7_of : GoodIn wsX7_isWhole wsX7_of := goodIn_r _ [5, 6, 7, 8, 9, 10, 11, 12, 13, 14, 15, 16, 17, 18, 19, 20, 21, 22, 23, 24, 25, 26, 27, 28, 29] (by decide +kernel) (by decide +kernel)
set_option maxRecDepth 20000 in
theorem gX7_isWhole_X7_of : GoodIn wsX7_isWhole (wsV RX7 51 RX7 yX7_of wsX7_of) := goodIn_app (goodIn_of _ (by decide +kernel)) ggX7_isWhole_X7_of
theorem dX7_isWhole_0 : decode cX7_isWhole 0 = .ok (.aload_n 0, 1) := by decide +kernel
theorem dX7_isWhole_1 : decode cX7_isWhole 1 = .ok (.iload_n 1, 1) := by decide +kernel
theorem dX7_isWhole_2 : decode cX7_isWhole 2 = .ok (.iconst 5, 1) := by decide +kernel
theorem dX7_isWhole_3 : decode cX7_isWhole 3 = .ok (.invokevirtual 51, 3) := by decide +kernel
theorem dX7_isWhole_6 : decode cX7_isWhole 6 = .ok (.iconst 1, 1) := by decide +kernel
theorem dX7_isWhole_7 : decode cX7_isWhole 7 = .ok (.if_icmp .ne 7, 3) := by decide +kernel
theorem dX7_isWhole_10 : decode cX7_isWhole 10 = .ok (.iconst 1, 1) := by decide +kernel
theorem dX7_isWhole_11 : decode cX7_isWhole 11 = .ok (.goto 4, 3) := by decide +kernel
theorem dX7_isWhole_14 : decode cX7_isWhole 14 = .ok (.iconst 0, 1) := by decide +kernel
theorem dX7_isWhole_15 : decode cX7_isWhole 15 = .ok (.ireturn, 1) := by decide +kernel
theorem dX7_all_0 : decode cX7_all 0 = .ok (.iconst 1, 1) := by decide +kernel
theorem dX7_all_1 : decode cX7_all 1 = .ok (.aload_n 0, 1) := by decide +kernel
theorem dX7_all_2 : decode cX7_all 2 = .ok (.getfield 7, 3) := by decide +kernel
theorem dX7_all_5 : decode cX7_all 5 = .ok (.iconst 0, 1) := by decide +kernel
theorem dX7_all_6 : decode cX7_all 6 = .ok (.iaload, 1) := by decide +kernel
theorem dX7_all_7 : decode cX7_all 7 = .ok (.ishl, 1) := by decide +kernel
theorem dX7_all_8 : decode cX7_all 8 = .ok (.iconst 1, 1) := by decide +kernel
theorem dX7_all_9 : decode cX7_all 9 = .ok (.isub, 1) := by decide +kernel
theorem dX7_all_10 : decode cX7_all 10 = .ok (.ireturn, 1) := by decide +kernel
set_option maxRecDepth 20000 in
theorem ggX7_whole_X7_isWhole : GoodIn wsX7_whole wsX7_isWhole := goodIn_r _ [6, 7, 8, 9, 5, 10, 1, 11, 12, 13, 14, 15, 16, 17, 18, 19, 20, 21, 22, 23, 24, 25, 26, 27, 28, 29, 30, 31, 32, 33] (by decide +kernel) (by decide +kernel)
set_option maxRecDepth 20000 in
theorem gX7_whole_X7_isWhole : GoodIn wsX7_whole (wsV RX7 55 RX7 yX7_isWhole wsX7_isWhole) := goodIn_app (goodIn_of _ (by decide +kernel)) ggX7_whole_X7_isWhole
theorem dX7_whole_0 : decode cX7_whole 0 = .ok (.iconst 0, 1) := by decide +kernel
theorem dX7_whole_1 : decode cX7_whole 1 = .ok (.istore_n 1, 1) := by decide +kernel
theorem dX7_whole_2 : decode cX7_whole 2 = .ok (.iconst 0, 1) := by decide +kernel
theorem dX7_whole_3 : decode cX7_whole 3 = .ok (.istore_n 2, 1) := by decide +kernel
theorem dX7_whole_4 : decode cX7_whole 4 = .ok (.iload_n 2, 1) := by decide +kernel
theorem dX7_whole_5 : decode cX7_whole 5 = .ok (.aload_n 0, 1) := by decide +kernel
theorem dX7_whole_6 : decode cX7_whole 6 = .ok (.getfield 7, 3) := by decide +kernel
theorem dX7_whole_9 : decode cX7_whole 9 = .ok (.iconst 0, 1) := by decide +kernel
theorem dX7_whole_10 : decode cX7_whole 10 = .ok (.iaload, 1) := by decide +kernel
theorem dX7_whole_11 : decode cX7_whole 11 = .ok (.if_icmp .ge 27, 3) := by decide +kernel
theorem dX7_whole_14 : decode cX7_whole 14 = .ok (.iload_n 1, 1) := by decide +kernel
theorem dX7_whole_15 : decode cX7_whole 15 = .ok (.aload_n 0, 1) := by decide +kernel
theorem dX7_whole_16 : decode cX7_whole 16 = .ok (.iload_n 2, 1) := by decide +kernel
theorem dX7_whole_17 : decode cX7_whole 17 = .ok (.invokevirtual 55, 3) := by decide +kernel
theorem dX7_whole_20 : decode cX7_whole 20 = .ok (.ifCond .eq 9, 3) := by decide +kernel
theorem dX7_whole_23 : decode cX7_whole 23 = .ok (.iconst 1, 1) := by decide +kernel
theorem dX7_whole_24 : decode cX7_whole 24 = .ok (.iload_n 2, 1) := by decide +kernel
theorem dX7_whole_25 : decode cX7_whole 25 = .ok (.ishl, 1) := by decide +kernel
theorem dX7_whole_26 : decode cX7_whole 26 = .ok (.goto 4, 3) := by decide +kernel
theorem dX7_whole_29 : decode cX7_whole 29 = .ok (.iconst 0, 1) := by decide +kernel
theorem dX7_whole_30 : decode cX7_whole 30 = .ok (.ior, 1) := by decide +kernel
theorem dX7_whole_31 : decode cX7_whole 31 = .ok (.istore_n 1, 1) := by decide +kernel
theorem dX7_whole_32 : decode cX7_whole 32 = .ok (.iinc 2 1, 3) := by decide +kernel
theorem dX7_whole_35 : decode cX7_whole 35 = .ok (.goto (-31), 3) := by decide +kernel
theorem dX7_whole_38 : decode cX7_whole 38 = .ok (.iload_n 1, 1) := by decide +kernel
theorem dX7_whole_39 : decode cX7_whole 39 = .ok (.ireturn, 1) := by decide +kernel
set_option maxRecDepth 20000 in
theorem ggX7_ones_X7_has : GoodIn wsX7_ones wsX7_has := goodIn_r _ [4] (by decide +kernel) (by decide +kernel)
set_option maxRecDepth 20000 in
theorem gX7_ones_X7_has : GoodIn wsX7_ones (va_wsS RX7 59 yX7_has wsX7_has) := goodIn_app (goodIn_of _ (by decide +kernel)) ggX7_ones_X7_has
theorem dX7_ones_0 : decode cX7_ones 0 = .ok (.iconst 0, 1) := by decide +kernel
theorem dX7_ones_1 : decode cX7_ones 1 = .ok (.istore_n 1, 1) := by decide +kernel
theorem dX7_ones_2 : decode cX7_ones 2 = .ok (.iconst 0, 1) := by decide +kernel
theorem dX7_ones_3 : decode cX7_ones 3 = .ok (.istore_n 2, 1) := by decide +kernel
theorem dX7_ones_4 : decode cX7_ones 4 = .ok (.iload_n 2, 1) := by decide +kernel
theorem dX7_ones_5 : decode cX7_ones 5 = .ok (.bipush 8, 2) := by decide +kernel
theorem dX7_ones_7 : decode cX7_ones 7 = .ok (.if_icmp .ge 25, 3) := by decide +kernel
theorem dX7_ones_10 : decode cX7_ones 10 = .ok (.iload_n 1, 1) := by decide +kernel
theorem dX7_ones_11 : decode cX7_ones 11 = .ok (.iload_n 0, 1) := by decide +kernel
theorem dX7_ones_12 : decode cX7_ones 12 = .ok (.iload_n 2, 1) := by decide +kernel
theorem dX7_ones_13 : decode cX7_ones 13 = .ok (.invokestatic 59, 3) := by decide +kernel
theorem dX7_ones_16 : decode cX7_ones 16 = .ok (.ifCond .eq 7, 3) := by decide +kernel
theorem dX7_ones_19 : decode cX7_ones 19 = .ok (.iconst 1, 1) := by decide +kernel
theorem dX7_ones_20 : decode cX7_ones 20 = .ok (.goto 4, 3) := by decide +kernel
theorem dX7_ones_23 : decode cX7_ones 23 = .ok (.iconst 0, 1) := by decide +kernel
theorem dX7_ones_24 : decode cX7_ones 24 = .ok (.iadd, 1) := by decide +kernel
theorem dX7_ones_25 : decode cX7_ones 25 = .ok (.istore_n 1, 1) := by decide +kernel
theorem dX7_ones_26 : decode cX7_ones 26 = .ok (.iinc 2 1, 3) := by decide +kernel
theorem dX7_ones_29 : decode cX7_ones 29 = .ok (.goto (-25), 3) := by decide +kernel
theorem dX7_ones_32 : decode cX7_ones 32 = .ok (.iload_n 1, 1) := by decide +kernel
theorem dX7_ones_33 : decode cX7_ones 33 = .ok (.ireturn, 1) := by decide +kernel
set_option maxRecDepth 20000 in
theorem ggX7_type_X7_in : GoodIn wsX7_type wsX7_in := goodIn_r _ [6] (by decide +kernel) (by decide +kernel)
set_option maxRecDepth 20000 in
theorem gX7_type_X7_in : GoodIn wsX7_type (va_wsS RX7 47 yX7_in wsX7_in) := goodIn_app (goodIn_of _ (by decide +kernel)) ggX7_type_X7_in
theorem dX7_type_0 : decode cX7_type 0 = .ok (.iload_n 1, 1) := by decide +kernel
theorem dX7_type_1 : decode cX7_type 1 = .ok (.iconst 0, 1) := by decide +kernel
theorem dX7_type_2 : decode cX7_type 2 = .ok (.sipush 255, 3) := by decide +kernel
theorem dX7_type_5 : decode cX7_type 5 = .ok (.invokestatic 47, 3) := by decide +kernel
theorem dX7_type_8 : decode cX7_type 8 = .ok (.ifCond .ne 5, 3) := by decide +kernel
theorem dX7_type_11 : decode cX7_type 11 = .ok (.iconst (-1), 1) := by decide +kernel
theorem dX7_type_12 : decode cX7_type 12 = .ok (.ireturn, 1) := by decide +kernel
theorem dX7_type_13 : decode cX7_type 13 = .ok (.aload_n 0, 1) := by decide +kernel
theorem dX7_type_14 : decode cX7_type 14 = .ok (.getfield 63, 3) := by decide +kernel
theorem dX7_type_17 : decode cX7_type 17 = .ok (.bipush 100, 2) := by decide +kernel
theorem dX7_type_19 : decode cX7_type 19 = .ok (.if_icmp .ne 6, 3) := by decide +kernel
theorem dX7_type_22 : decode cX7_type 22 = .ok (.bipush (-3), 2) := by decide +kernel
theorem dX7_type_24 : decode cX7_type 24 = .ok (.ireturn, 1) := by decide +kernel
theorem dX7_type_25 : decode cX7_type 25 = .ok (.aload_n 0, 1) := by decide +kernel
theorem dX7_type_26 : decode cX7_type 26 = .ok (.getfield 32, 3) := by decide +kernel
theorem dX7_type_29 : decode cX7_type 29 = .ok (.aload_n 0, 1) := by decide +kernel
theorem dX7_type_30 : decode cX7_type 30 = .ok (.getfield 63, 3) := by decide +kernel
theorem dX7_type_33 : decode cX7_type 33 = .ok (.iload_n 1, 1) := by decide +kernel
theorem dX7_type_34 : decode cX7_type 34 = .ok (.iastore, 1) := by decide +kernel
theorem dX7_type_35 : decode cX7_type 35 = .ok (.aload_n 0, 1) := by decide +kernel
theorem dX7_type_36 : decode cX7_type 36 = .ok (.dup, 1) := by decide +kernel
theorem dX7_type_37 : decode cX7_type 37 = .ok (.getfield 63, 3) := by decide +kernel
theorem dX7_type_40 : decode cX7_type 40 = .ok (.iconst 1, 1) := by decide +kernel
theorem dX7_type_41 : decode cX7_type 41 = .ok (.iadd, 1) := by decide +kernel
theorem dX7_type_42 : decode cX7_type 42 = .ok (.putfield 63, 3) := by decide +kernel
theorem dX7_type_45 : decode cX7_type 45 = .ok (.aload_n 0, 1) := by decide +kernel
theorem dX7_type_46 : decode cX7_type 46 = .ok (.getfield 63, 3) := by decide +kernel
theorem dX7_type_49 : decode cX7_type 49 = .ok (.ireturn, 1) := by decide +kernel
theorem dX7_clear_0 : decode cX7_clear 0 = .ok (.aload_n 0, 1) := by decide +kernel
theorem dX7_clear_1 : decode cX7_clear 1 = .ok (.getfield 63, 3) := by decide +kernel
theorem dX7_clear_4 : decode cX7_clear 4 = .ok (.istore_n 1, 1) := by decide +kernel
theorem dX7_clear_5 : decode cX7_clear 5 = .ok (.aload_n 0, 1) := by decide +kernel
theorem dX7_clear_6 : decode cX7_clear 6 = .ok (.iconst 0, 1) := by decide +kernel
theorem dX7_clear_7 : decode cX7_clear 7 = .ok (.putfield 63, 3) := by decide +kernel
theorem dX7_clear_10 : decode cX7_clear 10 = .ok (.iload_n 1, 1) := by decide +kernel
theorem dX7_clear_11 : decode cX7_clear 11 = .ok (.ireturn, 1) := by decide +kernel
theorem dX7_letterAt_0 : decode cX7_letterAt 0 = .ok (.iload_n 1, 1) := by decide +kernel
theorem dX7_letterAt_1 : decode cX7_letterAt 1 = .ok (.aload_n 0, 1) := by decide +kernel
theorem dX7_letterAt_2 : decode cX7_letterAt 2 = .ok (.getfield 63, 3) := by decide +kernel
theorem dX7_letterAt_5 : decode cX7_letterAt 5 = .ok (.if_icmp .ge 12, 3) := by decide +kernel
theorem dX7_letterAt_8 : decode cX7_letterAt 8 = .ok (.aload_n 0, 1) := by decide +kernel
theorem dX7_letterAt_9 : decode cX7_letterAt 9 = .ok (.getfield 32, 3) := by decide +kernel
theorem dX7_letterAt_12 : decode cX7_letterAt 12 = .ok (.iload_n 1, 1) := by decide +kernel
theorem dX7_letterAt_13 : decode cX7_letterAt 13 = .ok (.iaload, 1) := by decide +kernel
theorem dX7_letterAt_14 : decode cX7_letterAt 14 = .ok (.goto 4, 3) := by decide +kernel
theorem dX7_letterAt_17 : decode cX7_letterAt 17 = .ok (.iconst (-1), 1) := by decide +kernel
theorem dX7_letterAt_18 : decode cX7_letterAt 18 = .ok (.ireturn, 1) := by decide +kernel
set_option maxRecDepth 20000 in
theorem ggX7_isFigure_X7_in : GoodIn wsX7_isFigure wsX7_in := goodIn_r _ [4] (by decide +kernel) (by decide +kernel)
set_option maxRecDepth 20000 in
theorem gX7_isFigure_X7_in : GoodIn wsX7_isFigure (va_wsS RX7 47 yX7_in wsX7_in) := goodIn_app (goodIn_of _ (by decide +kernel)) ggX7_isFigure_X7_in
theorem dX7_isFigure_0 : decode cX7_isFigure 0 = .ok (.iload_n 0, 1) := by decide +kernel
theorem dX7_isFigure_1 : decode cX7_isFigure 1 = .ok (.bipush 48, 2) := by decide +kernel
theorem dX7_isFigure_3 : decode cX7_isFigure 3 = .ok (.bipush 57, 2) := by decide +kernel
theorem dX7_isFigure_5 : decode cX7_isFigure 5 = .ok (.invokestatic 47, 3) := by decide +kernel
theorem dX7_isFigure_8 : decode cX7_isFigure 8 = .ok (.ireturn, 1) := by decide +kernel
set_option maxRecDepth 20000 in
theorem ggX7_token_X7_letterAt : GoodIn wsX7_token wsX7_letterAt := goodIn_r _ [10, 11, 5, 18, 19, 20, 21, 22, 23, 24, 25, 26, 27, 28, 29, 30, 31, 32, 33, 34, 35, 36, 37, 38, 39, 40] (by decide +kernel) (by decide +kernel)
set_option maxRecDepth 20000 in
theorem gX7_token_X7_letterAt : GoodIn wsX7_token (wsV RX7 70 RX7 yX7_letterAt wsX7_letterAt) := goodIn_app (goodIn_of _ (by decide +kernel)) ggX7_token_X7_letterAt
set_option maxRecDepth 20000 in
theorem ggX7_token_X7_isFigure : GoodIn wsX7_token wsX7_isFigure := goodIn_r _ [14, 15, 16, 9, 17] (by decide +kernel) (by decide +kernel)
set_option maxRecDepth 20000 in
theorem gX7_token_X7_isFigure : GoodIn wsX7_token (va_wsS RX7 77 yX7_isFigure wsX7_isFigure) := goodIn_app (goodIn_of _ (by decide +kernel)) ggX7_token_X7_isFigure
theorem dX7_token_0 : decode cX7_token 0 = .ok (.aload_n 0, 1) := by decide +kernel
theorem dX7_token_1 : decode cX7_token 1 = .ok (.aload_n 0, 1) := by decide +kernel
theorem dX7_token_2 : decode cX7_token 2 = .ok (.getfield 67, 3) := by decide +kernel
theorem dX7_token_5 : decode cX7_token 5 = .ok (.invokevirtual 70, 3) := by decide +kernel
theorem dX7_token_8 : decode cX7_token 8 = .ok (.bipush 32, 2) := by decide +kernel
theorem dX7_token_10 : decode cX7_token 10 = .ok (.if_icmp .ne 16, 3) := by decide +kernel
theorem dX7_token_13 : decode cX7_token 13 = .ok (.aload_n 0, 1) := by decide +kernel
theorem dX7_token_14 : decode cX7_token 14 = .ok (.dup, 1) := by decide +kernel
theorem dX7_token_15 : decode cX7_token 15 = .ok (.getfield 67, 3) := by decide +kernel
theorem dX7_token_18 : decode cX7_token 18 = .ok (.iconst 1, 1) := by decide +kernel
theorem dX7_token_19 : decode cX7_token 19 = .ok (.iadd, 1) := by decide +kernel
theorem dX7_token_20 : decode cX7_token 20 = .ok (.putfield 67, 3) := by decide +kernel
theorem dX7_token_23 : decode cX7_token 23 = .ok (.goto (-23), 3) := by decide +kernel
theorem dX7_token_26 : decode cX7_token 26 = .ok (.aload_n 0, 1) := by decide +kernel
theorem dX7_token_27 : decode cX7_token 27 = .ok (.aload_n 0, 1) := by decide +kernel
theorem dX7_token_28 : decode cX7_token 28 = .ok (.getfield 67, 3) := by decide +kernel
theorem dX7_token_31 : decode cX7_token 31 = .ok (.putfield 74, 3) := by decide +kernel
theorem dX7_token_34 : decode cX7_token 34 = .ok (.aload_n 0, 1) := by decide +kernel
theorem dX7_token_35 : decode cX7_token 35 = .ok (.aload_n 0, 1) := by decide +kernel
theorem dX7_token_36 : decode cX7_token 36 = .ok (.getfield 67, 3) := by decide +kernel
theorem dX7_token_39 : decode cX7_token 39 = .ok (.invokevirtual 70, 3) := by decide +kernel
theorem dX7_token_42 : decode cX7_token 42 = .ok (.istore_n 1, 1) := by decide +kernel
theorem dX7_token_43 : decode cX7_token 43 = .ok (.aload_n 0, 1) := by decide +kernel
theorem dX7_token_44 : decode cX7_token 44 = .ok (.iload_n 1, 1) := by decide +kernel
theorem dX7_token_45 : decode cX7_token 45 = .ok (.ifCond .ge 7, 3) := by decide +kernel
theorem dX7_token_48 : decode cX7_token 48 = .ok (.iconst 0, 1) := by decide +kernel
theorem dX7_token_49 : decode cX7_token 49 = .ok (.goto 35, 3) := by decide +kernel
theorem dX7_token_52 : decode cX7_token 52 = .ok (.iload_n 1, 1) := by decide +kernel
theorem dX7_token_53 : decode cX7_token 53 = .ok (.bipush 108, 2) := by decide +kernel
theorem dX7_token_55 : decode cX7_token 55 = .ok (.if_icmp .ne 7, 3) := by decide +kernel
theorem dX7_token_58 : decode cX7_token 58 = .ok (.iconst 1, 1) := by decide +kernel
theorem dX7_token_59 : decode cX7_token 59 = .ok (.goto 25, 3) := by decide +kernel
theorem dX7_token_62 : decode cX7_token 62 = .ok (.iload_n 1, 1) := by decide +kernel
theorem dX7_token_63 : decode cX7_token 63 = .ok (.invokestatic 77, 3) := by decide +kernel
theorem dX7_token_66 : decode cX7_token 66 = .ok (.ifCond .eq 7, 3) := by decide +kernel
theorem dX7_token_69 : decode cX7_token 69 = .ok (.iconst 2, 1) := by decide +kernel
theorem dX7_token_70 : decode cX7_token 70 = .ok (.goto 14, 3) := by decide +kernel
theorem dX7_token_73 : decode cX7_token 73 = .ok (.iload_n 1, 1) := by decide +kernel
theorem dX7_token_74 : decode cX7_token 74 = .ok (.bipush 59, 2) := by decide +kernel
theorem dX7_token_76 : decode cX7_token 76 = .ok (.if_icmp .ne 7, 3) := by decide +kernel
theorem dX7_token_79 : decode cX7_token 79 = .ok (.iconst 3, 1) := by decide +kernel
theorem dX7_token_80 : decode cX7_token 80 = .ok (.goto 4, 3) := by decide +kernel
theorem dX7_token_83 : decode cX7_token 83 = .ok (.iconst 4, 1) := by decide +kernel
theorem dX7_token_84 : decode cX7_token 84 = .ok (.putfield 80, 3) := by decide +kernel
theorem dX7_token_87 : decode cX7_token 87 = .ok (.aload_n 0, 1) := by decide +kernel
theorem dX7_token_88 : decode cX7_token 88 = .ok (.dup, 1) := by decide +kernel
theorem dX7_token_89 : decode cX7_token 89 = .ok (.getfield 67, 3) := by decide +kernel
theorem dX7_token_92 : decode cX7_token 92 = .ok (.iload_n 1, 1) := by decide +kernel
theorem dX7_token_93 : decode cX7_token 93 = .ok (.ifCond .ge 7, 3) := by decide +kernel
theorem dX7_token_96 : decode cX7_token 96 = .ok (.iconst 0, 1) := by decide +kernel
theorem dX7_token_97 : decode cX7_token 97 = .ok (.goto 4, 3) := by decide +kernel
theorem dX7_token_100 : decode cX7_token 100 = .ok (.iconst 1, 1) := by decide +kernel
theorem dX7_token_101 : decode cX7_token 101 = .ok (.iadd, 1) := by decide +kernel
theorem dX7_token_102 : decode cX7_token 102 = .ok (.putfield 67, 3) := by decide +kernel
theorem dX7_token_105 : decode cX7_token 105 = .ok (.aload_n 0, 1) := by decide +kernel
theorem dX7_token_106 : decode cX7_token 106 = .ok (.getfield 80, 3) := by decide +kernel
theorem dX7_token_109 : decode cX7_token 109 = .ok (.iconst 2, 1) := by decide +kernel
theorem dX7_token_110 : decode cX7_token 110 = .ok (.if_icmp .ne 83, 3) := by decide +kernel
theorem dX7_token_113 : decode cX7_token 113 = .ok (.aload_n 0, 1) := by decide +kernel
theorem dX7_token_114 : decode cX7_token 114 = .ok (.iload_n 1, 1) := by decide +kernel
theorem dX7_token_115 : decode cX7_token 115 = .ok (.bipush 48, 2) := by decide +kernel
theorem dX7_token_117 : decode cX7_token 117 = .ok (.isub, 1) := by decide +kernel
theorem dX7_token_118 : decode cX7_token 118 = .ok (.putfield 83, 3) := by decide +kernel
theorem dX7_token_121 : decode cX7_token 121 = .ok (.aload_n 0, 1) := by decide +kernel
theorem dX7_token_122 : decode cX7_token 122 = .ok (.aload_n 0, 1) := by decide +kernel
theorem dX7_token_123 : decode cX7_token 123 = .ok (.getfield 67, 3) := by decide +kernel
theorem dX7_token_126 : decode cX7_token 126 = .ok (.invokevirtual 70, 3) := by decide +kernel
theorem dX7_token_129 : decode cX7_token 129 = .ok (.invokestatic 77, 3) := by decide +kernel
theorem dX7_token_132 : decode cX7_token 132 = .ok (.ifCond .eq 61, 3) := by decide +kernel
theorem dX7_token_135 : decode cX7_token 135 = .ok (.aload_n 0, 1) := by decide +kernel
theorem dX7_token_136 : decode cX7_token 136 = .ok (.iload_n 1, 1) := by decide +kernel
theorem dX7_token_137 : decode cX7_token 137 = .ok (.bipush 48, 2) := by decide +kernel
theorem dX7_token_139 : decode cX7_token 139 = .ok (.if_icmp .eq 12, 3) := by decide +kernel
theorem dX7_token_142 : decode cX7_token 142 = .ok (.aload_n 0, 1) := by decide +kernel
theorem dX7_token_143 : decode cX7_token 143 = .ok (.getfield 83, 3) := by decide +kernel
theorem dX7_token_146 : decode cX7_token 146 = .ok (.bipush 99, 2) := by decide +kernel
theorem dX7_token_148 : decode cX7_token 148 = .ok (.if_icmp .le 9, 3) := by decide +kernel
theorem dX7_token_151 : decode cX7_token 151 = .ok (.sipush 1000, 3) := by decide +kernel
theorem dX7_token_154 : decode cX7_token 154 = .ok (.goto 23, 3) := by decide +kernel
theorem dX7_token_157 : decode cX7_token 157 = .ok (.bipush 10, 2) := by decide +kernel
theorem dX7_token_159 : decode cX7_token 159 = .ok (.aload_n 0, 1) := by decide +kernel
theorem dX7_token_160 : decode cX7_token 160 = .ok (.getfield 83, 3) := by decide +kernel
theorem dX7_token_163 : decode cX7_token 163 = .ok (.imul, 1) := by decide +kernel
theorem dX7_token_164 : decode cX7_token 164 = .ok (.aload_n 0, 1) := by decide +kernel
theorem dX7_token_165 : decode cX7_token 165 = .ok (.getfield 32, 3) := by decide +kernel
theorem dX7_token_168 : decode cX7_token 168 = .ok (.aload_n 0, 1) := by decide +kernel
theorem dX7_token_169 : decode cX7_token 169 = .ok (.getfield 67, 3) := by decide +kernel
theorem dX7_token_172 : decode cX7_token 172 = .ok (.iaload, 1) := by decide +kernel
theorem dX7_token_173 : decode cX7_token 173 = .ok (.iadd, 1) := by decide +kernel
theorem dX7_token_174 : decode cX7_token 174 = .ok (.bipush 48, 2) := by decide +kernel
theorem dX7_token_176 : decode cX7_token 176 = .ok (.isub, 1) := by decide +kernel
theorem dX7_token_177 : decode cX7_token 177 = .ok (.putfield 83, 3) := by decide +kernel
theorem dX7_token_180 : decode cX7_token 180 = .ok (.aload_n 0, 1) := by decide +kernel
theorem dX7_token_181 : decode cX7_token 181 = .ok (.dup, 1) := by decide +kernel
theorem dX7_token_182 : decode cX7_token 182 = .ok (.getfield 67, 3) := by decide +kernel
theorem dX7_token_185 : decode cX7_token 185 = .ok (.iconst 1, 1) := by decide +kernel
theorem dX7_token_186 : decode cX7_token 186 = .ok (.iadd, 1) := by decide +kernel
theorem dX7_token_187 : decode cX7_token 187 = .ok (.putfield 67, 3) := by decide +kernel
theorem dX7_token_190 : decode cX7_token 190 = .ok (.goto (-69), 3) := by decide +kernel
theorem dX7_token_193 : decode cX7_token 193 = .ok (.return_, 1) := by decide +kernel
set_option maxRecDepth 20000 in
theorem ggX7_number_X7_token : GoodIn wsX7_number wsX7_token := goodIn_r _ [8, 9, 10, 3, 2, 11, 12, 13, 14, 7, 15, 16, 17, 18, 19, 20, 21, 22, 23, 24, 25, 26, 27, 28, 29, 30, 31, 32, 33, 34, 35, 36, 37, 38, 39, 40, 41, 42, 43, 44, 45] (by decide +kernel) (by decide +kernel)
set_option maxRecDepth 20000 in
theorem gX7_number_X7_token : GoodIn wsX7_number (wsV RX7 86 RX7 yX7_token wsX7_token) := goodIn_app (goodIn_of _ (by decide +kernel)) ggX7_number_X7_token
set_option maxRecDepth 20000 in
theorem ggX7_number_X7_in : GoodIn wsX7_number wsX7_in := goodIn_r _ [22] (by decide +kernel) (by decide +kernel)
set_option maxRecDepth 20000 in
theorem gX7_number_X7_in : GoodIn wsX7_number (va_wsS RX7 47 yX7_in wsX7_in) := goodIn_app (goodIn_of _ (by decide +kernel)) ggX7_number_X7_in
theorem dX7_number_0 : decode cX7_number 0 = .ok (.aload_n 0, 1) := by decide +kernel
theorem dX7_number_1 : decode cX7_number 1 = .ok (.invokevirtual 86, 3) := by decide +kernel
theorem dX7_number_4 : decode cX7_number 4 = .ok (.aload_n 0, 1) := by decide +kernel
theorem dX7_number_5 : decode cX7_number 5 = .ok (.getfield 13, 3) := by decide +kernel
theorem dX7_number_8 : decode cX7_number 8 = .ok (.iload_n 1, 1) := by decide +kernel
theorem dX7_number_9 : decode cX7_number 9 = .ok (.aload_n 0, 1) := by decide +kernel
theorem dX7_number_10 : decode cX7_number 10 = .ok (.getfield 83, 3) := by decide +kernel
theorem dX7_number_13 : decode cX7_number 13 = .ok (.iastore, 1) := by decide +kernel
theorem dX7_number_14 : decode cX7_number 14 = .ok (.aload_n 0, 1) := by decide +kernel
theorem dX7_number_15 : decode cX7_number 15 = .ok (.getfield 80, 3) := by decide +kernel
theorem dX7_number_18 : decode cX7_number 18 = .ok (.iconst 2, 1) := by decide +kernel
theorem dX7_number_19 : decode cX7_number 19 = .ok (.if_icmp .ne 19, 3) := by decide +kernel
theorem dX7_number_22 : decode cX7_number 22 = .ok (.aload_n 0, 1) := by decide +kernel
theorem dX7_number_23 : decode cX7_number 23 = .ok (.getfield 83, 3) := by decide +kernel
theorem dX7_number_26 : decode cX7_number 26 = .ok (.iload_n 2, 1) := by decide +kernel
theorem dX7_number_27 : decode cX7_number 27 = .ok (.iload_n 3, 1) := by decide +kernel
theorem dX7_number_28 : decode cX7_number 28 = .ok (.invokestatic 47, 3) := by decide +kernel
theorem dX7_number_31 : decode cX7_number 31 = .ok (.ifCond .eq 7, 3) := by decide +kernel
theorem dX7_number_34 : decode cX7_number 34 = .ok (.iconst 1, 1) := by decide +kernel
theorem dX7_number_35 : decode cX7_number 35 = .ok (.goto 4, 3) := by decide +kernel
theorem dX7_number_38 : decode cX7_number 38 = .ok (.iconst 0, 1) := by decide +kernel
theorem dX7_number_39 : decode cX7_number 39 = .ok (.ireturn, 1) := by decide +kernel
set_option maxRecDepth 20000 in
theorem ggX7_readsLeaf_X7_number : GoodIn wsX7_readsLeaf wsX7_number := goodIn_r _ [7, 1, 8, 2, 9, 10, 11, 6, 12, 13, 14, 15, 16, 17, 18, 19, 20, 21, 22, 23, 24, 25, 26, 27, 28, 29, 30, 31, 32, 33, 34, 35, 36, 37, 38, 39, 40, 41, 42, 43, 44, 45, 46, 47, 48, 49] (by decide +kernel) (by decide +kernel)
set_option maxRecDepth 20000 in
theorem gX7_readsLeaf_X7_number : GoodIn wsX7_readsLeaf (wsV RX7 89 RX7 yX7_number wsX7_number) := goodIn_app (goodIn_of _ (by decide +kernel)) ggX7_readsLeaf_X7_number
set_option maxRecDepth 20000 in
theorem ggX7_readsLeaf_X7_token : GoodIn wsX7_readsLeaf wsX7_token := goodIn_r _ [12, 13, 14, 2, 8, 15, 16, 17, 18, 6, 19, 20, 21, 22, 23, 24, 25, 26, 27, 28, 29, 30, 31, 32, 33, 34, 35, 36, 37, 38, 39, 40, 41, 42, 43, 44, 45, 46, 47, 48, 49] (by decide +kernel) (by decide +kernel)
set_option maxRecDepth 20000 in
theorem gX7_readsLeaf_X7_token : GoodIn wsX7_readsLeaf (wsV RX7 86 RX7 yX7_token wsX7_token) := goodIn_app (goodIn_of _ (by decide +kernel)) ggX7_readsLeaf_X7_token
theorem dX7_readsLeaf_0 : decode cX7_readsLeaf 0 = .ok (.aload_n 0, 1) := by decide +kernel
theorem dX7_readsLeaf_1 : decode cX7_readsLeaf 1 = .ok (.getfield 13, 3) := by decide +kernel
theorem dX7_readsLeaf_4 : decode cX7_readsLeaf 4 = .ok (.iconst 0, 1) := by decide +kernel
theorem dX7_readsLeaf_5 : decode cX7_readsLeaf 5 = .ok (.iaload, 1) := by decide +kernel
theorem dX7_readsLeaf_6 : decode cX7_readsLeaf 6 = .ok (.istore_n 1, 1) := by decide +kernel
theorem dX7_readsLeaf_7 : decode cX7_readsLeaf 7 = .ok (.aload_n 0, 1) := by decide +kernel
theorem dX7_readsLeaf_8 : decode cX7_readsLeaf 8 = .ok (.getfield 80, 3) := by decide +kernel
theorem dX7_readsLeaf_11 : decode cX7_readsLeaf 11 = .ok (.iconst 1, 1) := by decide +kernel
theorem dX7_readsLeaf_12 : decode cX7_readsLeaf 12 = .ok (.if_icmp .ne 9, 3) := by decide +kernel
theorem dX7_readsLeaf_15 : decode cX7_readsLeaf 15 = .ok (.iload_n 1, 1) := by decide +kernel
theorem dX7_readsLeaf_16 : decode cX7_readsLeaf 16 = .ok (.bipush 8, 2) := by decide +kernel
theorem dX7_readsLeaf_18 : decode cX7_readsLeaf 18 = .ok (.if_icmp .ne 5, 3) := by decide +kernel
theorem dX7_readsLeaf_21 : decode cX7_readsLeaf 21 = .ok (.iconst 0, 1) := by decide +kernel
theorem dX7_readsLeaf_22 : decode cX7_readsLeaf 22 = .ok (.ireturn, 1) := by decide +kernel
theorem dX7_readsLeaf_23 : decode cX7_readsLeaf 23 = .ok (.iconst 5, 1) := by decide +kernel
theorem dX7_readsLeaf_24 : decode cX7_readsLeaf 24 = .ok (.iload_n 1, 1) := by decide +kernel
theorem dX7_readsLeaf_25 : decode cX7_readsLeaf 25 = .ok (.imul, 1) := by decide +kernel
theorem dX7_readsLeaf_26 : decode cX7_readsLeaf 26 = .ok (.istore_n 2, 1) := by decide +kernel
theorem dX7_readsLeaf_27 : decode cX7_readsLeaf 27 = .ok (.iload_n 1, 1) := by decide +kernel
theorem dX7_readsLeaf_28 : decode cX7_readsLeaf 28 = .ok (.ifCond .ne 8, 3) := by decide +kernel
theorem dX7_readsLeaf_31 : decode cX7_readsLeaf 31 = .ok (.bipush 9, 2) := by decide +kernel
theorem dX7_readsLeaf_33 : decode cX7_readsLeaf 33 = .ok (.goto 13, 3) := by decide +kernel
theorem dX7_readsLeaf_36 : decode cX7_readsLeaf 36 = .ok (.aload_n 0, 1) := by decide +kernel
theorem dX7_readsLeaf_37 : decode cX7_readsLeaf 37 = .ok (.getfield 13, 3) := by decide +kernel
theorem dX7_readsLeaf_40 : decode cX7_readsLeaf 40 = .ok (.iload_n 2, 1) := by decide +kernel
theorem dX7_readsLeaf_41 : decode cX7_readsLeaf 41 = .ok (.iconst 5, 1) := by decide +kernel
theorem dX7_readsLeaf_42 : decode cX7_readsLeaf 42 = .ok (.isub, 1) := by decide +kernel
theorem dX7_readsLeaf_43 : decode cX7_readsLeaf 43 = .ok (.iconst 1, 1) := by decide +kernel
theorem dX7_readsLeaf_44 : decode cX7_readsLeaf 44 = .ok (.iadd, 1) := by decide +kernel
theorem dX7_readsLeaf_45 : decode cX7_readsLeaf 45 = .ok (.iaload, 1) := by decide +kernel
theorem dX7_readsLeaf_46 : decode cX7_readsLeaf 46 = .ok (.istore_n 3, 1) := by decide +kernel
theorem dX7_readsLeaf_47 : decode cX7_readsLeaf 47 = .ok (.aload_n 0, 1) := by decide +kernel
theorem dX7_readsLeaf_48 : decode cX7_readsLeaf 48 = .ok (.iload_n 2, 1) := by decide +kernel
theorem dX7_readsLeaf_49 : decode cX7_readsLeaf 49 = .ok (.iconst 1, 1) := by decide +kernel
theorem dX7_readsLeaf_50 : decode cX7_readsLeaf 50 = .ok (.iadd, 1) := by decide +kernel
theorem dX7_readsLeaf_51 : decode cX7_readsLeaf 51 = .ok (.iconst 1, 1) := by decide +kernel
theorem dX7_readsLeaf_52 : decode cX7_readsLeaf 52 = .ok (.iload_n 3, 1) := by decide +kernel
theorem dX7_readsLeaf_53 : decode cX7_readsLeaf 53 = .ok (.invokevirtual 89, 3) := by decide +kernel
theorem dX7_readsLeaf_56 : decode cX7_readsLeaf 56 = .ok (.ifCond .eq 42, 3) := by decide +kernel
theorem dX7_readsLeaf_59 : decode cX7_readsLeaf 59 = .ok (.aload_n 0, 1) := by decide +kernel
theorem dX7_readsLeaf_60 : decode cX7_readsLeaf 60 = .ok (.iload_n 2, 1) := by decide +kernel
theorem dX7_readsLeaf_61 : decode cX7_readsLeaf 61 = .ok (.iconst 2, 1) := by decide +kernel
theorem dX7_readsLeaf_62 : decode cX7_readsLeaf 62 = .ok (.iadd, 1) := by decide +kernel
theorem dX7_readsLeaf_63 : decode cX7_readsLeaf 63 = .ok (.iconst 1, 1) := by decide +kernel
theorem dX7_readsLeaf_64 : decode cX7_readsLeaf 64 = .ok (.bipush 9, 2) := by decide +kernel
theorem dX7_readsLeaf_66 : decode cX7_readsLeaf 66 = .ok (.invokevirtual 89, 3) := by decide +kernel
theorem dX7_readsLeaf_69 : decode cX7_readsLeaf 69 = .ok (.ifCond .eq 29, 3) := by decide +kernel
theorem dX7_readsLeaf_72 : decode cX7_readsLeaf 72 = .ok (.aload_n 0, 1) := by decide +kernel
theorem dX7_readsLeaf_73 : decode cX7_readsLeaf 73 = .ok (.iload_n 2, 1) := by decide +kernel
theorem dX7_readsLeaf_74 : decode cX7_readsLeaf 74 = .ok (.iconst 3, 1) := by decide +kernel
theorem dX7_readsLeaf_75 : decode cX7_readsLeaf 75 = .ok (.iadd, 1) := by decide +kernel
theorem dX7_readsLeaf_76 : decode cX7_readsLeaf 76 = .ok (.iconst 0, 1) := by decide +kernel
theorem dX7_readsLeaf_77 : decode cX7_readsLeaf 77 = .ok (.bipush 30, 2) := by decide +kernel
theorem dX7_readsLeaf_79 : decode cX7_readsLeaf 79 = .ok (.invokevirtual 89, 3) := by decide +kernel
theorem dX7_readsLeaf_82 : decode cX7_readsLeaf 82 = .ok (.ifCond .eq 16, 3) := by decide +kernel
theorem dX7_readsLeaf_85 : decode cX7_readsLeaf 85 = .ok (.aload_n 0, 1) := by decide +kernel
theorem dX7_readsLeaf_86 : decode cX7_readsLeaf 86 = .ok (.iload_n 2, 1) := by decide +kernel
theorem dX7_readsLeaf_87 : decode cX7_readsLeaf 87 = .ok (.iconst 4, 1) := by decide +kernel
theorem dX7_readsLeaf_88 : decode cX7_readsLeaf 88 = .ok (.iadd, 1) := by decide +kernel
theorem dX7_readsLeaf_89 : decode cX7_readsLeaf 89 = .ok (.iconst 1, 1) := by decide +kernel
theorem dX7_readsLeaf_90 : decode cX7_readsLeaf 90 = .ok (.bipush 99, 2) := by decide +kernel
theorem dX7_readsLeaf_92 : decode cX7_readsLeaf 92 = .ok (.invokevirtual 89, 3) := by decide +kernel
theorem dX7_readsLeaf_95 : decode cX7_readsLeaf 95 = .ok (.ifCond .ne 5, 3) := by decide +kernel
theorem dX7_readsLeaf_98 : decode cX7_readsLeaf 98 = .ok (.iconst 0, 1) := by decide +kernel
theorem dX7_readsLeaf_99 : decode cX7_readsLeaf 99 = .ok (.ireturn, 1) := by decide +kernel
theorem dX7_readsLeaf_100 : decode cX7_readsLeaf 100 = .ok (.aload_n 0, 1) := by decide +kernel
theorem dX7_readsLeaf_101 : decode cX7_readsLeaf 101 = .ok (.getfield 13, 3) := by decide +kernel
theorem dX7_readsLeaf_104 : decode cX7_readsLeaf 104 = .ok (.iload_n 2, 1) := by decide +kernel
theorem dX7_readsLeaf_105 : decode cX7_readsLeaf 105 = .ok (.iconst 5, 1) := by decide +kernel
theorem dX7_readsLeaf_106 : decode cX7_readsLeaf 106 = .ok (.iadd, 1) := by decide +kernel
theorem dX7_readsLeaf_107 : decode cX7_readsLeaf 107 = .ok (.iconst 1, 1) := by decide +kernel
theorem dX7_readsLeaf_108 : decode cX7_readsLeaf 108 = .ok (.iastore, 1) := by decide +kernel
theorem dX7_readsLeaf_109 : decode cX7_readsLeaf 109 = .ok (.aload_n 0, 1) := by decide +kernel
theorem dX7_readsLeaf_110 : decode cX7_readsLeaf 110 = .ok (.getfield 13, 3) := by decide +kernel
theorem dX7_readsLeaf_113 : decode cX7_readsLeaf 113 = .ok (.iconst 0, 1) := by decide +kernel
theorem dX7_readsLeaf_114 : decode cX7_readsLeaf 114 = .ok (.dup2, 1) := by decide +kernel
theorem dX7_readsLeaf_115 : decode cX7_readsLeaf 115 = .ok (.iaload, 1) := by decide +kernel
theorem dX7_readsLeaf_116 : decode cX7_readsLeaf 116 = .ok (.iconst 1, 1) := by decide +kernel
theorem dX7_readsLeaf_117 : decode cX7_readsLeaf 117 = .ok (.iadd, 1) := by decide +kernel
theorem dX7_readsLeaf_118 : decode cX7_readsLeaf 118 = .ok (.iastore, 1) := by decide +kernel
theorem dX7_readsLeaf_119 : decode cX7_readsLeaf 119 = .ok (.aload_n 0, 1) := by decide +kernel
theorem dX7_readsLeaf_120 : decode cX7_readsLeaf 120 = .ok (.invokevirtual 86, 3) := by decide +kernel
theorem dX7_readsLeaf_123 : decode cX7_readsLeaf 123 = .ok (.aload_n 0, 1) := by decide +kernel
theorem dX7_readsLeaf_124 : decode cX7_readsLeaf 124 = .ok (.getfield 80, 3) := by decide +kernel
theorem dX7_readsLeaf_127 : decode cX7_readsLeaf 127 = .ok (.iconst 3, 1) := by decide +kernel
theorem dX7_readsLeaf_128 : decode cX7_readsLeaf 128 = .ok (.if_icmp .ne 7, 3) := by decide +kernel
theorem dX7_readsLeaf_131 : decode cX7_readsLeaf 131 = .ok (.iconst 1, 1) := by decide +kernel
theorem dX7_readsLeaf_132 : decode cX7_readsLeaf 132 = .ok (.goto 4, 3) := by decide +kernel
theorem dX7_readsLeaf_135 : decode cX7_readsLeaf 135 = .ok (.iconst 0, 1) := by decide +kernel
theorem dX7_readsLeaf_136 : decode cX7_readsLeaf 136 = .ok (.ireturn, 1) := by decide +kernel
set_option maxRecDepth 20000 in
theorem ggX7_reads_X7_token : GoodIn wsX7_reads wsX7_token := goodIn_r _ [8, 2, 9, 3, 10, 11, 12, 13, 14, 7, 15, 16, 17, 18, 19, 20, 21, 22, 31, 32, 33, 34, 35, 36, 37, 38, 39, 40, 41, 42, 43, 44, 45, 46, 47, 48, 49, 50, 51, 52, 53] (by decide +kernel) (by decide +kernel)
set_option maxRecDepth 20000 in
theorem gX7_reads_X7_token : GoodIn wsX7_reads (wsV RX7 86 RX7 yX7_token wsX7_token) := goodIn_app (goodIn_of _ (by decide +kernel)) ggX7_reads_X7_token
set_option maxRecDepth 20000 in
theorem ggX7_reads_X7_readsLeaf : GoodIn wsX7_reads wsX7_readsLeaf := goodIn_r _ [26, 1, 3, 27, 28, 29, 7, 30, 10, 4, 5, 6, 8, 2, 9, 11, 12, 13, 14, 15, 16, 17, 18, 19, 20, 21, 22, 31, 32, 33, 34, 35, 36, 37, 38, 39, 40, 41, 42, 43, 44, 45, 46, 47, 48, 49, 50, 51, 52, 53] (by decide +kernel) (by decide +kernel)
set_option maxRecDepth 20000 in
theorem gX7_reads_X7_readsLeaf : GoodIn wsX7_reads (wsV RX7 92 RX7 yX7_readsLeaf wsX7_readsLeaf) := goodIn_app (goodIn_of _ (by decide +kernel)) ggX7_reads_X7_readsLeaf
theorem dX7_reads_0 : decode cX7_reads 0 = .ok (.iconst 0, 1) := by decide +kernel
theorem dX7_reads_1 : decode cX7_reads 1 = .ok (.istore_n 1, 1) := by decide +kernel
theorem dX7_reads_2 : decode cX7_reads 2 = .ok (.iload_n 1, 1) := by decide +kernel
theorem dX7_reads_3 : decode cX7_reads 3 = .ok (.bipush 41, 2) := by decide +kernel
theorem dX7_reads_5 : decode cX7_reads 5 = .ok (.if_icmp .ge 16, 3) := by decide +kernel
theorem dX7_reads_8 : decode cX7_reads 8 = .ok (.aload_n 0, 1) := by decide +kernel
theorem dX7_reads_9 : decode cX7_reads 9 = .ok (.getfield 13, 3) := by decide +kernel
theorem dX7_reads_12 : decode cX7_reads 12 = .ok (.iload_n 1, 1) := by decide +kernel
theorem dX7_reads_13 : decode cX7_reads 13 = .ok (.iconst 0, 1) := by decide +kernel
theorem dX7_reads_14 : decode cX7_reads 14 = .ok (.iastore, 1) := by decide +kernel
theorem dX7_reads_15 : decode cX7_reads 15 = .ok (.iinc 1 1, 3) := by decide +kernel
theorem dX7_reads_18 : decode cX7_reads 18 = .ok (.goto (-16), 3) := by decide +kernel
theorem dX7_reads_21 : decode cX7_reads 21 = .ok (.aload_n 0, 1) := by decide +kernel
theorem dX7_reads_22 : decode cX7_reads 22 = .ok (.iconst 0, 1) := by decide +kernel
theorem dX7_reads_23 : decode cX7_reads 23 = .ok (.putfield 67, 3) := by decide +kernel
theorem dX7_reads_26 : decode cX7_reads 26 = .ok (.aload_n 0, 1) := by decide +kernel
theorem dX7_reads_27 : decode cX7_reads 27 = .ok (.invokevirtual 86, 3) := by decide +kernel
theorem dX7_reads_30 : decode cX7_reads 30 = .ok (.aload_n 0, 1) := by decide +kernel
theorem dX7_reads_31 : decode cX7_reads 31 = .ok (.invokevirtual 92, 3) := by decide +kernel
theorem dX7_reads_34 : decode cX7_reads 34 = .ok (.ifCond .ne 5, 3) := by decide +kernel
theorem dX7_reads_37 : decode cX7_reads 37 = .ok (.iconst 0, 1) := by decide +kernel
theorem dX7_reads_38 : decode cX7_reads 38 = .ok (.ireturn, 1) := by decide +kernel
theorem dX7_reads_39 : decode cX7_reads 39 = .ok (.aload_n 0, 1) := by decide +kernel
theorem dX7_reads_40 : decode cX7_reads 40 = .ok (.invokevirtual 86, 3) := by decide +kernel
theorem dX7_reads_43 : decode cX7_reads 43 = .ok (.aload_n 0, 1) := by decide +kernel
theorem dX7_reads_44 : decode cX7_reads 44 = .ok (.getfield 80, 3) := by decide +kernel
theorem dX7_reads_47 : decode cX7_reads 47 = .ok (.ifCond .ne (-17), 3) := by decide +kernel
theorem dX7_reads_50 : decode cX7_reads 50 = .ok (.iconst 1, 1) := by decide +kernel
theorem dX7_reads_51 : decode cX7_reads 51 = .ok (.ireturn, 1) := by decide +kernel
set_option maxRecDepth 20000 in
theorem ggX7_tells_X7_reads : GoodIn wsX7_tells wsX7_reads := goodIn_r _ [11, 3, 12, 13, 14, 15, 16, 10, 17, 1, 18, 19, 20, 21, 22, 23, 4, 24, 25, 26, 27, 28, 29, 30, 31, 32, 33, 34, 35, 36, 37, 44, 45, 46, 47, 48, 49, 50, 51, 52, 53, 54, 55, 56, 57, 58, 59, 60, 61, 62, 63, 64, 65, 66] (by decide +kernel) (by decide +kernel)
set_option maxRecDepth 20000 in
theorem gX7_tells_X7_reads : GoodIn wsX7_tells (wsV RX7 96 RX7 yX7_reads wsX7_reads) := goodIn_app (goodIn_of _ (by decide +kernel)) ggX7_tells_X7_reads
set_option maxRecDepth 20000 in
theorem ggX7_tells_X7_notes : GoodIn wsX7_tells wsX7_notes := goodIn_r _ [41, 42, 43, 2, 44, 45, 46, 47, 48, 49, 50, 51, 52, 53, 54, 55, 56, 57, 58, 59, 60, 61, 62, 63, 64, 65, 66] (by decide +kernel) (by decide +kernel)
set_option maxRecDepth 20000 in
theorem gX7_tells_X7_notes : GoodIn wsX7_tells (wsV RX7 99 RX7 yX7_notes wsX7_notes) := goodIn_app (goodIn_of _ (by decide +kernel)) ggX7_tells_X7_notes
theorem dX7_tells_0 : decode cX7_tells 0 = .ok (.aload_n 0, 1) := by decide +kernel
theorem dX7_tells_1 : decode cX7_tells 1 = .ok (.invokevirtual 96, 3) := by decide +kernel
theorem dX7_tells_4 : decode cX7_tells 4 = .ok (.ifCond .ne 11, 3) := by decide +kernel
theorem dX7_tells_7 : decode cX7_tells 7 = .ok (.bipush (-10), 2) := by decide +kernel
theorem dX7_tells_9 : decode cX7_tells 9 = .ok (.aload_n 0, 1) := by decide +kernel
theorem dX7_tells_10 : decode cX7_tells 10 = .ok (.getfield 74, 3) := by decide +kernel
theorem dX7_tells_13 : decode cX7_tells 13 = .ok (.isub, 1) := by decide +kernel
theorem dX7_tells_14 : decode cX7_tells 14 = .ok (.ireturn, 1) := by decide +kernel
theorem dX7_tells_15 : decode cX7_tells 15 = .ok (.aload_n 0, 1) := by decide +kernel
theorem dX7_tells_16 : decode cX7_tells 16 = .ok (.invokevirtual 99, 3) := by decide +kernel
theorem dX7_tells_19 : decode cX7_tells 19 = .ok (.iconst 0, 1) := by decide +kernel
theorem dX7_tells_20 : decode cX7_tells 20 = .ok (.istore_n 1, 1) := by decide +kernel
theorem dX7_tells_21 : decode cX7_tells 21 = .ok (.iload_n 1, 1) := by decide +kernel
theorem dX7_tells_22 : decode cX7_tells 22 = .ok (.bipush 41, 2) := by decide +kernel
theorem dX7_tells_24 : decode cX7_tells 24 = .ok (.if_icmp .ge 21, 3) := by decide +kernel
theorem dX7_tells_27 : decode cX7_tells 27 = .ok (.aload_n 0, 1) := by decide +kernel
theorem dX7_tells_28 : decode cX7_tells 28 = .ok (.getfield 7, 3) := by decide +kernel
theorem dX7_tells_31 : decode cX7_tells 31 = .ok (.iload_n 1, 1) := by decide +kernel
theorem dX7_tells_32 : decode cX7_tells 32 = .ok (.aload_n 0, 1) := by decide +kernel
theorem dX7_tells_33 : decode cX7_tells 33 = .ok (.getfield 13, 3) := by decide +kernel
theorem dX7_tells_36 : decode cX7_tells 36 = .ok (.iload_n 1, 1) := by decide +kernel
theorem dX7_tells_37 : decode cX7_tells 37 = .ok (.iaload, 1) := by decide +kernel
theorem dX7_tells_38 : decode cX7_tells 38 = .ok (.iastore, 1) := by decide +kernel
theorem dX7_tells_39 : decode cX7_tells 39 = .ok (.iinc 1 1, 3) := by decide +kernel
theorem dX7_tells_42 : decode cX7_tells 42 = .ok (.goto (-21), 3) := by decide +kernel
theorem dX7_tells_45 : decode cX7_tells 45 = .ok (.aload_n 0, 1) := by decide +kernel
theorem dX7_tells_46 : decode cX7_tells 46 = .ok (.iconst 0, 1) := by decide +kernel
theorem dX7_tells_47 : decode cX7_tells 47 = .ok (.putfield 63, 3) := by decide +kernel
theorem dX7_tells_50 : decode cX7_tells 50 = .ok (.aload_n 0, 1) := by decide +kernel
theorem dX7_tells_51 : decode cX7_tells 51 = .ok (.iconst 0, 1) := by decide +kernel
theorem dX7_tells_52 : decode cX7_tells 52 = .ok (.putfield 102, 3) := by decide +kernel
theorem dX7_tells_55 : decode cX7_tells 55 = .ok (.aload_n 0, 1) := by decide +kernel
theorem dX7_tells_56 : decode cX7_tells 56 = .ok (.getfield 22, 3) := by decide +kernel
theorem dX7_tells_59 : decode cX7_tells 59 = .ok (.iconst 0, 1) := by decide +kernel
theorem dX7_tells_60 : decode cX7_tells 60 = .ok (.iconst 0, 1) := by decide +kernel
theorem dX7_tells_61 : decode cX7_tells 61 = .ok (.bastore, 1) := by decide +kernel
theorem dX7_tells_62 : decode cX7_tells 62 = .ok (.aload_n 0, 1) := by decide +kernel
theorem dX7_tells_63 : decode cX7_tells 63 = .ok (.getfield 22, 3) := by decide +kernel
theorem dX7_tells_66 : decode cX7_tells 66 = .ok (.iconst 1, 1) := by decide +kernel
theorem dX7_tells_67 : decode cX7_tells 67 = .ok (.iconst 0, 1) := by decide +kernel
theorem dX7_tells_68 : decode cX7_tells 68 = .ok (.bastore, 1) := by decide +kernel
theorem dX7_tells_69 : decode cX7_tells 69 = .ok (.aload_n 0, 1) := by decide +kernel
theorem dX7_tells_70 : decode cX7_tells 70 = .ok (.getfield 7, 3) := by decide +kernel
theorem dX7_tells_73 : decode cX7_tells 73 = .ok (.iconst 0, 1) := by decide +kernel
theorem dX7_tells_74 : decode cX7_tells 74 = .ok (.iaload, 1) := by decide +kernel
theorem dX7_tells_75 : decode cX7_tells 75 = .ok (.ireturn, 1) := by decide +kernel
theorem dX7_notes_0 : decode cX7_notes 0 = .ok (.aload_n 0, 1) := by decide +kernel
theorem dX7_notes_1 : decode cX7_notes 1 = .ok (.getfield 105, 3) := by decide +kernel
theorem dX7_notes_4 : decode cX7_notes 4 = .ok (.bipush 6, 2) := by decide +kernel
theorem dX7_notes_6 : decode cX7_notes 6 = .ok (.if_icmp .ne 43, 3) := by decide +kernel
theorem dX7_notes_9 : decode cX7_notes 9 = .ok (.iconst 0, 1) := by decide +kernel
theorem dX7_notes_10 : decode cX7_notes 10 = .ok (.istore_n 1, 1) := by decide +kernel
theorem dX7_notes_11 : decode cX7_notes 11 = .ok (.iload_n 1, 1) := by decide +kernel
theorem dX7_notes_12 : decode cX7_notes 12 = .ok (.sipush 205, 3) := by decide +kernel
theorem dX7_notes_15 : decode cX7_notes 15 = .ok (.if_icmp .ge 24, 3) := by decide +kernel
theorem dX7_notes_18 : decode cX7_notes 18 = .ok (.aload_n 0, 1) := by decide +kernel
theorem dX7_notes_19 : decode cX7_notes 19 = .ok (.getfield 16, 3) := by decide +kernel
theorem dX7_notes_22 : decode cX7_notes 22 = .ok (.iload_n 1, 1) := by decide +kernel
theorem dX7_notes_23 : decode cX7_notes 23 = .ok (.aload_n 0, 1) := by decide +kernel
theorem dX7_notes_24 : decode cX7_notes 24 = .ok (.getfield 16, 3) := by decide +kernel
theorem dX7_notes_27 : decode cX7_notes 27 = .ok (.iload_n 1, 1) := by decide +kernel
theorem dX7_notes_28 : decode cX7_notes 28 = .ok (.bipush 41, 2) := by decide +kernel
theorem dX7_notes_30 : decode cX7_notes 30 = .ok (.iadd, 1) := by decide +kernel
theorem dX7_notes_31 : decode cX7_notes 31 = .ok (.iaload, 1) := by decide +kernel
theorem dX7_notes_32 : decode cX7_notes 32 = .ok (.iastore, 1) := by decide +kernel
theorem dX7_notes_33 : decode cX7_notes 33 = .ok (.iinc 1 1, 3) := by decide +kernel
theorem dX7_notes_36 : decode cX7_notes 36 = .ok (.goto (-25), 3) := by decide +kernel
theorem dX7_notes_39 : decode cX7_notes 39 = .ok (.aload_n 0, 1) := by decide +kernel
theorem dX7_notes_40 : decode cX7_notes 40 = .ok (.dup, 1) := by decide +kernel
theorem dX7_notes_41 : decode cX7_notes 41 = .ok (.getfield 105, 3) := by decide +kernel
theorem dX7_notes_44 : decode cX7_notes 44 = .ok (.iconst 1, 1) := by decide +kernel
theorem dX7_notes_45 : decode cX7_notes 45 = .ok (.isub, 1) := by decide +kernel
theorem dX7_notes_46 : decode cX7_notes 46 = .ok (.putfield 105, 3) := by decide +kernel
theorem dX7_notes_49 : decode cX7_notes 49 = .ok (.iconst 0, 1) := by decide +kernel
theorem dX7_notes_50 : decode cX7_notes 50 = .ok (.istore_n 1, 1) := by decide +kernel
theorem dX7_notes_51 : decode cX7_notes 51 = .ok (.iload_n 1, 1) := by decide +kernel
theorem dX7_notes_52 : decode cX7_notes 52 = .ok (.bipush 41, 2) := by decide +kernel
theorem dX7_notes_54 : decode cX7_notes 54 = .ok (.if_icmp .ge 29, 3) := by decide +kernel
theorem dX7_notes_57 : decode cX7_notes 57 = .ok (.aload_n 0, 1) := by decide +kernel
theorem dX7_notes_58 : decode cX7_notes 58 = .ok (.getfield 16, 3) := by decide +kernel
theorem dX7_notes_61 : decode cX7_notes 61 = .ok (.bipush 41, 2) := by decide +kernel
theorem dX7_notes_63 : decode cX7_notes 63 = .ok (.aload_n 0, 1) := by decide +kernel
theorem dX7_notes_64 : decode cX7_notes 64 = .ok (.getfield 105, 3) := by decide +kernel
theorem dX7_notes_67 : decode cX7_notes 67 = .ok (.imul, 1) := by decide +kernel
theorem dX7_notes_68 : decode cX7_notes 68 = .ok (.iload_n 1, 1) := by decide +kernel
theorem dX7_notes_69 : decode cX7_notes 69 = .ok (.iadd, 1) := by decide +kernel
theorem dX7_notes_70 : decode cX7_notes 70 = .ok (.aload_n 0, 1) := by decide +kernel
theorem dX7_notes_71 : decode cX7_notes 71 = .ok (.getfield 7, 3) := by decide +kernel
theorem dX7_notes_74 : decode cX7_notes 74 = .ok (.iload_n 1, 1) := by decide +kernel
theorem dX7_notes_75 : decode cX7_notes 75 = .ok (.iaload, 1) := by decide +kernel
theorem dX7_notes_76 : decode cX7_notes 76 = .ok (.iastore, 1) := by decide +kernel
theorem dX7_notes_77 : decode cX7_notes 77 = .ok (.iinc 1 1, 3) := by decide +kernel
theorem dX7_notes_80 : decode cX7_notes 80 = .ok (.goto (-29), 3) := by decide +kernel
theorem dX7_notes_83 : decode cX7_notes 83 = .ok (.aload_n 0, 1) := by decide +kernel
theorem dX7_notes_84 : decode cX7_notes 84 = .ok (.dup, 1) := by decide +kernel
theorem dX7_notes_85 : decode cX7_notes 85 = .ok (.getfield 105, 3) := by decide +kernel
theorem dX7_notes_88 : decode cX7_notes 88 = .ok (.iconst 1, 1) := by decide +kernel
theorem dX7_notes_89 : decode cX7_notes 89 = .ok (.iadd, 1) := by decide +kernel
theorem dX7_notes_90 : decode cX7_notes 90 = .ok (.putfield 105, 3) := by decide +kernel
theorem dX7_notes_93 : decode cX7_notes 93 = .ok (.return_, 1) := by decide +kernel
theorem dX7_undo_0 : decode cX7_undo 0 = .ok (.aload_n 0, 1) := by decide +kernel
theorem dX7_undo_1 : decode cX7_undo 1 = .ok (.getfield 105, 3) := by decide +kernel
theorem dX7_undo_4 : decode cX7_undo 4 = .ok (.ifCond .ne 6, 3) := by decide +kernel
theorem dX7_undo_7 : decode cX7_undo 7 = .ok (.bipush (-2), 2) := by decide +kernel
theorem dX7_undo_9 : decode cX7_undo 9 = .ok (.ireturn, 1) := by decide +kernel
theorem dX7_undo_10 : decode cX7_undo 10 = .ok (.aload_n 0, 1) := by decide +kernel
theorem dX7_undo_11 : decode cX7_undo 11 = .ok (.dup, 1) := by decide +kernel
theorem dX7_undo_12 : decode cX7_undo 12 = .ok (.getfield 105, 3) := by decide +kernel
theorem dX7_undo_15 : decode cX7_undo 15 = .ok (.iconst 1, 1) := by decide +kernel
theorem dX7_undo_16 : decode cX7_undo 16 = .ok (.isub, 1) := by decide +kernel
theorem dX7_undo_17 : decode cX7_undo 17 = .ok (.putfield 105, 3) := by decide +kernel
theorem dX7_undo_20 : decode cX7_undo 20 = .ok (.iconst 0, 1) := by decide +kernel
theorem dX7_undo_21 : decode cX7_undo 21 = .ok (.istore_n 1, 1) := by decide +kernel
theorem dX7_undo_22 : decode cX7_undo 22 = .ok (.iload_n 1, 1) := by decide +kernel
theorem dX7_undo_23 : decode cX7_undo 23 = .ok (.bipush 41, 2) := by decide +kernel
theorem dX7_undo_25 : decode cX7_undo 25 = .ok (.if_icmp .ge 29, 3) := by decide +kernel
theorem dX7_undo_28 : decode cX7_undo 28 = .ok (.aload_n 0, 1) := by decide +kernel
theorem dX7_undo_29 : decode cX7_undo 29 = .ok (.getfield 7, 3) := by decide +kernel
theorem dX7_undo_32 : decode cX7_undo 32 = .ok (.iload_n 1, 1) := by decide +kernel
theorem dX7_undo_33 : decode cX7_undo 33 = .ok (.aload_n 0, 1) := by decide +kernel
theorem dX7_undo_34 : decode cX7_undo 34 = .ok (.getfield 16, 3) := by decide +kernel
theorem dX7_undo_37 : decode cX7_undo 37 = .ok (.bipush 41, 2) := by decide +kernel
theorem dX7_undo_39 : decode cX7_undo 39 = .ok (.aload_n 0, 1) := by decide +kernel
theorem dX7_undo_40 : decode cX7_undo 40 = .ok (.getfield 105, 3) := by decide +kernel
theorem dX7_undo_43 : decode cX7_undo 43 = .ok (.imul, 1) := by decide +kernel
theorem dX7_undo_44 : decode cX7_undo 44 = .ok (.iload_n 1, 1) := by decide +kernel
theorem dX7_undo_45 : decode cX7_undo 45 = .ok (.iadd, 1) := by decide +kernel
theorem dX7_undo_46 : decode cX7_undo 46 = .ok (.iaload, 1) := by decide +kernel
theorem dX7_undo_47 : decode cX7_undo 47 = .ok (.iastore, 1) := by decide +kernel
theorem dX7_undo_48 : decode cX7_undo 48 = .ok (.iinc 1 1, 3) := by decide +kernel
theorem dX7_undo_51 : decode cX7_undo 51 = .ok (.goto (-29), 3) := by decide +kernel
theorem dX7_undo_54 : decode cX7_undo 54 = .ok (.aload_n 0, 1) := by decide +kernel
theorem dX7_undo_55 : decode cX7_undo 55 = .ok (.getfield 105, 3) := by decide +kernel
theorem dX7_undo_58 : decode cX7_undo 58 = .ok (.ireturn, 1) := by decide +kernel
set_option maxRecDepth 20000 in
theorem ggX7_reaches_X7_has : GoodIn wsX7_reaches wsX7_has := goodIn_r _ [7] (by decide +kernel) (by decide +kernel)
set_option maxRecDepth 20000 in
theorem gX7_reaches_X7_has : GoodIn wsX7_reaches (va_wsS RX7 59 yX7_has wsX7_has) := goodIn_app (goodIn_of _ (by decide +kernel)) ggX7_reaches_X7_has
set_option maxRecDepth 20000 in
theorem ggX7_reaches_X7_of : GoodIn wsX7_reaches wsX7_of := goodIn_r _ [11, 1, 12, 13, 14, 15, 16, 17, 18, 19, 20, 21, 22, 23, 24, 25, 26, 27, 28, 29, 30, 31, 32, 33, 34] (by decide +kernel) (by decide +kernel)
set_option maxRecDepth 20000 in
theorem gX7_reaches_X7_of : GoodIn wsX7_reaches (wsV RX7 51 RX7 yX7_of wsX7_of) := goodIn_app (goodIn_of _ (by decide +kernel)) ggX7_reaches_X7_of
theorem dX7_reaches_0 : decode cX7_reaches 0 = .ok (.bipush (-9), 2) := by decide +kernel
theorem dX7_reaches_2 : decode cX7_reaches 2 = .ok (.istore_n 2, 1) := by decide +kernel
theorem dX7_reaches_3 : decode cX7_reaches 3 = .ok (.iconst 0, 1) := by decide +kernel
theorem dX7_reaches_4 : decode cX7_reaches 4 = .ok (.istore_n 3, 1) := by decide +kernel
theorem dX7_reaches_5 : decode cX7_reaches 5 = .ok (.iconst 0, 1) := by decide +kernel
theorem dX7_reaches_6 : decode cX7_reaches 6 = .ok (.istore 4, 2) := by decide +kernel
theorem dX7_reaches_8 : decode cX7_reaches 8 = .ok (.iload 4, 2) := by decide +kernel
theorem dX7_reaches_10 : decode cX7_reaches 10 = .ok (.aload_n 0, 1) := by decide +kernel
theorem dX7_reaches_11 : decode cX7_reaches 11 = .ok (.getfield 7, 3) := by decide +kernel
theorem dX7_reaches_14 : decode cX7_reaches 14 = .ok (.iconst 0, 1) := by decide +kernel
theorem dX7_reaches_15 : decode cX7_reaches 15 = .ok (.iaload, 1) := by decide +kernel
theorem dX7_reaches_16 : decode cX7_reaches 16 = .ok (.if_icmp .ge 91, 3) := by decide +kernel
theorem dX7_reaches_19 : decode cX7_reaches 19 = .ok (.iload_n 1, 1) := by decide +kernel
theorem dX7_reaches_20 : decode cX7_reaches 20 = .ok (.iload 4, 2) := by decide +kernel
theorem dX7_reaches_22 : decode cX7_reaches 22 = .ok (.invokestatic 59, 3) := by decide +kernel
theorem dX7_reaches_25 : decode cX7_reaches 25 = .ok (.ifCond .eq 76, 3) := by decide +kernel
theorem dX7_reaches_28 : decode cX7_reaches 28 = .ok (.iload_n 2, 1) := by decide +kernel
theorem dX7_reaches_29 : decode cX7_reaches 29 = .ok (.bipush (-9), 2) := by decide +kernel
theorem dX7_reaches_31 : decode cX7_reaches 31 = .ok (.if_icmp .ne 7, 3) := by decide +kernel
theorem dX7_reaches_34 : decode cX7_reaches 34 = .ok (.iconst 0, 1) := by decide +kernel
theorem dX7_reaches_35 : decode cX7_reaches 35 = .ok (.goto 25, 3) := by decide +kernel
theorem dX7_reaches_38 : decode cX7_reaches 38 = .ok (.aload_n 0, 1) := by decide +kernel
theorem dX7_reaches_39 : decode cX7_reaches 39 = .ok (.iload_n 2, 1) := by decide +kernel
theorem dX7_reaches_40 : decode cX7_reaches 40 = .ok (.ifCond .ge 7, 3) := by decide +kernel
theorem dX7_reaches_43 : decode cX7_reaches 43 = .ok (.iconst 0, 1) := by decide +kernel
theorem dX7_reaches_44 : decode cX7_reaches 44 = .ok (.goto 4, 3) := by decide +kernel
theorem dX7_reaches_47 : decode cX7_reaches 47 = .ok (.iload_n 2, 1) := by decide +kernel
theorem dX7_reaches_48 : decode cX7_reaches 48 = .ok (.iconst 3, 1) := by decide +kernel
theorem dX7_reaches_49 : decode cX7_reaches 49 = .ok (.invokevirtual 51, 3) := by decide +kernel
theorem dX7_reaches_52 : decode cX7_reaches 52 = .ok (.aload_n 0, 1) := by decide +kernel
theorem dX7_reaches_53 : decode cX7_reaches 53 = .ok (.iload 4, 2) := by decide +kernel
theorem dX7_reaches_55 : decode cX7_reaches 55 = .ok (.iconst 3, 1) := by decide +kernel
theorem dX7_reaches_56 : decode cX7_reaches 56 = .ok (.invokevirtual 51, 3) := by decide +kernel
theorem dX7_reaches_59 : decode cX7_reaches 59 = .ok (.isub, 1) := by decide +kernel
theorem dX7_reaches_60 : decode cX7_reaches 60 = .ok (.istore 5, 2) := by decide +kernel
theorem dX7_reaches_62 : decode cX7_reaches 62 = .ok (.aload_n 0, 1) := by decide +kernel
theorem dX7_reaches_63 : decode cX7_reaches 63 = .ok (.getfield 35, 3) := by decide +kernel
theorem dX7_reaches_66 : decode cX7_reaches 66 = .ok (.iload 4, 2) := by decide +kernel
theorem dX7_reaches_68 : decode cX7_reaches 68 = .ok (.iload 5, 2) := by decide +kernel
theorem dX7_reaches_70 : decode cX7_reaches 70 = .ok (.ifCond .ge 7, 3) := by decide +kernel
theorem dX7_reaches_73 : decode cX7_reaches 73 = .ok (.iconst 0, 1) := by decide +kernel
theorem dX7_reaches_74 : decode cX7_reaches 74 = .ok (.goto 5, 3) := by decide +kernel
theorem dX7_reaches_77 : decode cX7_reaches 77 = .ok (.iload 5, 2) := by decide +kernel
theorem dX7_reaches_79 : decode cX7_reaches 79 = .ok (.iastore, 1) := by decide +kernel
theorem dX7_reaches_80 : decode cX7_reaches 80 = .ok (.iload_n 3, 1) := by decide +kernel
theorem dX7_reaches_81 : decode cX7_reaches 81 = .ok (.aload_n 0, 1) := by decide +kernel
theorem dX7_reaches_82 : decode cX7_reaches 82 = .ok (.getfield 35, 3) := by decide +kernel
theorem dX7_reaches_85 : decode cX7_reaches 85 = .ok (.iload 4, 2) := by decide +kernel
theorem dX7_reaches_87 : decode cX7_reaches 87 = .ok (.iaload, 1) := by decide +kernel
theorem dX7_reaches_88 : decode cX7_reaches 88 = .ok (.iadd, 1) := by decide +kernel
theorem dX7_reaches_89 : decode cX7_reaches 89 = .ok (.istore_n 3, 1) := by decide +kernel
theorem dX7_reaches_90 : decode cX7_reaches 90 = .ok (.aload_n 0, 1) := by decide +kernel
theorem dX7_reaches_91 : decode cX7_reaches 91 = .ok (.getfield 38, 3) := by decide +kernel
theorem dX7_reaches_94 : decode cX7_reaches 94 = .ok (.iload 4, 2) := by decide +kernel
theorem dX7_reaches_96 : decode cX7_reaches 96 = .ok (.iload_n 3, 1) := by decide +kernel
theorem dX7_reaches_97 : decode cX7_reaches 97 = .ok (.iastore, 1) := by decide +kernel
theorem dX7_reaches_98 : decode cX7_reaches 98 = .ok (.iload 4, 2) := by decide +kernel
theorem dX7_reaches_100 : decode cX7_reaches 100 = .ok (.istore_n 2, 1) := by decide +kernel
theorem dX7_reaches_101 : decode cX7_reaches 101 = .ok (.iinc 4 1, 3) := by decide +kernel
theorem dX7_reaches_104 : decode cX7_reaches 104 = .ok (.goto (-96), 3) := by decide +kernel
theorem dX7_reaches_107 : decode cX7_reaches 107 = .ok (.return_, 1) := by decide +kernel
set_option maxRecDepth 20000 in
theorem ggX7_bends_X7_reaches : GoodIn wsX7_bends wsX7_reaches := goodIn_r _ [11, 5, 12, 6, 13, 14, 10, 15, 16, 17, 18, 19, 20, 21, 22, 23, 24, 25, 26, 27, 28, 29, 30, 31, 32, 33, 34, 35, 36, 37, 38, 39, 40, 41, 42] (by decide +kernel) (by decide +kernel)
set_option maxRecDepth 20000 in
theorem gX7_bends_X7_reaches : GoodIn wsX7_bends (wsV RX7 108 RX7 yX7_reaches wsX7_reaches) := goodIn_app (goodIn_of _ (by decide +kernel)) ggX7_bends_X7_reaches
set_option maxRecDepth 20000 in
theorem ggX7_bends_X7_has : GoodIn wsX7_bends wsX7_has := goodIn_r _ [15] (by decide +kernel) (by decide +kernel)
set_option maxRecDepth 20000 in
theorem gX7_bends_X7_has : GoodIn wsX7_bends (va_wsS RX7 59 yX7_has wsX7_has) := goodIn_app (goodIn_of _ (by decide +kernel)) ggX7_bends_X7_has
set_option maxRecDepth 20000 in
theorem ggX7_bends_X7_of : GoodIn wsX7_bends wsX7_of := goodIn_r _ [19, 5, 20, 21, 22, 23, 24, 25, 26, 27, 28, 29, 30, 31, 32, 33, 34, 35, 36, 37, 38, 39, 40, 41, 42] (by decide +kernel) (by decide +kernel)
set_option maxRecDepth 20000 in
theorem gX7_bends_X7_of : GoodIn wsX7_bends (wsV RX7 51 RX7 yX7_of wsX7_of) := goodIn_app (goodIn_of _ (by decide +kernel)) ggX7_bends_X7_of
theorem dX7_bends_0 : decode cX7_bends 0 = .ok (.aload_n 0, 1) := by decide +kernel
theorem dX7_bends_1 : decode cX7_bends 1 = .ok (.iload_n 1, 1) := by decide +kernel
theorem dX7_bends_2 : decode cX7_bends 2 = .ok (.invokevirtual 108, 3) := by decide +kernel
theorem dX7_bends_5 : decode cX7_bends 5 = .ok (.aload_n 0, 1) := by decide +kernel
theorem dX7_bends_6 : decode cX7_bends 6 = .ok (.iconst 0, 1) := by decide +kernel
theorem dX7_bends_7 : decode cX7_bends 7 = .ok (.putfield 112, 3) := by decide +kernel
theorem dX7_bends_10 : decode cX7_bends 10 = .ok (.aload_n 0, 1) := by decide +kernel
theorem dX7_bends_11 : decode cX7_bends 11 = .ok (.iconst 1, 1) := by decide +kernel
theorem dX7_bends_12 : decode cX7_bends 12 = .ok (.putfield 115, 3) := by decide +kernel
theorem dX7_bends_15 : decode cX7_bends 15 = .ok (.aload_n 0, 1) := by decide +kernel
theorem dX7_bends_16 : decode cX7_bends 16 = .ok (.iconst 0, 1) := by decide +kernel
theorem dX7_bends_17 : decode cX7_bends 17 = .ok (.putfield 118, 3) := by decide +kernel
theorem dX7_bends_20 : decode cX7_bends 20 = .ok (.aload_n 0, 1) := by decide +kernel
theorem dX7_bends_21 : decode cX7_bends 21 = .ok (.iload_n 3, 1) := by decide +kernel
theorem dX7_bends_22 : decode cX7_bends 22 = .ok (.ifCond .eq 7, 3) := by decide +kernel
theorem dX7_bends_25 : decode cX7_bends 25 = .ok (.iload_n 2, 1) := by decide +kernel
theorem dX7_bends_26 : decode cX7_bends 26 = .ok (.ifCond .eq 7, 3) := by decide +kernel
theorem dX7_bends_29 : decode cX7_bends 29 = .ok (.iconst 1, 1) := by decide +kernel
theorem dX7_bends_30 : decode cX7_bends 30 = .ok (.goto 4, 3) := by decide +kernel
theorem dX7_bends_33 : decode cX7_bends 33 = .ok (.iconst 0, 1) := by decide +kernel
theorem dX7_bends_34 : decode cX7_bends 34 = .ok (.putfield 121, 3) := by decide +kernel
theorem dX7_bends_37 : decode cX7_bends 37 = .ok (.iconst 0, 1) := by decide +kernel
theorem dX7_bends_38 : decode cX7_bends 38 = .ok (.istore 4, 2) := by decide +kernel
theorem dX7_bends_40 : decode cX7_bends 40 = .ok (.iconst 0, 1) := by decide +kernel
theorem dX7_bends_41 : decode cX7_bends 41 = .ok (.istore 5, 2) := by decide +kernel
theorem dX7_bends_43 : decode cX7_bends 43 = .ok (.iconst 0, 1) := by decide +kernel
theorem dX7_bends_44 : decode cX7_bends 44 = .ok (.istore 6, 2) := by decide +kernel
theorem dX7_bends_46 : decode cX7_bends 46 = .ok (.iload 6, 2) := by decide +kernel
theorem dX7_bends_48 : decode cX7_bends 48 = .ok (.aload_n 0, 1) := by decide +kernel
theorem dX7_bends_49 : decode cX7_bends 49 = .ok (.getfield 7, 3) := by decide +kernel
theorem dX7_bends_52 : decode cX7_bends 52 = .ok (.iconst 0, 1) := by decide +kernel
theorem dX7_bends_53 : decode cX7_bends 53 = .ok (.iaload, 1) := by decide +kernel
theorem dX7_bends_54 : decode cX7_bends 54 = .ok (.if_icmp .ge 108, 3) := by decide +kernel
theorem dX7_bends_57 : decode cX7_bends 57 = .ok (.iload_n 3, 1) := by decide +kernel
theorem dX7_bends_58 : decode cX7_bends 58 = .ok (.ifCond .le 104, 3) := by decide +kernel
theorem dX7_bends_61 : decode cX7_bends 61 = .ok (.iload_n 2, 1) := by decide +kernel
theorem dX7_bends_62 : decode cX7_bends 62 = .ok (.iload 6, 2) := by decide +kernel
theorem dX7_bends_64 : decode cX7_bends 64 = .ok (.invokestatic 59, 3) := by decide +kernel
theorem dX7_bends_67 : decode cX7_bends 67 = .ok (.ifCond .eq 29, 3) := by decide +kernel
theorem dX7_bends_70 : decode cX7_bends 70 = .ok (.iload 5, 2) := by decide +kernel
theorem dX7_bends_72 : decode cX7_bends 72 = .ok (.ifCond .eq 20, 3) := by decide +kernel
theorem dX7_bends_75 : decode cX7_bends 75 = .ok (.iload_n 3, 1) := by decide +kernel
theorem dX7_bends_76 : decode cX7_bends 76 = .ok (.iload 4, 2) := by decide +kernel
theorem dX7_bends_78 : decode cX7_bends 78 = .ok (.iadd, 1) := by decide +kernel
theorem dX7_bends_79 : decode cX7_bends 79 = .ok (.aload_n 0, 1) := by decide +kernel
theorem dX7_bends_80 : decode cX7_bends 80 = .ok (.getfield 38, 3) := by decide +kernel
theorem dX7_bends_83 : decode cX7_bends 83 = .ok (.iload 6, 2) := by decide +kernel
theorem dX7_bends_85 : decode cX7_bends 85 = .ok (.iaload, 1) := by decide +kernel
theorem dX7_bends_86 : decode cX7_bends 86 = .ok (.iload 5, 2) := by decide +kernel
theorem dX7_bends_88 : decode cX7_bends 88 = .ok (.imul, 1) := by decide +kernel
theorem dX7_bends_89 : decode cX7_bends 89 = .ok (.if_icmp .le 7, 3) := by decide +kernel
theorem dX7_bends_92 : decode cX7_bends 92 = .ok (.iconst 1, 1) := by decide +kernel
theorem dX7_bends_93 : decode cX7_bends 93 = .ok (.goto 4, 3) := by decide +kernel
theorem dX7_bends_96 : decode cX7_bends 96 = .ok (.iconst 0, 1) := by decide +kernel
theorem dX7_bends_97 : decode cX7_bends 97 = .ok (.istore 7, 2) := by decide +kernel
theorem dX7_bends_99 : decode cX7_bends 99 = .ok (.iload 7, 2) := by decide +kernel
theorem dX7_bends_101 : decode cX7_bends 101 = .ok (.ifCond .eq 55, 3) := by decide +kernel
theorem dX7_bends_104 : decode cX7_bends 104 = .ok (.iload 5, 2) := by decide +kernel
theorem dX7_bends_106 : decode cX7_bends 106 = .ok (.aload_n 0, 1) := by decide +kernel
theorem dX7_bends_107 : decode cX7_bends 107 = .ok (.iload 6, 2) := by decide +kernel
theorem dX7_bends_109 : decode cX7_bends 109 = .ok (.iconst 2, 1) := by decide +kernel
theorem dX7_bends_110 : decode cX7_bends 110 = .ok (.invokevirtual 51, 3) := by decide +kernel
theorem dX7_bends_113 : decode cX7_bends 113 = .ok (.iadd, 1) := by decide +kernel
theorem dX7_bends_114 : decode cX7_bends 114 = .ok (.istore 5, 2) := by decide +kernel
theorem dX7_bends_116 : decode cX7_bends 116 = .ok (.iload 4, 2) := by decide +kernel
theorem dX7_bends_118 : decode cX7_bends 118 = .ok (.aload_n 0, 1) := by decide +kernel
theorem dX7_bends_119 : decode cX7_bends 119 = .ok (.iload 6, 2) := by decide +kernel
theorem dX7_bends_121 : decode cX7_bends 121 = .ok (.iconst 2, 1) := by decide +kernel
theorem dX7_bends_122 : decode cX7_bends 122 = .ok (.invokevirtual 51, 3) := by decide +kernel
theorem dX7_bends_125 : decode cX7_bends 125 = .ok (.aload_n 0, 1) := by decide +kernel
theorem dX7_bends_126 : decode cX7_bends 126 = .ok (.getfield 38, 3) := by decide +kernel
theorem dX7_bends_129 : decode cX7_bends 129 = .ok (.iload 6, 2) := by decide +kernel
theorem dX7_bends_131 : decode cX7_bends 131 = .ok (.iaload, 1) := by decide +kernel
theorem dX7_bends_132 : decode cX7_bends 132 = .ok (.imul, 1) := by decide +kernel
theorem dX7_bends_133 : decode cX7_bends 133 = .ok (.iadd, 1) := by decide +kernel
theorem dX7_bends_134 : decode cX7_bends 134 = .ok (.istore 4, 2) := by decide +kernel
theorem dX7_bends_136 : decode cX7_bends 136 = .ok (.aload_n 0, 1) := by decide +kernel
theorem dX7_bends_137 : decode cX7_bends 137 = .ok (.iload_n 3, 1) := by decide +kernel
theorem dX7_bends_138 : decode cX7_bends 138 = .ok (.iload 4, 2) := by decide +kernel
theorem dX7_bends_140 : decode cX7_bends 140 = .ok (.iadd, 1) := by decide +kernel
theorem dX7_bends_141 : decode cX7_bends 141 = .ok (.putfield 112, 3) := by decide +kernel
theorem dX7_bends_144 : decode cX7_bends 144 = .ok (.aload_n 0, 1) := by decide +kernel
theorem dX7_bends_145 : decode cX7_bends 145 = .ok (.iload 5, 2) := by decide +kernel
theorem dX7_bends_147 : decode cX7_bends 147 = .ok (.putfield 115, 3) := by decide +kernel
theorem dX7_bends_150 : decode cX7_bends 150 = .ok (.aload_n 0, 1) := by decide +kernel
theorem dX7_bends_151 : decode cX7_bends 151 = .ok (.iload 5, 2) := by decide +kernel
theorem dX7_bends_153 : decode cX7_bends 153 = .ok (.putfield 118, 3) := by decide +kernel
theorem dX7_bends_156 : decode cX7_bends 156 = .ok (.iinc 6 1, 3) := by decide +kernel
theorem dX7_bends_159 : decode cX7_bends 159 = .ok (.goto (-113), 3) := by decide +kernel
theorem dX7_bends_162 : decode cX7_bends 162 = .ok (.return_, 1) := by decide +kernel
set_option maxRecDepth 20000 in
theorem ggX7_bearsBy_X7_has : GoodIn wsX7_bearsBy wsX7_has := goodIn_r _ [7] (by decide +kernel) (by decide +kernel)
set_option maxRecDepth 20000 in
theorem gX7_bearsBy_X7_has : GoodIn wsX7_bearsBy (va_wsS RX7 59 yX7_has wsX7_has) := goodIn_app (goodIn_of _ (by decide +kernel)) ggX7_bearsBy_X7_has
set_option maxRecDepth 20000 in
theorem ggX7_bearsBy_X7_of : GoodIn wsX7_bearsBy wsX7_of := goodIn_r _ [11, 12, 13, 14, 15, 16, 17, 18, 19, 20, 21, 22, 23, 24, 25, 26, 27, 28, 29, 30, 31, 32, 33, 34, 35] (by decide +kernel) (by decide +kernel)
set_option maxRecDepth 20000 in
theorem gX7_bearsBy_X7_of : GoodIn wsX7_bearsBy (wsV RX7 51 RX7 yX7_of wsX7_of) := goodIn_app (goodIn_of _ (by decide +kernel)) ggX7_bearsBy_X7_of
theorem dX7_bearsBy_0 : decode cX7_bearsBy 0 = .ok (.iload_n 1, 1) := by decide +kernel
theorem dX7_bearsBy_1 : decode cX7_bearsBy 1 = .ok (.iload_n 2, 1) := by decide +kernel
theorem dX7_bearsBy_2 : decode cX7_bearsBy 2 = .ok (.invokestatic 59, 3) := by decide +kernel
theorem dX7_bearsBy_5 : decode cX7_bearsBy 5 = .ok (.ifCond .eq 22, 3) := by decide +kernel
theorem dX7_bearsBy_8 : decode cX7_bearsBy 8 = .ok (.aload_n 0, 1) := by decide +kernel
theorem dX7_bearsBy_9 : decode cX7_bearsBy 9 = .ok (.getfield 112, 3) := by decide +kernel
theorem dX7_bearsBy_12 : decode cX7_bearsBy 12 = .ok (.aload_n 0, 1) := by decide +kernel
theorem dX7_bearsBy_13 : decode cX7_bearsBy 13 = .ok (.getfield 38, 3) := by decide +kernel
theorem dX7_bearsBy_16 : decode cX7_bearsBy 16 = .ok (.iload_n 2, 1) := by decide +kernel
theorem dX7_bearsBy_17 : decode cX7_bearsBy 17 = .ok (.iaload, 1) := by decide +kernel
theorem dX7_bearsBy_18 : decode cX7_bearsBy 18 = .ok (.aload_n 0, 1) := by decide +kernel
theorem dX7_bearsBy_19 : decode cX7_bearsBy 19 = .ok (.getfield 115, 3) := by decide +kernel
theorem dX7_bearsBy_22 : decode cX7_bearsBy 22 = .ok (.imul, 1) := by decide +kernel
theorem dX7_bearsBy_23 : decode cX7_bearsBy 23 = .ok (.isub, 1) := by decide +kernel
theorem dX7_bearsBy_24 : decode cX7_bearsBy 24 = .ok (.goto 4, 3) := by decide +kernel
theorem dX7_bearsBy_27 : decode cX7_bearsBy 27 = .ok (.iconst 0, 1) := by decide +kernel
theorem dX7_bearsBy_28 : decode cX7_bearsBy 28 = .ok (.istore_n 3, 1) := by decide +kernel
theorem dX7_bearsBy_29 : decode cX7_bearsBy 29 = .ok (.iload_n 3, 1) := by decide +kernel
theorem dX7_bearsBy_30 : decode cX7_bearsBy 30 = .ok (.ifCond .ge 7, 3) := by decide +kernel
theorem dX7_bearsBy_33 : decode cX7_bearsBy 33 = .ok (.iconst 0, 1) := by decide +kernel
theorem dX7_bearsBy_34 : decode cX7_bearsBy 34 = .ok (.goto 11, 3) := by decide +kernel
theorem dX7_bearsBy_37 : decode cX7_bearsBy 37 = .ok (.iload_n 3, 1) := by decide +kernel
theorem dX7_bearsBy_38 : decode cX7_bearsBy 38 = .ok (.aload_n 0, 1) := by decide +kernel
theorem dX7_bearsBy_39 : decode cX7_bearsBy 39 = .ok (.iload_n 2, 1) := by decide +kernel
theorem dX7_bearsBy_40 : decode cX7_bearsBy 40 = .ok (.iconst 2, 1) := by decide +kernel
theorem dX7_bearsBy_41 : decode cX7_bearsBy 41 = .ok (.invokevirtual 51, 3) := by decide +kernel
theorem dX7_bearsBy_44 : decode cX7_bearsBy 44 = .ok (.imul, 1) := by decide +kernel
theorem dX7_bearsBy_45 : decode cX7_bearsBy 45 = .ok (.ireturn, 1) := by decide +kernel
set_option maxRecDepth 20000 in
theorem ggX7_beyond_X7_bearsBy : GoodIn wsX7_beyond wsX7_bearsBy := goodIn_r _ [6, 7, 8, 1, 9, 10, 5, 11, 12, 13, 14, 15, 16, 17, 18, 19, 20, 21, 22, 23, 24, 25, 26, 27, 28, 29, 30, 31, 32, 33, 34, 35, 36, 37, 38, 39] (by decide +kernel) (by decide +kernel)
set_option maxRecDepth 20000 in
theorem gX7_beyond_X7_bearsBy : GoodIn wsX7_beyond (wsV RX7 125 RX7 yX7_bearsBy wsX7_bearsBy) := goodIn_app (goodIn_of _ (by decide +kernel)) ggX7_beyond_X7_bearsBy
set_option maxRecDepth 20000 in
theorem ggX7_beyond_X7_of : GoodIn wsX7_beyond wsX7_of := goodIn_r _ [15, 16, 17, 18, 19, 20, 21, 22, 23, 24, 25, 26, 27, 28, 29, 30, 31, 32, 33, 34, 35, 36, 37, 38, 39] (by decide +kernel) (by decide +kernel)
set_option maxRecDepth 20000 in
theorem gX7_beyond_X7_of : GoodIn wsX7_beyond (wsV RX7 51 RX7 yX7_of wsX7_of) := goodIn_app (goodIn_of _ (by decide +kernel)) ggX7_beyond_X7_of
theorem dX7_beyond_0 : decode cX7_beyond 0 = .ok (.aload_n 0, 1) := by decide +kernel
theorem dX7_beyond_1 : decode cX7_beyond 1 = .ok (.iload_n 1, 1) := by decide +kernel
theorem dX7_beyond_2 : decode cX7_beyond 2 = .ok (.iload_n 2, 1) := by decide +kernel
theorem dX7_beyond_3 : decode cX7_beyond 3 = .ok (.invokevirtual 125, 3) := by decide +kernel
theorem dX7_beyond_6 : decode cX7_beyond 6 = .ok (.aload_n 0, 1) := by decide +kernel
theorem dX7_beyond_7 : decode cX7_beyond 7 = .ok (.iload_n 2, 1) := by decide +kernel
theorem dX7_beyond_8 : decode cX7_beyond 8 = .ok (.iconst 4, 1) := by decide +kernel
theorem dX7_beyond_9 : decode cX7_beyond 9 = .ok (.invokevirtual 51, 3) := by decide +kernel
theorem dX7_beyond_12 : decode cX7_beyond 12 = .ok (.aload_n 0, 1) := by decide +kernel
theorem dX7_beyond_13 : decode cX7_beyond 13 = .ok (.getfield 115, 3) := by decide +kernel
theorem dX7_beyond_16 : decode cX7_beyond 16 = .ok (.imul, 1) := by decide +kernel
theorem dX7_beyond_17 : decode cX7_beyond 17 = .ok (.isub, 1) := by decide +kernel
theorem dX7_beyond_18 : decode cX7_beyond 18 = .ok (.ireturn, 1) := by decide +kernel
set_option maxRecDepth 20000 in
theorem ggX7_breaking_X7_has : GoodIn wsX7_breaking wsX7_has := goodIn_r _ [5] (by decide +kernel) (by decide +kernel)
set_option maxRecDepth 20000 in
theorem gX7_breaking_X7_has : GoodIn wsX7_breaking (va_wsS RX7 59 yX7_has wsX7_has) := goodIn_app (goodIn_of _ (by decide +kernel)) ggX7_breaking_X7_has
set_option maxRecDepth 20000 in
theorem ggX7_breaking_X7_beyond : GoodIn wsX7_breaking wsX7_beyond := goodIn_r _ [9, 10, 11, 12, 13, 4, 14, 15, 16, 2, 3, 5, 17, 18, 19, 20, 1, 21, 22, 23, 24, 25, 26, 27, 28, 29, 30, 31, 32, 33, 34, 35, 36, 37, 38, 39, 40, 41, 42, 43] (by decide +kernel) (by decide +kernel)
set_option maxRecDepth 20000 in
theorem gX7_breaking_X7_beyond : GoodIn wsX7_breaking (wsV RX7 128 RX7 yX7_beyond wsX7_beyond) := goodIn_app (goodIn_of _ (by decide +kernel)) ggX7_breaking_X7_beyond
theorem dX7_breaking_0 : decode cX7_breaking 0 = .ok (.bipush (-9), 2) := by decide +kernel
theorem dX7_breaking_2 : decode cX7_breaking 2 = .ok (.istore_n 2, 1) := by decide +kernel
theorem dX7_breaking_3 : decode cX7_breaking 3 = .ok (.iconst 0, 1) := by decide +kernel
theorem dX7_breaking_4 : decode cX7_breaking 4 = .ok (.istore_n 3, 1) := by decide +kernel
theorem dX7_breaking_5 : decode cX7_breaking 5 = .ok (.iload_n 3, 1) := by decide +kernel
theorem dX7_breaking_6 : decode cX7_breaking 6 = .ok (.aload_n 0, 1) := by decide +kernel
theorem dX7_breaking_7 : decode cX7_breaking 7 = .ok (.getfield 7, 3) := by decide +kernel
theorem dX7_breaking_10 : decode cX7_breaking 10 = .ok (.iconst 0, 1) := by decide +kernel
theorem dX7_breaking_11 : decode cX7_breaking 11 = .ok (.iaload, 1) := by decide +kernel
theorem dX7_breaking_12 : decode cX7_breaking 12 = .ok (.if_icmp .ge 73, 3) := by decide +kernel
theorem dX7_breaking_15 : decode cX7_breaking 15 = .ok (.iload_n 1, 1) := by decide +kernel
theorem dX7_breaking_16 : decode cX7_breaking 16 = .ok (.iload_n 3, 1) := by decide +kernel
theorem dX7_breaking_17 : decode cX7_breaking 17 = .ok (.invokestatic 59, 3) := by decide +kernel
theorem dX7_breaking_20 : decode cX7_breaking 20 = .ok (.ifCond .eq 16, 3) := by decide +kernel
theorem dX7_breaking_23 : decode cX7_breaking 23 = .ok (.aload_n 0, 1) := by decide +kernel
theorem dX7_breaking_24 : decode cX7_breaking 24 = .ok (.iload_n 1, 1) := by decide +kernel
theorem dX7_breaking_25 : decode cX7_breaking 25 = .ok (.iload_n 3, 1) := by decide +kernel
theorem dX7_breaking_26 : decode cX7_breaking 26 = .ok (.invokevirtual 128, 3) := by decide +kernel
theorem dX7_breaking_29 : decode cX7_breaking 29 = .ok (.ifCond .le 7, 3) := by decide +kernel
theorem dX7_breaking_32 : decode cX7_breaking 32 = .ok (.iconst 1, 1) := by decide +kernel
theorem dX7_breaking_33 : decode cX7_breaking 33 = .ok (.goto 4, 3) := by decide +kernel
theorem dX7_breaking_36 : decode cX7_breaking 36 = .ok (.iconst 0, 1) := by decide +kernel
theorem dX7_breaking_37 : decode cX7_breaking 37 = .ok (.istore 4, 2) := by decide +kernel
theorem dX7_breaking_39 : decode cX7_breaking 39 = .ok (.iload 4, 2) := by decide +kernel
theorem dX7_breaking_41 : decode cX7_breaking 41 = .ok (.ifCond .eq 36, 3) := by decide +kernel
theorem dX7_breaking_44 : decode cX7_breaking 44 = .ok (.iload_n 2, 1) := by decide +kernel
theorem dX7_breaking_45 : decode cX7_breaking 45 = .ok (.bipush (-9), 2) := by decide +kernel
theorem dX7_breaking_47 : decode cX7_breaking 47 = .ok (.if_icmp .eq 26, 3) := by decide +kernel
theorem dX7_breaking_50 : decode cX7_breaking 50 = .ok (.aload_n 0, 1) := by decide +kernel
theorem dX7_breaking_51 : decode cX7_breaking 51 = .ok (.iload_n 1, 1) := by decide +kernel
theorem dX7_breaking_52 : decode cX7_breaking 52 = .ok (.iload_n 3, 1) := by decide +kernel
theorem dX7_breaking_53 : decode cX7_breaking 53 = .ok (.invokevirtual 128, 3) := by decide +kernel
theorem dX7_breaking_56 : decode cX7_breaking 56 = .ok (.aload_n 0, 1) := by decide +kernel
theorem dX7_breaking_57 : decode cX7_breaking 57 = .ok (.iload_n 1, 1) := by decide +kernel
theorem dX7_breaking_58 : decode cX7_breaking 58 = .ok (.iload_n 2, 1) := by decide +kernel
theorem dX7_breaking_59 : decode cX7_breaking 59 = .ok (.ifCond .ge 7, 3) := by decide +kernel
theorem dX7_breaking_62 : decode cX7_breaking 62 = .ok (.iconst 0, 1) := by decide +kernel
theorem dX7_breaking_63 : decode cX7_breaking 63 = .ok (.goto 4, 3) := by decide +kernel
theorem dX7_breaking_66 : decode cX7_breaking 66 = .ok (.iload_n 2, 1) := by decide +kernel
theorem dX7_breaking_67 : decode cX7_breaking 67 = .ok (.invokevirtual 128, 3) := by decide +kernel
theorem dX7_breaking_70 : decode cX7_breaking 70 = .ok (.if_icmp .le 7, 3) := by decide +kernel
theorem dX7_breaking_73 : decode cX7_breaking 73 = .ok (.iload_n 3, 1) := by decide +kernel
theorem dX7_breaking_74 : decode cX7_breaking 74 = .ok (.goto 4, 3) := by decide +kernel
theorem dX7_breaking_77 : decode cX7_breaking 77 = .ok (.iload_n 2, 1) := by decide +kernel
theorem dX7_breaking_78 : decode cX7_breaking 78 = .ok (.istore_n 2, 1) := by decide +kernel
theorem dX7_breaking_79 : decode cX7_breaking 79 = .ok (.iinc 3 1, 3) := by decide +kernel
theorem dX7_breaking_82 : decode cX7_breaking 82 = .ok (.goto (-77), 3) := by decide +kernel
theorem dX7_breaking_85 : decode cX7_breaking 85 = .ok (.iload_n 2, 1) := by decide +kernel
theorem dX7_breaking_86 : decode cX7_breaking 86 = .ok (.ireturn, 1) := by decide +kernel
set_option maxRecDepth 20000 in
theorem ggX7_wholeBehind_X7_whole : GoodIn wsX7_wholeBehind wsX7_whole := goodIn_r _ [5, 6, 7, 8, 9, 4, 10, 11, 12, 13, 14, 48, 49, 50, 51, 52, 53, 54, 55, 56, 57, 58, 59, 60, 61, 62, 63, 64, 65, 66, 67, 68, 69, 70] (by decide +kernel) (by decide +kernel)
set_option maxRecDepth 20000 in
theorem gX7_wholeBehind_X7_whole : GoodIn wsX7_wholeBehind (wsV RX7 131 RX7 yX7_whole wsX7_whole) := goodIn_app (goodIn_of _ (by decide +kernel)) ggX7_wholeBehind_X7_whole
set_option maxRecDepth 20000 in
theorem ggX7_wholeBehind_X7_all : GoodIn wsX7_wholeBehind wsX7_all := goodIn_r _ [18, 6, 48, 49, 50, 51, 52, 53, 54, 55, 56, 57, 58, 59, 60, 61, 62, 63, 64, 65, 66, 67, 68, 69, 70] (by decide +kernel) (by decide +kernel)
set_option maxRecDepth 20000 in
theorem gX7_wholeBehind_X7_all : GoodIn wsX7_wholeBehind (wsV RX7 135 RX7 yX7_all wsX7_all) := goodIn_app (goodIn_of _ (by decide +kernel)) ggX7_wholeBehind_X7_all
set_option maxRecDepth 20000 in
theorem ggX7_wholeBehind_X7_bends : GoodIn wsX7_wholeBehind wsX7_bends := goodIn_r _ [22, 23, 24, 25, 26, 6, 27, 28, 29, 30, 4, 31, 32, 33, 34, 35, 11, 12, 13, 14, 48, 49, 50, 51, 52, 53, 54, 55, 56, 57, 58, 59, 60, 61, 62, 63, 64, 65, 66, 67, 68, 69, 70] (by decide +kernel) (by decide +kernel)
set_option maxRecDepth 20000 in
theorem gX7_wholeBehind_X7_bends : GoodIn wsX7_wholeBehind (wsV RX7 138 RX7 yX7_bends wsX7_bends) := goodIn_app (goodIn_of _ (by decide +kernel)) ggX7_wholeBehind_X7_bends
set_option maxRecDepth 20000 in
theorem ggX7_wholeBehind_X7_breaking : GoodIn wsX7_wholeBehind wsX7_breaking := goodIn_r _ [39, 6, 33, 34, 4, 35, 40, 41, 42, 43, 24, 44, 45, 46, 47, 23, 27, 11, 12, 13, 14, 48, 49, 50, 51, 52, 53, 54, 55, 56, 57, 58, 59, 60, 61, 62, 63, 64, 65, 66, 67, 68, 69, 70] (by decide +kernel) (by decide +kernel)
set_option maxRecDepth 20000 in
theorem gX7_wholeBehind_X7_breaking : GoodIn wsX7_wholeBehind (wsV RX7 142 RX7 yX7_breaking wsX7_breaking) := goodIn_app (goodIn_of _ (by decide +kernel)) ggX7_wholeBehind_X7_breaking
theorem dX7_wholeBehind_0 : decode cX7_wholeBehind 0 = .ok (.aload_n 0, 1) := by decide +kernel
theorem dX7_wholeBehind_1 : decode cX7_wholeBehind 1 = .ok (.invokevirtual 131, 3) := by decide +kernel
theorem dX7_wholeBehind_4 : decode cX7_wholeBehind 4 = .ok (.istore_n 2, 1) := by decide +kernel
theorem dX7_wholeBehind_5 : decode cX7_wholeBehind 5 = .ok (.iload_n 2, 1) := by decide +kernel
theorem dX7_wholeBehind_6 : decode cX7_wholeBehind 6 = .ok (.ifCond .eq 7, 3) := by decide +kernel
theorem dX7_wholeBehind_9 : decode cX7_wholeBehind 9 = .ok (.iconst 1, 1) := by decide +kernel
theorem dX7_wholeBehind_10 : decode cX7_wholeBehind 10 = .ok (.goto 4, 3) := by decide +kernel
theorem dX7_wholeBehind_13 : decode cX7_wholeBehind 13 = .ok (.iconst 0, 1) := by decide +kernel
theorem dX7_wholeBehind_14 : decode cX7_wholeBehind 14 = .ok (.istore_n 3, 1) := by decide +kernel
theorem dX7_wholeBehind_15 : decode cX7_wholeBehind 15 = .ok (.iload_n 3, 1) := by decide +kernel
theorem dX7_wholeBehind_16 : decode cX7_wholeBehind 16 = .ok (.ifCond .eq 60, 3) := by decide +kernel
theorem dX7_wholeBehind_19 : decode cX7_wholeBehind 19 = .ok (.aload_n 0, 1) := by decide +kernel
theorem dX7_wholeBehind_20 : decode cX7_wholeBehind 20 = .ok (.aload_n 0, 1) := by decide +kernel
theorem dX7_wholeBehind_21 : decode cX7_wholeBehind 21 = .ok (.invokevirtual 135, 3) := by decide +kernel
theorem dX7_wholeBehind_24 : decode cX7_wholeBehind 24 = .ok (.iload_n 2, 1) := by decide +kernel
theorem dX7_wholeBehind_25 : decode cX7_wholeBehind 25 = .ok (.iload_n 1, 1) := by decide +kernel
theorem dX7_wholeBehind_26 : decode cX7_wholeBehind 26 = .ok (.invokevirtual 138, 3) := by decide +kernel
theorem dX7_wholeBehind_29 : decode cX7_wholeBehind 29 = .ok (.aload_n 0, 1) := by decide +kernel
theorem dX7_wholeBehind_30 : decode cX7_wholeBehind 30 = .ok (.iload_n 2, 1) := by decide +kernel
theorem dX7_wholeBehind_31 : decode cX7_wholeBehind 31 = .ok (.invokevirtual 142, 3) := by decide +kernel
theorem dX7_wholeBehind_34 : decode cX7_wholeBehind 34 = .ok (.istore 4, 2) := by decide +kernel
theorem dX7_wholeBehind_36 : decode cX7_wholeBehind 36 = .ok (.iload_n 2, 1) := by decide +kernel
theorem dX7_wholeBehind_37 : decode cX7_wholeBehind 37 = .ok (.iload 4, 2) := by decide +kernel
theorem dX7_wholeBehind_39 : decode cX7_wholeBehind 39 = .ok (.bipush (-9), 2) := by decide +kernel
theorem dX7_wholeBehind_41 : decode cX7_wholeBehind 41 = .ok (.if_icmp .ne 7, 3) := by decide +kernel
theorem dX7_wholeBehind_44 : decode cX7_wholeBehind 44 = .ok (.iconst (-1), 1) := by decide +kernel
theorem dX7_wholeBehind_45 : decode cX7_wholeBehind 45 = .ok (.goto 9, 3) := by decide +kernel
theorem dX7_wholeBehind_48 : decode cX7_wholeBehind 48 = .ok (.iconst 1, 1) := by decide +kernel
theorem dX7_wholeBehind_49 : decode cX7_wholeBehind 49 = .ok (.iload 4, 2) := by decide +kernel
theorem dX7_wholeBehind_51 : decode cX7_wholeBehind 51 = .ok (.ishl, 1) := by decide +kernel
theorem dX7_wholeBehind_52 : decode cX7_wholeBehind 52 = .ok (.iconst (-1), 1) := by decide +kernel
theorem dX7_wholeBehind_53 : decode cX7_wholeBehind 53 = .ok (.ixor, 1) := by decide +kernel
theorem dX7_wholeBehind_54 : decode cX7_wholeBehind 54 = .ok (.iand, 1) := by decide +kernel
theorem dX7_wholeBehind_55 : decode cX7_wholeBehind 55 = .ok (.istore_n 2, 1) := by decide +kernel
theorem dX7_wholeBehind_56 : decode cX7_wholeBehind 56 = .ok (.iload 4, 2) := by decide +kernel
theorem dX7_wholeBehind_58 : decode cX7_wholeBehind 58 = .ok (.bipush (-9), 2) := by decide +kernel
theorem dX7_wholeBehind_60 : decode cX7_wholeBehind 60 = .ok (.if_icmp .eq 11, 3) := by decide +kernel
theorem dX7_wholeBehind_63 : decode cX7_wholeBehind 63 = .ok (.iload_n 2, 1) := by decide +kernel
theorem dX7_wholeBehind_64 : decode cX7_wholeBehind 64 = .ok (.ifCond .eq 7, 3) := by decide +kernel
theorem dX7_wholeBehind_67 : decode cX7_wholeBehind 67 = .ok (.iconst 1, 1) := by decide +kernel
theorem dX7_wholeBehind_68 : decode cX7_wholeBehind 68 = .ok (.goto 4, 3) := by decide +kernel
theorem dX7_wholeBehind_71 : decode cX7_wholeBehind 71 = .ok (.iconst 0, 1) := by decide +kernel
theorem dX7_wholeBehind_72 : decode cX7_wholeBehind 72 = .ok (.istore_n 3, 1) := by decide +kernel
theorem dX7_wholeBehind_73 : decode cX7_wholeBehind 73 = .ok (.goto (-58), 3) := by decide +kernel
theorem dX7_wholeBehind_76 : decode cX7_wholeBehind 76 = .ok (.iload_n 2, 1) := by decide +kernel
theorem dX7_wholeBehind_77 : decode cX7_wholeBehind 77 = .ok (.ireturn, 1) := by decide +kernel
set_option maxRecDepth 20000 in
theorem ggX7_loads_X7_in : GoodIn wsX7_loads wsX7_in := goodIn_r _ [5] (by decide +kernel) (by decide +kernel)
set_option maxRecDepth 20000 in
theorem gX7_loads_X7_in : GoodIn wsX7_loads (va_wsS RX7 47 yX7_in wsX7_in) := goodIn_app (goodIn_of _ (by decide +kernel)) ggX7_loads_X7_in
set_option maxRecDepth 20000 in
theorem ggX7_loads_X7_notes : GoodIn wsX7_loads wsX7_notes := goodIn_r _ [9, 10, 11, 1, 64, 65, 66, 67, 68, 69, 70, 71, 72, 73, 74, 75, 76, 77, 78, 79, 80, 81, 82, 83, 84, 85, 86] (by decide +kernel) (by decide +kernel)
set_option maxRecDepth 20000 in
theorem gX7_loads_X7_notes : GoodIn wsX7_loads (wsV RX7 99 RX7 yX7_notes wsX7_notes) := goodIn_app (goodIn_of _ (by decide +kernel)) ggX7_loads_X7_notes
set_option maxRecDepth 20000 in
theorem ggX7_loads_X7_whole : GoodIn wsX7_loads wsX7_whole := goodIn_r _ [15, 1, 16, 17, 18, 4, 19, 20, 21, 22, 23, 64, 65, 66, 67, 68, 69, 70, 71, 72, 73, 74, 75, 76, 77, 78, 79, 80, 81, 82, 83, 84, 85, 86] (by decide +kernel) (by decide +kernel)
set_option maxRecDepth 20000 in
theorem gX7_loads_X7_whole : GoodIn wsX7_loads (wsV RX7 131 RX7 yX7_whole wsX7_whole) := goodIn_app (goodIn_of _ (by decide +kernel)) ggX7_loads_X7_whole
set_option maxRecDepth 20000 in
theorem ggX7_loads_X7_ones : GoodIn wsX7_loads wsX7_ones := goodIn_r _ [26, 27, 28, 4, 29] (by decide +kernel) (by decide +kernel)
set_option maxRecDepth 20000 in
theorem gX7_loads_X7_ones : GoodIn wsX7_loads (va_wsS RX7 145 yX7_ones wsX7_ones) := goodIn_app (goodIn_of _ (by decide +kernel)) ggX7_loads_X7_ones
set_option maxRecDepth 20000 in
theorem ggX7_loads_X7_wholeBehind : GoodIn wsX7_loads wsX7_wholeBehind := goodIn_r _ [33, 12, 13, 14, 4, 15, 1, 16, 17, 18, 19, 20, 21, 22, 23, 34, 35, 36, 37, 38, 39, 40, 41, 42, 43, 44, 45, 46, 47, 48, 49, 50, 51, 27, 28, 29, 52, 53, 54, 55, 56, 57, 58, 59, 60, 61, 62, 63, 64, 65, 66, 67, 68, 69, 70, 71, 72, 73, 74, 75, 76, 77, 78, 79, 80, 81, 82, 83, 84, 85, 86] (by decide +kernel) (by decide +kernel)
set_option maxRecDepth 20000 in
theorem gX7_loads_X7_wholeBehind : GoodIn wsX7_loads (wsV RX7 148 RX7 yX7_wholeBehind wsX7_wholeBehind) := goodIn_app (goodIn_of _ (by decide +kernel)) ggX7_loads_X7_wholeBehind
set_option maxRecDepth 20000 in
theorem ggX7_loads_X7_has : GoodIn wsX7_loads wsX7_has := goodIn_r _ [29] (by decide +kernel) (by decide +kernel)
set_option maxRecDepth 20000 in
theorem gX7_loads_X7_has : GoodIn wsX7_loads (va_wsS RX7 59 yX7_has wsX7_has) := goodIn_app (goodIn_of _ (by decide +kernel)) ggX7_loads_X7_has
theorem dX7_loads_0 : decode cX7_loads 0 = .ok (.iload_n 1, 1) := by decide +kernel
theorem dX7_loads_1 : decode cX7_loads 1 = .ok (.iconst 0, 1) := by decide +kernel
theorem dX7_loads_2 : decode cX7_loads 2 = .ok (.sipush 999, 3) := by decide +kernel
theorem dX7_loads_5 : decode cX7_loads 5 = .ok (.invokestatic 47, 3) := by decide +kernel
theorem dX7_loads_8 : decode cX7_loads 8 = .ok (.ifCond .ne 5, 3) := by decide +kernel
theorem dX7_loads_11 : decode cX7_loads 11 = .ok (.iconst (-1), 1) := by decide +kernel
theorem dX7_loads_12 : decode cX7_loads 12 = .ok (.ireturn, 1) := by decide +kernel
theorem dX7_loads_13 : decode cX7_loads 13 = .ok (.aload_n 0, 1) := by decide +kernel
theorem dX7_loads_14 : decode cX7_loads 14 = .ok (.invokevirtual 99, 3) := by decide +kernel
theorem dX7_loads_17 : decode cX7_loads 17 = .ok (.aload_n 0, 1) := by decide +kernel
theorem dX7_loads_18 : decode cX7_loads 18 = .ok (.invokevirtual 131, 3) := by decide +kernel
theorem dX7_loads_21 : decode cX7_loads 21 = .ok (.invokestatic 145, 3) := by decide +kernel
theorem dX7_loads_24 : decode cX7_loads 24 = .ok (.istore_n 2, 1) := by decide +kernel
theorem dX7_loads_25 : decode cX7_loads 25 = .ok (.aload_n 0, 1) := by decide +kernel
theorem dX7_loads_26 : decode cX7_loads 26 = .ok (.iload_n 1, 1) := by decide +kernel
theorem dX7_loads_27 : decode cX7_loads 27 = .ok (.invokevirtual 148, 3) := by decide +kernel
theorem dX7_loads_30 : decode cX7_loads 30 = .ok (.istore_n 3, 1) := by decide +kernel
theorem dX7_loads_31 : decode cX7_loads 31 = .ok (.iconst 0, 1) := by decide +kernel
theorem dX7_loads_32 : decode cX7_loads 32 = .ok (.istore 4, 2) := by decide +kernel
theorem dX7_loads_34 : decode cX7_loads 34 = .ok (.iload 4, 2) := by decide +kernel
theorem dX7_loads_36 : decode cX7_loads 36 = .ok (.aload_n 0, 1) := by decide +kernel
theorem dX7_loads_37 : decode cX7_loads 37 = .ok (.getfield 7, 3) := by decide +kernel
theorem dX7_loads_40 : decode cX7_loads 40 = .ok (.iconst 0, 1) := by decide +kernel
theorem dX7_loads_41 : decode cX7_loads 41 = .ok (.iaload, 1) := by decide +kernel
theorem dX7_loads_42 : decode cX7_loads 42 = .ok (.if_icmp .ge 34, 3) := by decide +kernel
theorem dX7_loads_45 : decode cX7_loads 45 = .ok (.aload_n 0, 1) := by decide +kernel
theorem dX7_loads_46 : decode cX7_loads 46 = .ok (.getfield 7, 3) := by decide +kernel
theorem dX7_loads_49 : decode cX7_loads 49 = .ok (.iconst 5, 1) := by decide +kernel
theorem dX7_loads_50 : decode cX7_loads 50 = .ok (.iload 4, 2) := by decide +kernel
theorem dX7_loads_52 : decode cX7_loads 52 = .ok (.imul, 1) := by decide +kernel
theorem dX7_loads_53 : decode cX7_loads 53 = .ok (.iconst 5, 1) := by decide +kernel
theorem dX7_loads_54 : decode cX7_loads 54 = .ok (.iadd, 1) := by decide +kernel
theorem dX7_loads_55 : decode cX7_loads 55 = .ok (.iload_n 3, 1) := by decide +kernel
theorem dX7_loads_56 : decode cX7_loads 56 = .ok (.iload 4, 2) := by decide +kernel
theorem dX7_loads_58 : decode cX7_loads 58 = .ok (.invokestatic 59, 3) := by decide +kernel
theorem dX7_loads_61 : decode cX7_loads 61 = .ok (.ifCond .eq 7, 3) := by decide +kernel
theorem dX7_loads_64 : decode cX7_loads 64 = .ok (.iconst 1, 1) := by decide +kernel
theorem dX7_loads_65 : decode cX7_loads 65 = .ok (.goto 4, 3) := by decide +kernel
theorem dX7_loads_68 : decode cX7_loads 68 = .ok (.iconst 0, 1) := by decide +kernel
theorem dX7_loads_69 : decode cX7_loads 69 = .ok (.iastore, 1) := by decide +kernel
theorem dX7_loads_70 : decode cX7_loads 70 = .ok (.iinc 4 1, 3) := by decide +kernel
theorem dX7_loads_73 : decode cX7_loads 73 = .ok (.goto (-39), 3) := by decide +kernel
theorem dX7_loads_76 : decode cX7_loads 76 = .ok (.iload_n 2, 1) := by decide +kernel
theorem dX7_loads_77 : decode cX7_loads 77 = .ok (.iload_n 3, 1) := by decide +kernel
theorem dX7_loads_78 : decode cX7_loads 78 = .ok (.invokestatic 145, 3) := by decide +kernel
theorem dX7_loads_81 : decode cX7_loads 81 = .ok (.isub, 1) := by decide +kernel
theorem dX7_loads_82 : decode cX7_loads 82 = .ok (.ireturn, 1) := by decide +kernel
set_option maxRecDepth 20000 in
theorem ggX7_breaks_X7_isLeaf : GoodIn wsX7_breaks wsX7_isLeaf := goodIn_r _ [6, 1, 7, 8, 5, 9, 34, 35, 36, 37, 38, 39, 40, 41, 42, 43, 44, 45, 46, 47, 48, 49, 50, 51, 52, 53, 54, 55, 56] (by decide +kernel) (by decide +kernel)
set_option maxRecDepth 20000 in
theorem gX7_breaks_X7_isLeaf : GoodIn wsX7_breaks (wsV RX7 151 RX7 yX7_isLeaf wsX7_isLeaf) := goodIn_app (goodIn_of _ (by decide +kernel)) ggX7_breaks_X7_isLeaf
set_option maxRecDepth 20000 in
theorem ggX7_breaks_X7_isWhole : GoodIn wsX7_breaks wsX7_isWhole := goodIn_r _ [13, 14, 15, 16, 5, 17, 1, 34, 35, 36, 37, 38, 39, 40, 41, 42, 43, 44, 45, 46, 47, 48, 49, 50, 51, 52, 53, 54, 55, 56] (by decide +kernel) (by decide +kernel)
set_option maxRecDepth 20000 in
theorem gX7_breaks_X7_isWhole : GoodIn wsX7_breaks (wsV RX7 55 RX7 yX7_isWhole wsX7_isWhole) := goodIn_app (goodIn_of _ (by decide +kernel)) ggX7_breaks_X7_isWhole
set_option maxRecDepth 20000 in
theorem ggX7_breaks_X7_notes : GoodIn wsX7_breaks wsX7_notes := goodIn_r _ [21, 22, 23, 1, 34, 35, 36, 37, 38, 39, 40, 41, 42, 43, 44, 45, 46, 47, 48, 49, 50, 51, 52, 53, 54, 55, 56] (by decide +kernel) (by decide +kernel)
set_option maxRecDepth 20000 in
theorem gX7_breaks_X7_notes : GoodIn wsX7_breaks (wsV RX7 99 RX7 yX7_notes wsX7_notes) := goodIn_app (goodIn_of _ (by decide +kernel)) ggX7_breaks_X7_notes
set_option maxRecDepth 20000 in
theorem ggX7_breaks_X7_whole : GoodIn wsX7_breaks wsX7_whole := goodIn_r _ [27, 1, 10, 11, 12, 5, 13, 14, 15, 16, 17, 34, 35, 36, 37, 38, 39, 40, 41, 42, 43, 44, 45, 46, 47, 48, 49, 50, 51, 52, 53, 54, 55, 56] (by decide +kernel) (by decide +kernel)
set_option maxRecDepth 20000 in
theorem gX7_breaks_X7_whole : GoodIn wsX7_breaks (wsV RX7 131 RX7 yX7_whole wsX7_whole) := goodIn_app (goodIn_of _ (by decide +kernel)) ggX7_breaks_X7_whole
set_option maxRecDepth 20000 in
theorem ggX7_breaks_X7_ones : GoodIn wsX7_breaks wsX7_ones := goodIn_r _ [30, 31, 32, 5, 33] (by decide +kernel) (by decide +kernel)
set_option maxRecDepth 20000 in
theorem gX7_breaks_X7_ones : GoodIn wsX7_breaks (va_wsS RX7 145 yX7_ones wsX7_ones) := goodIn_app (goodIn_of _ (by decide +kernel)) ggX7_breaks_X7_ones
theorem dX7_breaks_0 : decode cX7_breaks 0 = .ok (.aload_n 0, 1) := by decide +kernel
theorem dX7_breaks_1 : decode cX7_breaks 1 = .ok (.iload_n 1, 1) := by decide +kernel
theorem dX7_breaks_2 : decode cX7_breaks 2 = .ok (.invokevirtual 151, 3) := by decide +kernel
theorem dX7_breaks_5 : decode cX7_breaks 5 = .ok (.ifCond .ne 5, 3) := by decide +kernel
theorem dX7_breaks_8 : decode cX7_breaks 8 = .ok (.iconst (-1), 1) := by decide +kernel
theorem dX7_breaks_9 : decode cX7_breaks 9 = .ok (.ireturn, 1) := by decide +kernel
theorem dX7_breaks_10 : decode cX7_breaks 10 = .ok (.aload_n 0, 1) := by decide +kernel
theorem dX7_breaks_11 : decode cX7_breaks 11 = .ok (.iload_n 1, 1) := by decide +kernel
theorem dX7_breaks_12 : decode cX7_breaks 12 = .ok (.invokevirtual 55, 3) := by decide +kernel
theorem dX7_breaks_15 : decode cX7_breaks 15 = .ok (.ifCond .ne 6, 3) := by decide +kernel
theorem dX7_breaks_18 : decode cX7_breaks 18 = .ok (.bipush (-2), 2) := by decide +kernel
theorem dX7_breaks_20 : decode cX7_breaks 20 = .ok (.ireturn, 1) := by decide +kernel
theorem dX7_breaks_21 : decode cX7_breaks 21 = .ok (.aload_n 0, 1) := by decide +kernel
theorem dX7_breaks_22 : decode cX7_breaks 22 = .ok (.invokevirtual 99, 3) := by decide +kernel
theorem dX7_breaks_25 : decode cX7_breaks 25 = .ok (.aload_n 0, 1) := by decide +kernel
theorem dX7_breaks_26 : decode cX7_breaks 26 = .ok (.getfield 7, 3) := by decide +kernel
theorem dX7_breaks_29 : decode cX7_breaks 29 = .ok (.iconst 5, 1) := by decide +kernel
theorem dX7_breaks_30 : decode cX7_breaks 30 = .ok (.iload_n 1, 1) := by decide +kernel
theorem dX7_breaks_31 : decode cX7_breaks 31 = .ok (.imul, 1) := by decide +kernel
theorem dX7_breaks_32 : decode cX7_breaks 32 = .ok (.iconst 5, 1) := by decide +kernel
theorem dX7_breaks_33 : decode cX7_breaks 33 = .ok (.iadd, 1) := by decide +kernel
theorem dX7_breaks_34 : decode cX7_breaks 34 = .ok (.iconst 0, 1) := by decide +kernel
theorem dX7_breaks_35 : decode cX7_breaks 35 = .ok (.iastore, 1) := by decide +kernel
theorem dX7_breaks_36 : decode cX7_breaks 36 = .ok (.aload_n 0, 1) := by decide +kernel
theorem dX7_breaks_37 : decode cX7_breaks 37 = .ok (.invokevirtual 131, 3) := by decide +kernel
theorem dX7_breaks_40 : decode cX7_breaks 40 = .ok (.invokestatic 145, 3) := by decide +kernel
theorem dX7_breaks_43 : decode cX7_breaks 43 = .ok (.ireturn, 1) := by decide +kernel
set_option maxRecDepth 20000 in
theorem ggX7_mends_X7_isLeaf : GoodIn wsX7_mends wsX7_isLeaf := goodIn_r _ [6, 1, 7, 8, 5, 9, 34, 35, 36, 37, 38, 39, 40, 41, 42, 43, 44, 45, 46, 47, 48, 49, 50, 51, 52, 53, 54, 55, 56] (by decide +kernel) (by decide +kernel)
set_option maxRecDepth 20000 in
theorem gX7_mends_X7_isLeaf : GoodIn wsX7_mends (wsV RX7 151 RX7 yX7_isLeaf wsX7_isLeaf) := goodIn_app (goodIn_of _ (by decide +kernel)) ggX7_mends_X7_isLeaf
set_option maxRecDepth 20000 in
theorem ggX7_mends_X7_isWhole : GoodIn wsX7_mends wsX7_isWhole := goodIn_r _ [13, 14, 15, 16, 5, 17, 1, 34, 35, 36, 37, 38, 39, 40, 41, 42, 43, 44, 45, 46, 47, 48, 49, 50, 51, 52, 53, 54, 55, 56] (by decide +kernel) (by decide +kernel)
set_option maxRecDepth 20000 in
theorem gX7_mends_X7_isWhole : GoodIn wsX7_mends (wsV RX7 55 RX7 yX7_isWhole wsX7_isWhole) := goodIn_app (goodIn_of _ (by decide +kernel)) ggX7_mends_X7_isWhole
set_option maxRecDepth 20000 in
theorem ggX7_mends_X7_notes : GoodIn wsX7_mends wsX7_notes := goodIn_r _ [21, 22, 23, 1, 34, 35, 36, 37, 38, 39, 40, 41, 42, 43, 44, 45, 46, 47, 48, 49, 50, 51, 52, 53, 54, 55, 56] (by decide +kernel) (by decide +kernel)
set_option maxRecDepth 20000 in
theorem gX7_mends_X7_notes : GoodIn wsX7_mends (wsV RX7 99 RX7 yX7_notes wsX7_notes) := goodIn_app (goodIn_of _ (by decide +kernel)) ggX7_mends_X7_notes
set_option maxRecDepth 20000 in
theorem ggX7_mends_X7_whole : GoodIn wsX7_mends wsX7_whole := goodIn_r _ [27, 1, 10, 11, 12, 5, 13, 14, 15, 16, 17, 34, 35, 36, 37, 38, 39, 40, 41, 42, 43, 44, 45, 46, 47, 48, 49, 50, 51, 52, 53, 54, 55, 56] (by decide +kernel) (by decide +kernel)
set_option maxRecDepth 20000 in
theorem gX7_mends_X7_whole : GoodIn wsX7_mends (wsV RX7 131 RX7 yX7_whole wsX7_whole) := goodIn_app (goodIn_of _ (by decide +kernel)) ggX7_mends_X7_whole
set_option maxRecDepth 20000 in
theorem ggX7_mends_X7_ones : GoodIn wsX7_mends wsX7_ones := goodIn_r _ [30, 31, 32, 5, 33] (by decide +kernel) (by decide +kernel)
set_option maxRecDepth 20000 in
theorem gX7_mends_X7_ones : GoodIn wsX7_mends (va_wsS RX7 145 yX7_ones wsX7_ones) := goodIn_app (goodIn_of _ (by decide +kernel)) ggX7_mends_X7_ones
theorem dX7_mends_0 : decode cX7_mends 0 = .ok (.aload_n 0, 1) := by decide +kernel
theorem dX7_mends_1 : decode cX7_mends 1 = .ok (.iload_n 1, 1) := by decide +kernel
theorem dX7_mends_2 : decode cX7_mends 2 = .ok (.invokevirtual 151, 3) := by decide +kernel
theorem dX7_mends_5 : decode cX7_mends 5 = .ok (.ifCond .ne 5, 3) := by decide +kernel
theorem dX7_mends_8 : decode cX7_mends 8 = .ok (.iconst (-1), 1) := by decide +kernel
theorem dX7_mends_9 : decode cX7_mends 9 = .ok (.ireturn, 1) := by decide +kernel
theorem dX7_mends_10 : decode cX7_mends 10 = .ok (.aload_n 0, 1) := by decide +kernel
theorem dX7_mends_11 : decode cX7_mends 11 = .ok (.iload_n 1, 1) := by decide +kernel
theorem dX7_mends_12 : decode cX7_mends 12 = .ok (.invokevirtual 55, 3) := by decide +kernel
theorem dX7_mends_15 : decode cX7_mends 15 = .ok (.ifCond .eq 6, 3) := by decide +kernel
theorem dX7_mends_18 : decode cX7_mends 18 = .ok (.bipush (-2), 2) := by decide +kernel
theorem dX7_mends_20 : decode cX7_mends 20 = .ok (.ireturn, 1) := by decide +kernel
theorem dX7_mends_21 : decode cX7_mends 21 = .ok (.aload_n 0, 1) := by decide +kernel
theorem dX7_mends_22 : decode cX7_mends 22 = .ok (.invokevirtual 99, 3) := by decide +kernel
theorem dX7_mends_25 : decode cX7_mends 25 = .ok (.aload_n 0, 1) := by decide +kernel
theorem dX7_mends_26 : decode cX7_mends 26 = .ok (.getfield 7, 3) := by decide +kernel
theorem dX7_mends_29 : decode cX7_mends 29 = .ok (.iconst 5, 1) := by decide +kernel
theorem dX7_mends_30 : decode cX7_mends 30 = .ok (.iload_n 1, 1) := by decide +kernel
theorem dX7_mends_31 : decode cX7_mends 31 = .ok (.imul, 1) := by decide +kernel
theorem dX7_mends_32 : decode cX7_mends 32 = .ok (.iconst 5, 1) := by decide +kernel
theorem dX7_mends_33 : decode cX7_mends 33 = .ok (.iadd, 1) := by decide +kernel
theorem dX7_mends_34 : decode cX7_mends 34 = .ok (.iconst 1, 1) := by decide +kernel
theorem dX7_mends_35 : decode cX7_mends 35 = .ok (.iastore, 1) := by decide +kernel
theorem dX7_mends_36 : decode cX7_mends 36 = .ok (.aload_n 0, 1) := by decide +kernel
theorem dX7_mends_37 : decode cX7_mends 37 = .ok (.invokevirtual 131, 3) := by decide +kernel
theorem dX7_mends_40 : decode cX7_mends 40 = .ok (.invokestatic 145, 3) := by decide +kernel
theorem dX7_mends_43 : decode cX7_mends 43 = .ok (.ireturn, 1) := by decide +kernel
set_option maxRecDepth 20000 in
theorem ggX7_cambers_X7_isLeaf : GoodIn wsX7_cambers wsX7_isLeaf := goodIn_r _ [6, 1, 7, 8, 5, 9, 20, 21, 22, 23, 24, 25, 26, 27, 28, 29, 30, 31, 32, 33, 34, 35, 36, 37, 38, 39, 40, 41, 42] (by decide +kernel) (by decide +kernel)
set_option maxRecDepth 20000 in
theorem gX7_cambers_X7_isLeaf : GoodIn wsX7_cambers (wsV RX7 151 RX7 yX7_isLeaf wsX7_isLeaf) := goodIn_app (goodIn_of _ (by decide +kernel)) ggX7_cambers_X7_isLeaf
set_option maxRecDepth 20000 in
theorem ggX7_cambers_X7_in : GoodIn wsX7_cambers wsX7_in := goodIn_r _ [9] (by decide +kernel) (by decide +kernel)
set_option maxRecDepth 20000 in
theorem gX7_cambers_X7_in : GoodIn wsX7_cambers (va_wsS RX7 47 yX7_in wsX7_in) := goodIn_app (goodIn_of _ (by decide +kernel)) ggX7_cambers_X7_in
set_option maxRecDepth 20000 in
theorem ggX7_cambers_X7_of : GoodIn wsX7_cambers wsX7_of := goodIn_r _ [13, 1, 20, 21, 22, 23, 24, 25, 26, 27, 28, 29, 30, 31, 32, 33, 34, 35, 36, 37, 38, 39, 40, 41, 42] (by decide +kernel) (by decide +kernel)
set_option maxRecDepth 20000 in
theorem gX7_cambers_X7_of : GoodIn wsX7_cambers (wsV RX7 51 RX7 yX7_of wsX7_of) := goodIn_app (goodIn_of _ (by decide +kernel)) ggX7_cambers_X7_of
set_option maxRecDepth 20000 in
theorem ggX7_cambers_X7_notes : GoodIn wsX7_cambers wsX7_notes := goodIn_r _ [17, 18, 19, 1, 20, 21, 22, 23, 24, 25, 26, 27, 28, 29, 30, 31, 32, 33, 34, 35, 36, 37, 38, 39, 40, 41, 42] (by decide +kernel) (by decide +kernel)
set_option maxRecDepth 20000 in
theorem gX7_cambers_X7_notes : GoodIn wsX7_cambers (wsV RX7 99 RX7 yX7_notes wsX7_notes) := goodIn_app (goodIn_of _ (by decide +kernel)) ggX7_cambers_X7_notes
theorem dX7_cambers_0 : decode cX7_cambers 0 = .ok (.aload_n 0, 1) := by decide +kernel
theorem dX7_cambers_1 : decode cX7_cambers 1 = .ok (.iload_n 1, 1) := by decide +kernel
theorem dX7_cambers_2 : decode cX7_cambers 2 = .ok (.invokevirtual 151, 3) := by decide +kernel
theorem dX7_cambers_5 : decode cX7_cambers 5 = .ok (.ifCond .eq 13, 3) := by decide +kernel
theorem dX7_cambers_8 : decode cX7_cambers 8 = .ok (.iload_n 2, 1) := by decide +kernel
theorem dX7_cambers_9 : decode cX7_cambers 9 = .ok (.iconst 0, 1) := by decide +kernel
theorem dX7_cambers_10 : decode cX7_cambers 10 = .ok (.bipush 30, 2) := by decide +kernel
theorem dX7_cambers_12 : decode cX7_cambers 12 = .ok (.invokestatic 47, 3) := by decide +kernel
theorem dX7_cambers_15 : decode cX7_cambers 15 = .ok (.ifCond .ne 5, 3) := by decide +kernel
theorem dX7_cambers_18 : decode cX7_cambers 18 = .ok (.iconst (-1), 1) := by decide +kernel
theorem dX7_cambers_19 : decode cX7_cambers 19 = .ok (.ireturn, 1) := by decide +kernel
theorem dX7_cambers_20 : decode cX7_cambers 20 = .ok (.aload_n 0, 1) := by decide +kernel
theorem dX7_cambers_21 : decode cX7_cambers 21 = .ok (.iload_n 1, 1) := by decide +kernel
theorem dX7_cambers_22 : decode cX7_cambers 22 = .ok (.iconst 3, 1) := by decide +kernel
theorem dX7_cambers_23 : decode cX7_cambers 23 = .ok (.invokevirtual 51, 3) := by decide +kernel
theorem dX7_cambers_26 : decode cX7_cambers 26 = .ok (.istore_n 3, 1) := by decide +kernel
theorem dX7_cambers_27 : decode cX7_cambers 27 = .ok (.iload_n 3, 1) := by decide +kernel
theorem dX7_cambers_28 : decode cX7_cambers 28 = .ok (.iload_n 2, 1) := by decide +kernel
theorem dX7_cambers_29 : decode cX7_cambers 29 = .ok (.if_icmp .ne 6, 3) := by decide +kernel
theorem dX7_cambers_32 : decode cX7_cambers 32 = .ok (.bipush (-2), 2) := by decide +kernel
theorem dX7_cambers_34 : decode cX7_cambers 34 = .ok (.ireturn, 1) := by decide +kernel
theorem dX7_cambers_35 : decode cX7_cambers 35 = .ok (.aload_n 0, 1) := by decide +kernel
theorem dX7_cambers_36 : decode cX7_cambers 36 = .ok (.invokevirtual 99, 3) := by decide +kernel
theorem dX7_cambers_39 : decode cX7_cambers 39 = .ok (.aload_n 0, 1) := by decide +kernel
theorem dX7_cambers_40 : decode cX7_cambers 40 = .ok (.getfield 7, 3) := by decide +kernel
theorem dX7_cambers_43 : decode cX7_cambers 43 = .ok (.iconst 5, 1) := by decide +kernel
theorem dX7_cambers_44 : decode cX7_cambers 44 = .ok (.iload_n 1, 1) := by decide +kernel
theorem dX7_cambers_45 : decode cX7_cambers 45 = .ok (.imul, 1) := by decide +kernel
theorem dX7_cambers_46 : decode cX7_cambers 46 = .ok (.iconst 3, 1) := by decide +kernel
theorem dX7_cambers_47 : decode cX7_cambers 47 = .ok (.iadd, 1) := by decide +kernel
theorem dX7_cambers_48 : decode cX7_cambers 48 = .ok (.iload_n 2, 1) := by decide +kernel
theorem dX7_cambers_49 : decode cX7_cambers 49 = .ok (.iastore, 1) := by decide +kernel
theorem dX7_cambers_50 : decode cX7_cambers 50 = .ok (.iload_n 3, 1) := by decide +kernel
theorem dX7_cambers_51 : decode cX7_cambers 51 = .ok (.ireturn, 1) := by decide +kernel
set_option maxRecDepth 20000 in
theorem ggX7_leaf_X7_isLeaf : GoodIn wsX7_leaf wsX7_isLeaf := goodIn_r _ [7, 8, 9, 10, 6, 11, 27, 28, 29, 30, 31, 32, 33, 34, 35, 36, 37, 38, 39, 40, 41, 42, 43, 44, 45, 46, 47, 48, 49] (by decide +kernel) (by decide +kernel)
set_option maxRecDepth 20000 in
theorem gX7_leaf_X7_isLeaf : GoodIn wsX7_leaf (wsV RX7 151 RX7 yX7_isLeaf wsX7_isLeaf) := goodIn_app (goodIn_of _ (by decide +kernel)) ggX7_leaf_X7_isLeaf
set_option maxRecDepth 20000 in
theorem ggX7_leaf_X7_in : GoodIn wsX7_leaf wsX7_in := goodIn_r _ [11] (by decide +kernel) (by decide +kernel)
set_option maxRecDepth 20000 in
theorem gX7_leaf_X7_in : GoodIn wsX7_leaf (va_wsS RX7 47 yX7_in wsX7_in) := goodIn_app (goodIn_of _ (by decide +kernel)) ggX7_leaf_X7_in
set_option maxRecDepth 20000 in
theorem ggX7_leaf_X7_all : GoodIn wsX7_leaf wsX7_all := goodIn_r _ [15, 8, 27, 28, 29, 30, 31, 32, 33, 34, 35, 36, 37, 38, 39, 40, 41, 42, 43, 44, 45, 46, 47, 48, 49] (by decide +kernel) (by decide +kernel)
set_option maxRecDepth 20000 in
theorem gX7_leaf_X7_all : GoodIn wsX7_leaf (wsV RX7 135 RX7 yX7_all wsX7_all) := goodIn_app (goodIn_of _ (by decide +kernel)) ggX7_leaf_X7_all
set_option maxRecDepth 20000 in
theorem ggX7_leaf_X7_reaches : GoodIn wsX7_leaf wsX7_reaches := goodIn_r _ [19, 8, 1, 2, 20, 21, 6, 22, 23, 24, 25, 26, 27, 28, 29, 30, 31, 32, 33, 34, 35, 36, 37, 38, 39, 40, 41, 42, 43, 44, 45, 46, 47, 48, 49] (by decide +kernel) (by decide +kernel)
set_option maxRecDepth 20000 in
theorem gX7_leaf_X7_reaches : GoodIn wsX7_leaf (wsV RX7 108 RX7 yX7_reaches wsX7_reaches) := goodIn_app (goodIn_of _ (by decide +kernel)) ggX7_leaf_X7_reaches
set_option maxRecDepth 20000 in
theorem ggX7_leaf_X7_of : GoodIn wsX7_leaf wsX7_of := goodIn_r _ [26, 8, 27, 28, 29, 30, 31, 32, 33, 34, 35, 36, 37, 38, 39, 40, 41, 42, 43, 44, 45, 46, 47, 48, 49] (by decide +kernel) (by decide +kernel)
set_option maxRecDepth 20000 in
theorem gX7_leaf_X7_of : GoodIn wsX7_leaf (wsV RX7 51 RX7 yX7_of wsX7_of) := goodIn_app (goodIn_of _ (by decide +kernel)) ggX7_leaf_X7_of
theorem dX7_leaf_0 : decode cX7_leaf 0 = .ok (.aload_n 0, 1) := by decide +kernel
theorem dX7_leaf_1 : decode cX7_leaf 1 = .ok (.iload_n 1, 1) := by decide +kernel
theorem dX7_leaf_2 : decode cX7_leaf 2 = .ok (.invokevirtual 151, 3) := by decide +kernel
theorem dX7_leaf_5 : decode cX7_leaf 5 = .ok (.ifCond .eq 13, 3) := by decide +kernel
theorem dX7_leaf_8 : decode cX7_leaf 8 = .ok (.iload_n 2, 1) := by decide +kernel
theorem dX7_leaf_9 : decode cX7_leaf 9 = .ok (.iconst 0, 1) := by decide +kernel
theorem dX7_leaf_10 : decode cX7_leaf 10 = .ok (.bipush 6, 2) := by decide +kernel
theorem dX7_leaf_12 : decode cX7_leaf 12 = .ok (.invokestatic 47, 3) := by decide +kernel
theorem dX7_leaf_15 : decode cX7_leaf 15 = .ok (.ifCond .ne 5, 3) := by decide +kernel
theorem dX7_leaf_18 : decode cX7_leaf 18 = .ok (.iconst (-1), 1) := by decide +kernel
theorem dX7_leaf_19 : decode cX7_leaf 19 = .ok (.ireturn, 1) := by decide +kernel
theorem dX7_leaf_20 : decode cX7_leaf 20 = .ok (.aload_n 0, 1) := by decide +kernel
theorem dX7_leaf_21 : decode cX7_leaf 21 = .ok (.aload_n 0, 1) := by decide +kernel
theorem dX7_leaf_22 : decode cX7_leaf 22 = .ok (.invokevirtual 135, 3) := by decide +kernel
theorem dX7_leaf_25 : decode cX7_leaf 25 = .ok (.invokevirtual 108, 3) := by decide +kernel
theorem dX7_leaf_28 : decode cX7_leaf 28 = .ok (.iload_n 2, 1) := by decide +kernel
theorem dX7_leaf_29 : decode cX7_leaf 29 = .ok (.iconst 5, 1) := by decide +kernel
theorem dX7_leaf_30 : decode cX7_leaf 30 = .ok (.if_icmp .ge 14, 3) := by decide +kernel
theorem dX7_leaf_33 : decode cX7_leaf 33 = .ok (.aload_n 0, 1) := by decide +kernel
theorem dX7_leaf_34 : decode cX7_leaf 34 = .ok (.iload_n 1, 1) := by decide +kernel
theorem dX7_leaf_35 : decode cX7_leaf 35 = .ok (.iconst 1, 1) := by decide +kernel
theorem dX7_leaf_36 : decode cX7_leaf 36 = .ok (.iload_n 2, 1) := by decide +kernel
theorem dX7_leaf_37 : decode cX7_leaf 37 = .ok (.iadd, 1) := by decide +kernel
theorem dX7_leaf_38 : decode cX7_leaf 38 = .ok (.invokevirtual 51, 3) := by decide +kernel
theorem dX7_leaf_41 : decode cX7_leaf 41 = .ok (.goto 23, 3) := by decide +kernel
theorem dX7_leaf_44 : decode cX7_leaf 44 = .ok (.iload_n 2, 1) := by decide +kernel
theorem dX7_leaf_45 : decode cX7_leaf 45 = .ok (.iconst 5, 1) := by decide +kernel
theorem dX7_leaf_46 : decode cX7_leaf 46 = .ok (.if_icmp .ne 12, 3) := by decide +kernel
theorem dX7_leaf_49 : decode cX7_leaf 49 = .ok (.aload_n 0, 1) := by decide +kernel
theorem dX7_leaf_50 : decode cX7_leaf 50 = .ok (.getfield 35, 3) := by decide +kernel
theorem dX7_leaf_53 : decode cX7_leaf 53 = .ok (.iload_n 1, 1) := by decide +kernel
theorem dX7_leaf_54 : decode cX7_leaf 54 = .ok (.iaload, 1) := by decide +kernel
theorem dX7_leaf_55 : decode cX7_leaf 55 = .ok (.goto 9, 3) := by decide +kernel
theorem dX7_leaf_58 : decode cX7_leaf 58 = .ok (.aload_n 0, 1) := by decide +kernel
theorem dX7_leaf_59 : decode cX7_leaf 59 = .ok (.getfield 38, 3) := by decide +kernel
theorem dX7_leaf_62 : decode cX7_leaf 62 = .ok (.iload_n 1, 1) := by decide +kernel
theorem dX7_leaf_63 : decode cX7_leaf 63 = .ok (.iaload, 1) := by decide +kernel
theorem dX7_leaf_64 : decode cX7_leaf 64 = .ok (.ireturn, 1) := by decide +kernel
theorem dX7_common_0 : decode cX7_common 0 = .ok (.iload_n 0, 1) := by decide +kernel
theorem dX7_common_1 : decode cX7_common 1 = .ok (.istore_n 2, 1) := by decide +kernel
theorem dX7_common_2 : decode cX7_common 2 = .ok (.iload_n 1, 1) := by decide +kernel
theorem dX7_common_3 : decode cX7_common 3 = .ok (.istore_n 3, 1) := by decide +kernel
theorem dX7_common_4 : decode cX7_common 4 = .ok (.iload_n 3, 1) := by decide +kernel
theorem dX7_common_5 : decode cX7_common 5 = .ok (.ifCond .le 16, 3) := by decide +kernel
theorem dX7_common_8 : decode cX7_common 8 = .ok (.iload_n 2, 1) := by decide +kernel
theorem dX7_common_9 : decode cX7_common 9 = .ok (.iload_n 3, 1) := by decide +kernel
theorem dX7_common_10 : decode cX7_common 10 = .ok (.irem, 1) := by decide +kernel
theorem dX7_common_11 : decode cX7_common 11 = .ok (.istore 4, 2) := by decide +kernel
theorem dX7_common_13 : decode cX7_common 13 = .ok (.iload_n 3, 1) := by decide +kernel
theorem dX7_common_14 : decode cX7_common 14 = .ok (.istore_n 2, 1) := by decide +kernel
theorem dX7_common_15 : decode cX7_common 15 = .ok (.iload 4, 2) := by decide +kernel
theorem dX7_common_17 : decode cX7_common 17 = .ok (.istore_n 3, 1) := by decide +kernel
theorem dX7_common_18 : decode cX7_common 18 = .ok (.goto (-14), 3) := by decide +kernel
theorem dX7_common_21 : decode cX7_common 21 = .ok (.iload_n 2, 1) := by decide +kernel
theorem dX7_common_22 : decode cX7_common 22 = .ok (.ireturn, 1) := by decide +kernel
theorem dX7_cutOf_0 : decode cX7_cutOf 0 = .ok (.aload_n 0, 1) := by decide +kernel
theorem dX7_cutOf_1 : decode cX7_cutOf 1 = .ok (.getfield 121, 3) := by decide +kernel
theorem dX7_cutOf_4 : decode cX7_cutOf 4 = .ok (.ifCond .eq 15, 3) := by decide +kernel
theorem dX7_cutOf_7 : decode cX7_cutOf 7 = .ok (.aload_n 0, 1) := by decide +kernel
theorem dX7_cutOf_8 : decode cX7_cutOf 8 = .ok (.getfield 112, 3) := by decide +kernel
theorem dX7_cutOf_11 : decode cX7_cutOf 11 = .ok (.aload_n 0, 1) := by decide +kernel
theorem dX7_cutOf_12 : decode cX7_cutOf 12 = .ok (.getfield 115, 3) := by decide +kernel
theorem dX7_cutOf_15 : decode cX7_cutOf 15 = .ok (.idiv, 1) := by decide +kernel
theorem dX7_cutOf_16 : decode cX7_cutOf 16 = .ok (.goto 5, 3) := by decide +kernel
theorem dX7_cutOf_19 : decode cX7_cutOf 19 = .ok (.bipush (-9), 2) := by decide +kernel
theorem dX7_cutOf_21 : decode cX7_cutOf 21 = .ok (.ireturn, 1) := by decide +kernel
set_option maxRecDepth 20000 in
theorem ggX7_bend_X7_in : GoodIn wsX7_bend wsX7_in := goodIn_r _ [7] (by decide +kernel) (by decide +kernel)
set_option maxRecDepth 20000 in
theorem gX7_bend_X7_in : GoodIn wsX7_bend (va_wsS RX7 47 yX7_in wsX7_in) := goodIn_app (goodIn_of _ (by decide +kernel)) ggX7_bend_X7_in
set_option maxRecDepth 20000 in
theorem ggX7_bend_X7_all : GoodIn wsX7_bend wsX7_all := goodIn_r _ [11, 12, 46, 47, 48, 49, 50, 51, 52, 53, 54, 55, 56, 57, 58, 59, 60, 61, 62, 63, 64, 65, 66, 67, 68] (by decide +kernel) (by decide +kernel)
set_option maxRecDepth 20000 in
theorem gX7_bend_X7_all : GoodIn wsX7_bend (wsV RX7 135 RX7 yX7_all wsX7_all) := goodIn_app (goodIn_of _ (by decide +kernel)) ggX7_bend_X7_all
set_option maxRecDepth 20000 in
theorem ggX7_bend_X7_whole : GoodIn wsX7_bend wsX7_whole := goodIn_r _ [16, 12, 17, 18, 19, 6, 20, 21, 22, 23, 24, 46, 47, 48, 49, 50, 51, 52, 53, 54, 55, 56, 57, 58, 59, 60, 61, 62, 63, 64, 65, 66, 67, 68] (by decide +kernel) (by decide +kernel)
set_option maxRecDepth 20000 in
theorem gX7_bend_X7_whole : GoodIn wsX7_bend (wsV RX7 131 RX7 yX7_whole wsX7_whole) := goodIn_app (goodIn_of _ (by decide +kernel)) ggX7_bend_X7_whole
set_option maxRecDepth 20000 in
theorem ggX7_bend_X7_bends : GoodIn wsX7_bend wsX7_bends := goodIn_r _ [28, 2, 3, 29, 1, 12, 30, 31, 32, 33, 6, 34, 35, 36, 37, 38, 21, 22, 23, 24, 46, 47, 48, 49, 50, 51, 52, 53, 54, 55, 56, 57, 58, 59, 60, 61, 62, 63, 64, 65, 66, 67, 68] (by decide +kernel) (by decide +kernel)
set_option maxRecDepth 20000 in
theorem gX7_bend_X7_bends : GoodIn wsX7_bend (wsV RX7 138 RX7 yX7_bends wsX7_bends) := goodIn_app (goodIn_of _ (by decide +kernel)) ggX7_bend_X7_bends
set_option maxRecDepth 20000 in
theorem ggX7_bend_X7_cutOf : GoodIn wsX7_bend wsX7_cutOf := goodIn_r _ [42, 1, 2, 3, 46, 47, 48, 49, 50, 51, 52, 53, 54, 55, 56, 57, 58, 59, 60, 61, 62, 63, 64, 65, 66, 67, 68] (by decide +kernel) (by decide +kernel)
set_option maxRecDepth 20000 in
theorem gX7_bend_X7_cutOf : GoodIn wsX7_bend (wsV RX7 154 RX7 yX7_cutOf wsX7_cutOf) := goodIn_app (goodIn_of _ (by decide +kernel)) ggX7_bend_X7_cutOf
set_option maxRecDepth 20000 in
theorem ggX7_bend_X7_common : GoodIn wsX7_bend wsX7_common := goodIn_r _ [45] (by decide +kernel) (by decide +kernel)
set_option maxRecDepth 20000 in
theorem gX7_bend_X7_common : GoodIn wsX7_bend (va_wsS RX7 157 yX7_common wsX7_common) := goodIn_app (goodIn_of _ (by decide +kernel)) ggX7_bend_X7_common
theorem dX7_bend_0 : decode cX7_bend 0 = .ok (.iload_n 1, 1) := by decide +kernel
theorem dX7_bend_1 : decode cX7_bend 1 = .ok (.iconst 0, 1) := by decide +kernel
theorem dX7_bend_2 : decode cX7_bend 2 = .ok (.sipush 999, 3) := by decide +kernel
theorem dX7_bend_5 : decode cX7_bend 5 = .ok (.invokestatic 47, 3) := by decide +kernel
theorem dX7_bend_8 : decode cX7_bend 8 = .ok (.ifCond .eq 12, 3) := by decide +kernel
theorem dX7_bend_11 : decode cX7_bend 11 = .ok (.iload_n 2, 1) := by decide +kernel
theorem dX7_bend_12 : decode cX7_bend 12 = .ok (.iconst 0, 1) := by decide +kernel
theorem dX7_bend_13 : decode cX7_bend 13 = .ok (.iconst 2, 1) := by decide +kernel
theorem dX7_bend_14 : decode cX7_bend 14 = .ok (.invokestatic 47, 3) := by decide +kernel
theorem dX7_bend_17 : decode cX7_bend 17 = .ok (.ifCond .ne 5, 3) := by decide +kernel
theorem dX7_bend_20 : decode cX7_bend 20 = .ok (.iconst (-1), 1) := by decide +kernel
theorem dX7_bend_21 : decode cX7_bend 21 = .ok (.ireturn, 1) := by decide +kernel
theorem dX7_bend_22 : decode cX7_bend 22 = .ok (.aload_n 0, 1) := by decide +kernel
theorem dX7_bend_23 : decode cX7_bend 23 = .ok (.aload_n 0, 1) := by decide +kernel
theorem dX7_bend_24 : decode cX7_bend 24 = .ok (.invokevirtual 135, 3) := by decide +kernel
theorem dX7_bend_27 : decode cX7_bend 27 = .ok (.aload_n 0, 1) := by decide +kernel
theorem dX7_bend_28 : decode cX7_bend 28 = .ok (.invokevirtual 131, 3) := by decide +kernel
theorem dX7_bend_31 : decode cX7_bend 31 = .ok (.iload_n 1, 1) := by decide +kernel
theorem dX7_bend_32 : decode cX7_bend 32 = .ok (.invokevirtual 138, 3) := by decide +kernel
theorem dX7_bend_35 : decode cX7_bend 35 = .ok (.aload_n 0, 1) := by decide +kernel
theorem dX7_bend_36 : decode cX7_bend 36 = .ok (.getfield 121, 3) := by decide +kernel
theorem dX7_bend_39 : decode cX7_bend 39 = .ok (.ifCond .eq 8, 3) := by decide +kernel
theorem dX7_bend_42 : decode cX7_bend 42 = .ok (.iload_n 2, 1) := by decide +kernel
theorem dX7_bend_43 : decode cX7_bend 43 = .ok (.iconst 2, 1) := by decide +kernel
theorem dX7_bend_44 : decode cX7_bend 44 = .ok (.if_icmp .ne 8, 3) := by decide +kernel
theorem dX7_bend_47 : decode cX7_bend 47 = .ok (.aload_n 0, 1) := by decide +kernel
theorem dX7_bend_48 : decode cX7_bend 48 = .ok (.invokevirtual 154, 3) := by decide +kernel
theorem dX7_bend_51 : decode cX7_bend 51 = .ok (.ireturn, 1) := by decide +kernel
theorem dX7_bend_52 : decode cX7_bend 52 = .ok (.aload_n 0, 1) := by decide +kernel
theorem dX7_bend_53 : decode cX7_bend 53 = .ok (.getfield 112, 3) := by decide +kernel
theorem dX7_bend_56 : decode cX7_bend 56 = .ok (.aload_n 0, 1) := by decide +kernel
theorem dX7_bend_57 : decode cX7_bend 57 = .ok (.getfield 115, 3) := by decide +kernel
theorem dX7_bend_60 : decode cX7_bend 60 = .ok (.invokestatic 157, 3) := by decide +kernel
theorem dX7_bend_63 : decode cX7_bend 63 = .ok (.istore_n 3, 1) := by decide +kernel
theorem dX7_bend_64 : decode cX7_bend 64 = .ok (.iload_n 2, 1) := by decide +kernel
theorem dX7_bend_65 : decode cX7_bend 65 = .ok (.ifCond .ne 12, 3) := by decide +kernel
theorem dX7_bend_68 : decode cX7_bend 68 = .ok (.aload_n 0, 1) := by decide +kernel
theorem dX7_bend_69 : decode cX7_bend 69 = .ok (.getfield 112, 3) := by decide +kernel
theorem dX7_bend_72 : decode cX7_bend 72 = .ok (.iload_n 3, 1) := by decide +kernel
theorem dX7_bend_73 : decode cX7_bend 73 = .ok (.idiv, 1) := by decide +kernel
theorem dX7_bend_74 : decode cX7_bend 74 = .ok (.goto 9, 3) := by decide +kernel
theorem dX7_bend_77 : decode cX7_bend 77 = .ok (.aload_n 0, 1) := by decide +kernel
theorem dX7_bend_78 : decode cX7_bend 78 = .ok (.getfield 115, 3) := by decide +kernel
theorem dX7_bend_81 : decode cX7_bend 81 = .ok (.iload_n 3, 1) := by decide +kernel
theorem dX7_bend_82 : decode cX7_bend 82 = .ok (.idiv, 1) := by decide +kernel
theorem dX7_bend_83 : decode cX7_bend 83 = .ok (.ireturn, 1) := by decide +kernel
set_option maxRecDepth 20000 in
theorem ggX7_bears_X7_isLeaf : GoodIn wsX7_bears wsX7_isLeaf := goodIn_r _ [7, 8, 9, 10, 6, 11, 50, 51, 52, 53, 54, 55, 56, 57, 58, 59, 60, 61, 62, 63, 64, 65, 66, 67, 68, 69, 70, 71, 72] (by decide +kernel) (by decide +kernel)
set_option maxRecDepth 20000 in
theorem gX7_bears_X7_isLeaf : GoodIn wsX7_bears (wsV RX7 151 RX7 yX7_isLeaf wsX7_isLeaf) := goodIn_app (goodIn_of _ (by decide +kernel)) ggX7_bears_X7_isLeaf
set_option maxRecDepth 20000 in
theorem ggX7_bears_X7_in : GoodIn wsX7_bears wsX7_in := goodIn_r _ [11] (by decide +kernel) (by decide +kernel)
set_option maxRecDepth 20000 in
theorem gX7_bears_X7_in : GoodIn wsX7_bears (va_wsS RX7 47 yX7_in wsX7_in) := goodIn_app (goodIn_of _ (by decide +kernel)) ggX7_bears_X7_in
set_option maxRecDepth 20000 in
theorem ggX7_bears_X7_whole : GoodIn wsX7_bears wsX7_whole := goodIn_r _ [15, 8, 16, 17, 18, 6, 19, 20, 21, 22, 23, 50, 51, 52, 53, 54, 55, 56, 57, 58, 59, 60, 61, 62, 63, 64, 65, 66, 67, 68, 69, 70, 71, 72] (by decide +kernel) (by decide +kernel)
set_option maxRecDepth 20000 in
theorem gX7_bears_X7_whole : GoodIn wsX7_bears (wsV RX7 131 RX7 yX7_whole wsX7_whole) := goodIn_app (goodIn_of _ (by decide +kernel)) ggX7_bears_X7_whole
set_option maxRecDepth 20000 in
theorem ggX7_bears_X7_all : GoodIn wsX7_bears wsX7_all := goodIn_r _ [27, 8, 50, 51, 52, 53, 54, 55, 56, 57, 58, 59, 60, 61, 62, 63, 64, 65, 66, 67, 68, 69, 70, 71, 72] (by decide +kernel) (by decide +kernel)
set_option maxRecDepth 20000 in
theorem gX7_bears_X7_all : GoodIn wsX7_bears (wsV RX7 135 RX7 yX7_all wsX7_all) := goodIn_app (goodIn_of _ (by decide +kernel)) ggX7_bears_X7_all
set_option maxRecDepth 20000 in
theorem ggX7_bears_X7_bends : GoodIn wsX7_bears wsX7_bends := goodIn_r _ [31, 32, 2, 33, 1, 8, 34, 35, 36, 37, 6, 38, 39, 40, 41, 42, 20, 21, 22, 23, 50, 51, 52, 53, 54, 55, 56, 57, 58, 59, 60, 61, 62, 63, 64, 65, 66, 67, 68, 69, 70, 71, 72] (by decide +kernel) (by decide +kernel)
set_option maxRecDepth 20000 in
theorem gX7_bears_X7_bends : GoodIn wsX7_bears (wsV RX7 138 RX7 yX7_bends wsX7_bends) := goodIn_app (goodIn_of _ (by decide +kernel)) ggX7_bears_X7_bends
set_option maxRecDepth 20000 in
theorem ggX7_bears_X7_bearsBy : GoodIn wsX7_bears wsX7_bearsBy := goodIn_r _ [46, 32, 34, 2, 40, 41, 6, 42, 20, 21, 22, 23, 8, 50, 51, 52, 53, 54, 55, 56, 57, 58, 59, 60, 61, 62, 63, 64, 65, 66, 67, 68, 69, 70, 71, 72] (by decide +kernel) (by decide +kernel)
set_option maxRecDepth 20000 in
theorem gX7_bears_X7_bearsBy : GoodIn wsX7_bears (wsV RX7 125 RX7 yX7_bearsBy wsX7_bearsBy) := goodIn_app (goodIn_of _ (by decide +kernel)) ggX7_bears_X7_bearsBy
set_option maxRecDepth 20000 in
theorem ggX7_bears_X7_of : GoodIn wsX7_bears wsX7_of := goodIn_r _ [23, 8, 50, 51, 52, 53, 54, 55, 56, 57, 58, 59, 60, 61, 62, 63, 64, 65, 66, 67, 68, 69, 70, 71, 72] (by decide +kernel) (by decide +kernel)
set_option maxRecDepth 20000 in
theorem gX7_bears_X7_of : GoodIn wsX7_bears (wsV RX7 51 RX7 yX7_of wsX7_of) := goodIn_app (goodIn_of _ (by decide +kernel)) ggX7_bears_X7_of
set_option maxRecDepth 20000 in
theorem ggX7_bears_X7_common : GoodIn wsX7_bears wsX7_common := goodIn_r _ [49] (by decide +kernel) (by decide +kernel)
set_option maxRecDepth 20000 in
theorem gX7_bears_X7_common : GoodIn wsX7_bears (va_wsS RX7 157 yX7_common wsX7_common) := goodIn_app (goodIn_of _ (by decide +kernel)) ggX7_bears_X7_common
theorem dX7_bears_0 : decode cX7_bears 0 = .ok (.aload_n 0, 1) := by decide +kernel
theorem dX7_bears_1 : decode cX7_bears 1 = .ok (.iload_n 1, 1) := by decide +kernel
theorem dX7_bears_2 : decode cX7_bears 2 = .ok (.invokevirtual 151, 3) := by decide +kernel
theorem dX7_bears_5 : decode cX7_bears 5 = .ok (.ifCond .eq 23, 3) := by decide +kernel
theorem dX7_bears_8 : decode cX7_bears 8 = .ok (.iload_n 2, 1) := by decide +kernel
theorem dX7_bears_9 : decode cX7_bears 9 = .ok (.iconst 0, 1) := by decide +kernel
theorem dX7_bears_10 : decode cX7_bears 10 = .ok (.sipush 999, 3) := by decide +kernel
theorem dX7_bears_13 : decode cX7_bears 13 = .ok (.invokestatic 47, 3) := by decide +kernel
theorem dX7_bears_16 : decode cX7_bears 16 = .ok (.ifCond .eq 12, 3) := by decide +kernel
theorem dX7_bears_19 : decode cX7_bears 19 = .ok (.iload_n 3, 1) := by decide +kernel
theorem dX7_bears_20 : decode cX7_bears 20 = .ok (.iconst 0, 1) := by decide +kernel
theorem dX7_bears_21 : decode cX7_bears 21 = .ok (.iconst 2, 1) := by decide +kernel
theorem dX7_bears_22 : decode cX7_bears 22 = .ok (.invokestatic 47, 3) := by decide +kernel
theorem dX7_bears_25 : decode cX7_bears 25 = .ok (.ifCond .ne 5, 3) := by decide +kernel
theorem dX7_bears_28 : decode cX7_bears 28 = .ok (.iconst (-1), 1) := by decide +kernel
theorem dX7_bears_29 : decode cX7_bears 29 = .ok (.ireturn, 1) := by decide +kernel
theorem dX7_bears_30 : decode cX7_bears 30 = .ok (.aload_n 0, 1) := by decide +kernel
theorem dX7_bears_31 : decode cX7_bears 31 = .ok (.invokevirtual 131, 3) := by decide +kernel
theorem dX7_bears_34 : decode cX7_bears 34 = .ok (.istore 4, 2) := by decide +kernel
theorem dX7_bears_36 : decode cX7_bears 36 = .ok (.aload_n 0, 1) := by decide +kernel
theorem dX7_bears_37 : decode cX7_bears 37 = .ok (.aload_n 0, 1) := by decide +kernel
theorem dX7_bears_38 : decode cX7_bears 38 = .ok (.invokevirtual 135, 3) := by decide +kernel
theorem dX7_bears_41 : decode cX7_bears 41 = .ok (.iload 4, 2) := by decide +kernel
theorem dX7_bears_43 : decode cX7_bears 43 = .ok (.iload_n 2, 1) := by decide +kernel
theorem dX7_bears_44 : decode cX7_bears 44 = .ok (.invokevirtual 138, 3) := by decide +kernel
theorem dX7_bears_47 : decode cX7_bears 47 = .ok (.aload_n 0, 1) := by decide +kernel
theorem dX7_bears_48 : decode cX7_bears 48 = .ok (.getfield 121, 3) := by decide +kernel
theorem dX7_bears_51 : decode cX7_bears 51 = .ok (.ifCond .ne 6, 3) := by decide +kernel
theorem dX7_bears_54 : decode cX7_bears 54 = .ok (.bipush (-9), 2) := by decide +kernel
theorem dX7_bears_56 : decode cX7_bears 56 = .ok (.ireturn, 1) := by decide +kernel
theorem dX7_bears_57 : decode cX7_bears 57 = .ok (.aload_n 0, 1) := by decide +kernel
theorem dX7_bears_58 : decode cX7_bears 58 = .ok (.iload 4, 2) := by decide +kernel
theorem dX7_bears_60 : decode cX7_bears 60 = .ok (.iload_n 1, 1) := by decide +kernel
theorem dX7_bears_61 : decode cX7_bears 61 = .ok (.invokevirtual 125, 3) := by decide +kernel
theorem dX7_bears_64 : decode cX7_bears 64 = .ok (.istore 5, 2) := by decide +kernel
theorem dX7_bears_66 : decode cX7_bears 66 = .ok (.iload_n 3, 1) := by decide +kernel
theorem dX7_bears_67 : decode cX7_bears 67 = .ok (.iconst 2, 1) := by decide +kernel
theorem dX7_bears_68 : decode cX7_bears 68 = .ok (.if_icmp .ne 25, 3) := by decide +kernel
theorem dX7_bears_71 : decode cX7_bears 71 = .ok (.iload 5, 2) := by decide +kernel
theorem dX7_bears_73 : decode cX7_bears 73 = .ok (.aload_n 0, 1) := by decide +kernel
theorem dX7_bears_74 : decode cX7_bears 74 = .ok (.iload_n 1, 1) := by decide +kernel
theorem dX7_bears_75 : decode cX7_bears 75 = .ok (.iconst 4, 1) := by decide +kernel
theorem dX7_bears_76 : decode cX7_bears 76 = .ok (.invokevirtual 51, 3) := by decide +kernel
theorem dX7_bears_79 : decode cX7_bears 79 = .ok (.aload_n 0, 1) := by decide +kernel
theorem dX7_bears_80 : decode cX7_bears 80 = .ok (.getfield 115, 3) := by decide +kernel
theorem dX7_bears_83 : decode cX7_bears 83 = .ok (.imul, 1) := by decide +kernel
theorem dX7_bears_84 : decode cX7_bears 84 = .ok (.if_icmp .le 7, 3) := by decide +kernel
theorem dX7_bears_87 : decode cX7_bears 87 = .ok (.iconst 1, 1) := by decide +kernel
theorem dX7_bears_88 : decode cX7_bears 88 = .ok (.goto 4, 3) := by decide +kernel
theorem dX7_bears_91 : decode cX7_bears 91 = .ok (.iconst 0, 1) := by decide +kernel
theorem dX7_bears_92 : decode cX7_bears 92 = .ok (.ireturn, 1) := by decide +kernel
theorem dX7_bears_93 : decode cX7_bears 93 = .ok (.iload 5, 2) := by decide +kernel
theorem dX7_bears_95 : decode cX7_bears 95 = .ok (.aload_n 0, 1) := by decide +kernel
theorem dX7_bears_96 : decode cX7_bears 96 = .ok (.getfield 115, 3) := by decide +kernel
theorem dX7_bears_99 : decode cX7_bears 99 = .ok (.invokestatic 157, 3) := by decide +kernel
theorem dX7_bears_102 : decode cX7_bears 102 = .ok (.istore 6, 2) := by decide +kernel
theorem dX7_bears_104 : decode cX7_bears 104 = .ok (.iload_n 3, 1) := by decide +kernel
theorem dX7_bears_105 : decode cX7_bears 105 = .ok (.ifCond .ne 11, 3) := by decide +kernel
theorem dX7_bears_108 : decode cX7_bears 108 = .ok (.iload 5, 2) := by decide +kernel
theorem dX7_bears_110 : decode cX7_bears 110 = .ok (.iload 6, 2) := by decide +kernel
theorem dX7_bears_112 : decode cX7_bears 112 = .ok (.idiv, 1) := by decide +kernel
theorem dX7_bears_113 : decode cX7_bears 113 = .ok (.goto 10, 3) := by decide +kernel
theorem dX7_bears_116 : decode cX7_bears 116 = .ok (.aload_n 0, 1) := by decide +kernel
theorem dX7_bears_117 : decode cX7_bears 117 = .ok (.getfield 115, 3) := by decide +kernel
theorem dX7_bears_120 : decode cX7_bears 120 = .ok (.iload 6, 2) := by decide +kernel
theorem dX7_bears_122 : decode cX7_bears 122 = .ok (.idiv, 1) := by decide +kernel
theorem dX7_bears_123 : decode cX7_bears 123 = .ok (.ireturn, 1) := by decide +kernel
set_option maxRecDepth 20000 in
theorem ggX7_rate_X7_in : GoodIn wsX7_rate wsX7_in := goodIn_r _ [6] (by decide +kernel) (by decide +kernel)
set_option maxRecDepth 20000 in
theorem gX7_rate_X7_in : GoodIn wsX7_rate (va_wsS RX7 47 yX7_in wsX7_in) := goodIn_app (goodIn_of _ (by decide +kernel)) ggX7_rate_X7_in
set_option maxRecDepth 20000 in
theorem ggX7_rate_X7_all : GoodIn wsX7_rate wsX7_all := goodIn_r _ [10, 11, 39, 40, 41, 42, 43, 44, 45, 46, 47, 48, 49, 50, 51, 52, 53, 54, 55, 56, 57, 58, 59, 60, 61] (by decide +kernel) (by decide +kernel)
set_option maxRecDepth 20000 in
theorem gX7_rate_X7_all : GoodIn wsX7_rate (wsV RX7 135 RX7 yX7_all wsX7_all) := goodIn_app (goodIn_of _ (by decide +kernel)) ggX7_rate_X7_all
set_option maxRecDepth 20000 in
theorem ggX7_rate_X7_whole : GoodIn wsX7_rate wsX7_whole := goodIn_r _ [15, 11, 16, 17, 18, 5, 19, 20, 21, 22, 23, 39, 40, 41, 42, 43, 44, 45, 46, 47, 48, 49, 50, 51, 52, 53, 54, 55, 56, 57, 58, 59, 60, 61] (by decide +kernel) (by decide +kernel)
set_option maxRecDepth 20000 in
theorem gX7_rate_X7_whole : GoodIn wsX7_rate (wsV RX7 131 RX7 yX7_whole wsX7_whole) := goodIn_app (goodIn_of _ (by decide +kernel)) ggX7_rate_X7_whole
set_option maxRecDepth 20000 in
theorem ggX7_rate_X7_bends : GoodIn wsX7_rate wsX7_bends := goodIn_r _ [27, 28, 29, 2, 1, 11, 30, 31, 32, 33, 5, 34, 35, 36, 37, 38, 20, 21, 22, 23, 39, 40, 41, 42, 43, 44, 45, 46, 47, 48, 49, 50, 51, 52, 53, 54, 55, 56, 57, 58, 59, 60, 61] (by decide +kernel) (by decide +kernel)
set_option maxRecDepth 20000 in
theorem gX7_rate_X7_bends : GoodIn wsX7_rate (wsV RX7 138 RX7 yX7_bends wsX7_bends) := goodIn_app (goodIn_of _ (by decide +kernel)) ggX7_rate_X7_bends
theorem dX7_rate_0 : decode cX7_rate 0 = .ok (.iload_n 1, 1) := by decide +kernel
theorem dX7_rate_1 : decode cX7_rate 1 = .ok (.iconst 0, 1) := by decide +kernel
theorem dX7_rate_2 : decode cX7_rate 2 = .ok (.sipush 999, 3) := by decide +kernel
theorem dX7_rate_5 : decode cX7_rate 5 = .ok (.invokestatic 47, 3) := by decide +kernel
theorem dX7_rate_8 : decode cX7_rate 8 = .ok (.ifCond .ne 5, 3) := by decide +kernel
theorem dX7_rate_11 : decode cX7_rate 11 = .ok (.iconst (-1), 1) := by decide +kernel
theorem dX7_rate_12 : decode cX7_rate 12 = .ok (.ireturn, 1) := by decide +kernel
theorem dX7_rate_13 : decode cX7_rate 13 = .ok (.aload_n 0, 1) := by decide +kernel
theorem dX7_rate_14 : decode cX7_rate 14 = .ok (.aload_n 0, 1) := by decide +kernel
theorem dX7_rate_15 : decode cX7_rate 15 = .ok (.invokevirtual 135, 3) := by decide +kernel
theorem dX7_rate_18 : decode cX7_rate 18 = .ok (.aload_n 0, 1) := by decide +kernel
theorem dX7_rate_19 : decode cX7_rate 19 = .ok (.invokevirtual 131, 3) := by decide +kernel
theorem dX7_rate_22 : decode cX7_rate 22 = .ok (.iload_n 1, 1) := by decide +kernel
theorem dX7_rate_23 : decode cX7_rate 23 = .ok (.invokevirtual 138, 3) := by decide +kernel
theorem dX7_rate_26 : decode cX7_rate 26 = .ok (.aload_n 0, 1) := by decide +kernel
theorem dX7_rate_27 : decode cX7_rate 27 = .ok (.getfield 121, 3) := by decide +kernel
theorem dX7_rate_30 : decode cX7_rate 30 = .ok (.ifCond .eq 10, 3) := by decide +kernel
theorem dX7_rate_33 : decode cX7_rate 33 = .ok (.aload_n 0, 1) := by decide +kernel
theorem dX7_rate_34 : decode cX7_rate 34 = .ok (.getfield 118, 3) := by decide +kernel
theorem dX7_rate_37 : decode cX7_rate 37 = .ok (.goto 5, 3) := by decide +kernel
theorem dX7_rate_40 : decode cX7_rate 40 = .ok (.bipush (-9), 2) := by decide +kernel
theorem dX7_rate_42 : decode cX7_rate 42 = .ok (.ireturn, 1) := by decide +kernel
set_option maxRecDepth 20000 in
theorem ggX7_least_X7_in : GoodIn wsX7_least wsX7_in := goodIn_r _ [4] (by decide +kernel) (by decide +kernel)
set_option maxRecDepth 20000 in
theorem gX7_least_X7_in : GoodIn wsX7_least (va_wsS RX7 47 yX7_in wsX7_in) := goodIn_app (goodIn_of _ (by decide +kernel)) ggX7_least_X7_in
set_option maxRecDepth 20000 in
theorem ggX7_least_X7_whole : GoodIn wsX7_least wsX7_whole := goodIn_r _ [8, 9, 10, 11, 12, 3, 13, 14, 15, 16, 17, 58, 59, 60, 61, 62, 63, 64, 65, 66, 67, 68, 69, 70, 71, 72, 73, 74, 75, 76, 77, 78, 79, 80] (by decide +kernel) (by decide +kernel)
set_option maxRecDepth 20000 in
theorem gX7_least_X7_whole : GoodIn wsX7_least (wsV RX7 131 RX7 yX7_whole wsX7_whole) := goodIn_app (goodIn_of _ (by decide +kernel)) ggX7_least_X7_whole
set_option maxRecDepth 20000 in
theorem ggX7_least_X7_all : GoodIn wsX7_least wsX7_all := goodIn_r _ [21, 9, 58, 59, 60, 61, 62, 63, 64, 65, 66, 67, 68, 69, 70, 71, 72, 73, 74, 75, 76, 77, 78, 79, 80] (by decide +kernel) (by decide +kernel)
set_option maxRecDepth 20000 in
theorem gX7_least_X7_all : GoodIn wsX7_least (wsV RX7 135 RX7 yX7_all wsX7_all) := goodIn_app (goodIn_of _ (by decide +kernel)) ggX7_least_X7_all
set_option maxRecDepth 20000 in
theorem ggX7_least_X7_bends : GoodIn wsX7_least wsX7_bends := goodIn_r _ [25, 26, 27, 28, 29, 9, 30, 31, 32, 33, 3, 34, 35, 36, 37, 38, 14, 15, 16, 17, 58, 59, 60, 61, 62, 63, 64, 65, 66, 67, 68, 69, 70, 71, 72, 73, 74, 75, 76, 77, 78, 79, 80] (by decide +kernel) (by decide +kernel)
set_option maxRecDepth 20000 in
theorem gX7_least_X7_bends : GoodIn wsX7_least (wsV RX7 138 RX7 yX7_bends wsX7_bends) := goodIn_app (goodIn_of _ (by decide +kernel)) ggX7_least_X7_bends
set_option maxRecDepth 20000 in
theorem ggX7_least_X7_breaking : GoodIn wsX7_least wsX7_breaking := goodIn_r _ [42, 9, 36, 37, 3, 38, 43, 44, 45, 46, 27, 47, 48, 49, 50, 26, 30, 14, 15, 16, 17, 58, 59, 60, 61, 62, 63, 64, 65, 66, 67, 68, 69, 70, 71, 72, 73, 74, 75, 76, 77, 78, 79, 80] (by decide +kernel) (by decide +kernel)
set_option maxRecDepth 20000 in
theorem gX7_least_X7_breaking : GoodIn wsX7_least (wsV RX7 142 RX7 yX7_breaking wsX7_breaking) := goodIn_app (goodIn_of _ (by decide +kernel)) ggX7_least_X7_breaking
set_option maxRecDepth 20000 in
theorem ggX7_least_X7_ones : GoodIn wsX7_least wsX7_ones := goodIn_r _ [53, 36, 37, 3, 38] (by decide +kernel) (by decide +kernel)
set_option maxRecDepth 20000 in
theorem gX7_least_X7_ones : GoodIn wsX7_least (va_wsS RX7 145 yX7_ones wsX7_ones) := goodIn_app (goodIn_of _ (by decide +kernel)) ggX7_least_X7_ones
set_option maxRecDepth 20000 in
theorem ggX7_least_X7_wholeBehind : GoodIn wsX7_least wsX7_wholeBehind := goodIn_r _ [57, 5, 6, 7, 3, 8, 9, 10, 11, 12, 13, 14, 15, 16, 17, 18, 19, 20, 21, 22, 23, 24, 25, 26, 27, 28, 29, 30, 31, 32, 33, 34, 35, 36, 37, 38, 39, 40, 41, 42, 43, 44, 45, 46, 47, 48, 49, 50, 58, 59, 60, 61, 62, 63, 64, 65, 66, 67, 68, 69, 70, 71, 72, 73, 74, 75, 76, 77, 78, 79, 80] (by decide +kernel) (by decide +kernel)
set_option maxRecDepth 20000 in
theorem gX7_least_X7_wholeBehind : GoodIn wsX7_least (wsV RX7 148 RX7 yX7_wholeBehind wsX7_wholeBehind) := goodIn_app (goodIn_of _ (by decide +kernel)) ggX7_least_X7_wholeBehind
theorem dX7_least_0 : decode cX7_least 0 = .ok (.iload_n 1, 1) := by decide +kernel
theorem dX7_least_1 : decode cX7_least 1 = .ok (.iconst 0, 1) := by decide +kernel
theorem dX7_least_2 : decode cX7_least 2 = .ok (.iconst 2, 1) := by decide +kernel
theorem dX7_least_3 : decode cX7_least 3 = .ok (.invokestatic 47, 3) := by decide +kernel
theorem dX7_least_6 : decode cX7_least 6 = .ok (.ifCond .ne 5, 3) := by decide +kernel
theorem dX7_least_9 : decode cX7_least 9 = .ok (.iconst (-1), 1) := by decide +kernel
theorem dX7_least_10 : decode cX7_least 10 = .ok (.ireturn, 1) := by decide +kernel
theorem dX7_least_11 : decode cX7_least 11 = .ok (.aload_n 0, 1) := by decide +kernel
theorem dX7_least_12 : decode cX7_least 12 = .ok (.invokevirtual 131, 3) := by decide +kernel
theorem dX7_least_15 : decode cX7_least 15 = .ok (.istore_n 2, 1) := by decide +kernel
theorem dX7_least_16 : decode cX7_least 16 = .ok (.iconst 1, 1) := by decide +kernel
theorem dX7_least_17 : decode cX7_least 17 = .ok (.istore_n 3, 1) := by decide +kernel
theorem dX7_least_18 : decode cX7_least 18 = .ok (.iload_n 3, 1) := by decide +kernel
theorem dX7_least_19 : decode cX7_least 19 = .ok (.sipush 999, 3) := by decide +kernel
theorem dX7_least_22 : decode cX7_least 22 = .ok (.if_icmp .gt 69, 3) := by decide +kernel
theorem dX7_least_25 : decode cX7_least 25 = .ok (.iload_n 2, 1) := by decide +kernel
theorem dX7_least_26 : decode cX7_least 26 = .ok (.ifCond .eq 65, 3) := by decide +kernel
theorem dX7_least_29 : decode cX7_least 29 = .ok (.aload_n 0, 1) := by decide +kernel
theorem dX7_least_30 : decode cX7_least 30 = .ok (.aload_n 0, 1) := by decide +kernel
theorem dX7_least_31 : decode cX7_least 31 = .ok (.invokevirtual 135, 3) := by decide +kernel
theorem dX7_least_34 : decode cX7_least 34 = .ok (.iload_n 2, 1) := by decide +kernel
theorem dX7_least_35 : decode cX7_least 35 = .ok (.iload_n 3, 1) := by decide +kernel
theorem dX7_least_36 : decode cX7_least 36 = .ok (.invokevirtual 138, 3) := by decide +kernel
theorem dX7_least_39 : decode cX7_least 39 = .ok (.aload_n 0, 1) := by decide +kernel
theorem dX7_least_40 : decode cX7_least 40 = .ok (.iload_n 2, 1) := by decide +kernel
theorem dX7_least_41 : decode cX7_least 41 = .ok (.invokevirtual 142, 3) := by decide +kernel
theorem dX7_least_44 : decode cX7_least 44 = .ok (.istore 4, 2) := by decide +kernel
theorem dX7_least_46 : decode cX7_least 46 = .ok (.iload 4, 2) := by decide +kernel
theorem dX7_least_48 : decode cX7_least 48 = .ok (.bipush (-9), 2) := by decide +kernel
theorem dX7_least_50 : decode cX7_least 50 = .ok (.if_icmp .eq 35, 3) := by decide +kernel
theorem dX7_least_53 : decode cX7_least 53 = .ok (.iload_n 1, 1) := by decide +kernel
theorem dX7_least_54 : decode cX7_least 54 = .ok (.ifCond .ne 7, 3) := by decide +kernel
theorem dX7_least_57 : decode cX7_least 57 = .ok (.iload_n 3, 1) := by decide +kernel
theorem dX7_least_58 : decode cX7_least 58 = .ok (.goto 26, 3) := by decide +kernel
theorem dX7_least_61 : decode cX7_least 61 = .ok (.iload_n 1, 1) := by decide +kernel
theorem dX7_least_62 : decode cX7_least 62 = .ok (.iconst 1, 1) := by decide +kernel
theorem dX7_least_63 : decode cX7_least 63 = .ok (.if_icmp .ne 8, 3) := by decide +kernel
theorem dX7_least_66 : decode cX7_least 66 = .ok (.iload 4, 2) := by decide +kernel
theorem dX7_least_68 : decode cX7_least 68 = .ok (.goto 16, 3) := by decide +kernel
theorem dX7_least_71 : decode cX7_least 71 = .ok (.iload_n 2, 1) := by decide +kernel
theorem dX7_least_72 : decode cX7_least 72 = .ok (.invokestatic 145, 3) := by decide +kernel
theorem dX7_least_75 : decode cX7_least 75 = .ok (.aload_n 0, 1) := by decide +kernel
theorem dX7_least_76 : decode cX7_least 76 = .ok (.iload_n 3, 1) := by decide +kernel
theorem dX7_least_77 : decode cX7_least 77 = .ok (.invokevirtual 148, 3) := by decide +kernel
theorem dX7_least_80 : decode cX7_least 80 = .ok (.invokestatic 145, 3) := by decide +kernel
theorem dX7_least_83 : decode cX7_least 83 = .ok (.isub, 1) := by decide +kernel
theorem dX7_least_84 : decode cX7_least 84 = .ok (.ireturn, 1) := by decide +kernel
theorem dX7_least_85 : decode cX7_least 85 = .ok (.iinc 3 1, 3) := by decide +kernel
theorem dX7_least_88 : decode cX7_least 88 = .ok (.goto (-70), 3) := by decide +kernel
theorem dX7_least_91 : decode cX7_least 91 = .ok (.bipush (-9), 2) := by decide +kernel
theorem dX7_least_93 : decode cX7_least 93 = .ok (.ireturn, 1) := by decide +kernel
set_option maxRecDepth 20000 in
theorem ggX7_loadAt_X7_isWhole : GoodIn wsX7_loadAt wsX7_isWhole := goodIn_r _ [7, 8, 9, 10, 6, 11, 1, 12, 13, 14, 15, 16, 17, 18, 19, 20, 21, 22, 23, 24, 25, 26, 27, 28, 29, 30, 31, 32, 33, 34] (by decide +kernel) (by decide +kernel)
set_option maxRecDepth 20000 in
theorem gX7_loadAt_X7_isWhole : GoodIn wsX7_loadAt (wsV RX7 55 RX7 yX7_isWhole wsX7_isWhole) := goodIn_app (goodIn_of _ (by decide +kernel)) ggX7_loadAt_X7_isWhole
set_option maxRecDepth 20000 in
theorem ggX7_loadAt_X7_of : GoodIn wsX7_loadAt wsX7_of := goodIn_r _ [11, 1, 12, 13, 14, 15, 16, 17, 18, 19, 20, 21, 22, 23, 24, 25, 26, 27, 28, 29, 30, 31, 32, 33, 34] (by decide +kernel) (by decide +kernel)
set_option maxRecDepth 20000 in
theorem gX7_loadAt_X7_of : GoodIn wsX7_loadAt (wsV RX7 51 RX7 yX7_of wsX7_of) := goodIn_app (goodIn_of _ (by decide +kernel)) ggX7_loadAt_X7_of
theorem dX7_loadAt_0 : decode cX7_loadAt 0 = .ok (.iconst 0, 1) := by decide +kernel
theorem dX7_loadAt_1 : decode cX7_loadAt 1 = .ok (.istore_n 2, 1) := by decide +kernel
theorem dX7_loadAt_2 : decode cX7_loadAt 2 = .ok (.iconst 0, 1) := by decide +kernel
theorem dX7_loadAt_3 : decode cX7_loadAt 3 = .ok (.istore_n 3, 1) := by decide +kernel
theorem dX7_loadAt_4 : decode cX7_loadAt 4 = .ok (.iload_n 3, 1) := by decide +kernel
theorem dX7_loadAt_5 : decode cX7_loadAt 5 = .ok (.aload_n 0, 1) := by decide +kernel
theorem dX7_loadAt_6 : decode cX7_loadAt 6 = .ok (.getfield 7, 3) := by decide +kernel
theorem dX7_loadAt_9 : decode cX7_loadAt 9 = .ok (.iconst 0, 1) := by decide +kernel
theorem dX7_loadAt_10 : decode cX7_loadAt 10 = .ok (.iaload, 1) := by decide +kernel
theorem dX7_loadAt_11 : decode cX7_loadAt 11 = .ok (.if_icmp .ge 49, 3) := by decide +kernel
theorem dX7_loadAt_14 : decode cX7_loadAt 14 = .ok (.iload_n 2, 1) := by decide +kernel
theorem dX7_loadAt_15 : decode cX7_loadAt 15 = .ok (.aload_n 0, 1) := by decide +kernel
theorem dX7_loadAt_16 : decode cX7_loadAt 16 = .ok (.iload_n 3, 1) := by decide +kernel
theorem dX7_loadAt_17 : decode cX7_loadAt 17 = .ok (.invokevirtual 55, 3) := by decide +kernel
theorem dX7_loadAt_20 : decode cX7_loadAt 20 = .ok (.ifCond .eq 31, 3) := by decide +kernel
theorem dX7_loadAt_23 : decode cX7_loadAt 23 = .ok (.aload_n 0, 1) := by decide +kernel
theorem dX7_loadAt_24 : decode cX7_loadAt 24 = .ok (.getfield 38, 3) := by decide +kernel
theorem dX7_loadAt_27 : decode cX7_loadAt 27 = .ok (.iload_n 3, 1) := by decide +kernel
theorem dX7_loadAt_28 : decode cX7_loadAt 28 = .ok (.iaload, 1) := by decide +kernel
theorem dX7_loadAt_29 : decode cX7_loadAt 29 = .ok (.iload_n 1, 1) := by decide +kernel
theorem dX7_loadAt_30 : decode cX7_loadAt 30 = .ok (.if_icmp .ge 21, 3) := by decide +kernel
theorem dX7_loadAt_33 : decode cX7_loadAt 33 = .ok (.aload_n 0, 1) := by decide +kernel
theorem dX7_loadAt_34 : decode cX7_loadAt 34 = .ok (.iload_n 3, 1) := by decide +kernel
theorem dX7_loadAt_35 : decode cX7_loadAt 35 = .ok (.iconst 2, 1) := by decide +kernel
theorem dX7_loadAt_36 : decode cX7_loadAt 36 = .ok (.invokevirtual 51, 3) := by decide +kernel
theorem dX7_loadAt_39 : decode cX7_loadAt 39 = .ok (.iload_n 1, 1) := by decide +kernel
theorem dX7_loadAt_40 : decode cX7_loadAt 40 = .ok (.aload_n 0, 1) := by decide +kernel
theorem dX7_loadAt_41 : decode cX7_loadAt 41 = .ok (.getfield 38, 3) := by decide +kernel
theorem dX7_loadAt_44 : decode cX7_loadAt 44 = .ok (.iload_n 3, 1) := by decide +kernel
theorem dX7_loadAt_45 : decode cX7_loadAt 45 = .ok (.iaload, 1) := by decide +kernel
theorem dX7_loadAt_46 : decode cX7_loadAt 46 = .ok (.isub, 1) := by decide +kernel
theorem dX7_loadAt_47 : decode cX7_loadAt 47 = .ok (.imul, 1) := by decide +kernel
theorem dX7_loadAt_48 : decode cX7_loadAt 48 = .ok (.goto 4, 3) := by decide +kernel
theorem dX7_loadAt_51 : decode cX7_loadAt 51 = .ok (.iconst 0, 1) := by decide +kernel
theorem dX7_loadAt_52 : decode cX7_loadAt 52 = .ok (.iadd, 1) := by decide +kernel
theorem dX7_loadAt_53 : decode cX7_loadAt 53 = .ok (.istore_n 2, 1) := by decide +kernel
theorem dX7_loadAt_54 : decode cX7_loadAt 54 = .ok (.iinc 3 1, 3) := by decide +kernel
theorem dX7_loadAt_57 : decode cX7_loadAt 57 = .ok (.goto (-53), 3) := by decide +kernel
theorem dX7_loadAt_60 : decode cX7_loadAt 60 = .ok (.iload_n 2, 1) := by decide +kernel
theorem dX7_loadAt_61 : decode cX7_loadAt 61 = .ok (.ireturn, 1) := by decide +kernel
set_option maxRecDepth 20000 in
theorem ggX7_knee_X7_all : GoodIn wsX7_knee wsX7_all := goodIn_r _ [7, 1, 28, 29, 30, 31, 32, 33, 34, 35, 36, 37, 38, 39, 40, 41, 42, 43, 44, 45, 46, 47, 48, 49, 50] (by decide +kernel) (by decide +kernel)
set_option maxRecDepth 20000 in
theorem gX7_knee_X7_all : GoodIn wsX7_knee (wsV RX7 135 RX7 yX7_all wsX7_all) := goodIn_app (goodIn_of _ (by decide +kernel)) ggX7_knee_X7_all
set_option maxRecDepth 20000 in
theorem ggX7_knee_X7_reaches : GoodIn wsX7_knee wsX7_reaches := goodIn_r _ [11, 1, 12, 2, 13, 14, 6, 15, 16, 17, 18, 19, 28, 29, 30, 31, 32, 33, 34, 35, 36, 37, 38, 39, 40, 41, 42, 43, 44, 45, 46, 47, 48, 49, 50] (by decide +kernel) (by decide +kernel)
set_option maxRecDepth 20000 in
theorem gX7_knee_X7_reaches : GoodIn wsX7_knee (wsV RX7 108 RX7 yX7_reaches wsX7_reaches) := goodIn_app (goodIn_of _ (by decide +kernel)) ggX7_knee_X7_reaches
set_option maxRecDepth 20000 in
theorem ggX7_knee_X7_isWhole : GoodIn wsX7_knee wsX7_isWhole := goodIn_r _ [23, 16, 17, 18, 6, 19, 1, 28, 29, 30, 31, 32, 33, 34, 35, 36, 37, 38, 39, 40, 41, 42, 43, 44, 45, 46, 47, 48, 49, 50] (by decide +kernel) (by decide +kernel)
set_option maxRecDepth 20000 in
theorem gX7_knee_X7_isWhole : GoodIn wsX7_knee (wsV RX7 55 RX7 yX7_isWhole wsX7_isWhole) := goodIn_app (goodIn_of _ (by decide +kernel)) ggX7_knee_X7_isWhole
set_option maxRecDepth 20000 in
theorem ggX7_knee_X7_loadAt : GoodIn wsX7_knee wsX7_loadAt := goodIn_r _ [27, 1, 2, 20, 21, 22, 6, 23, 16, 17, 18, 19, 28, 29, 30, 31, 32, 33, 34, 35, 36, 37, 38, 39, 40, 41, 42, 43, 44, 45, 46, 47, 48, 49, 50] (by decide +kernel) (by decide +kernel)
set_option maxRecDepth 20000 in
theorem gX7_knee_X7_loadAt : GoodIn wsX7_knee (wsV RX7 160 RX7 yX7_loadAt wsX7_loadAt) := goodIn_app (goodIn_of _ (by decide +kernel)) ggX7_knee_X7_loadAt
theorem dX7_knee_0 : decode cX7_knee 0 = .ok (.iload_n 1, 1) := by decide +kernel
theorem dX7_knee_1 : decode cX7_knee 1 = .ok (.iconst (-1), 1) := by decide +kernel
theorem dX7_knee_2 : decode cX7_knee 2 = .ok (.if_icmp .ge 5, 3) := by decide +kernel
theorem dX7_knee_5 : decode cX7_knee 5 = .ok (.iconst (-1), 1) := by decide +kernel
theorem dX7_knee_6 : decode cX7_knee 6 = .ok (.ireturn, 1) := by decide +kernel
theorem dX7_knee_7 : decode cX7_knee 7 = .ok (.aload_n 0, 1) := by decide +kernel
theorem dX7_knee_8 : decode cX7_knee 8 = .ok (.aload_n 0, 1) := by decide +kernel
theorem dX7_knee_9 : decode cX7_knee 9 = .ok (.invokevirtual 135, 3) := by decide +kernel
theorem dX7_knee_12 : decode cX7_knee 12 = .ok (.invokevirtual 108, 3) := by decide +kernel
theorem dX7_knee_15 : decode cX7_knee 15 = .ok (.iconst 0, 1) := by decide +kernel
theorem dX7_knee_16 : decode cX7_knee 16 = .ok (.istore_n 2, 1) := by decide +kernel
theorem dX7_knee_17 : decode cX7_knee 17 = .ok (.bipush (-9), 2) := by decide +kernel
theorem dX7_knee_19 : decode cX7_knee 19 = .ok (.istore_n 3, 1) := by decide +kernel
theorem dX7_knee_20 : decode cX7_knee 20 = .ok (.iconst 0, 1) := by decide +kernel
theorem dX7_knee_21 : decode cX7_knee 21 = .ok (.istore 4, 2) := by decide +kernel
theorem dX7_knee_23 : decode cX7_knee 23 = .ok (.iconst 0, 1) := by decide +kernel
theorem dX7_knee_24 : decode cX7_knee 24 = .ok (.istore 5, 2) := by decide +kernel
theorem dX7_knee_26 : decode cX7_knee 26 = .ok (.iload 5, 2) := by decide +kernel
theorem dX7_knee_28 : decode cX7_knee 28 = .ok (.aload_n 0, 1) := by decide +kernel
theorem dX7_knee_29 : decode cX7_knee 29 = .ok (.getfield 7, 3) := by decide +kernel
theorem dX7_knee_32 : decode cX7_knee 32 = .ok (.iconst 0, 1) := by decide +kernel
theorem dX7_knee_33 : decode cX7_knee 33 = .ok (.iaload, 1) := by decide +kernel
theorem dX7_knee_34 : decode cX7_knee 34 = .ok (.if_icmp .ge 61, 3) := by decide +kernel
theorem dX7_knee_37 : decode cX7_knee 37 = .ok (.aload_n 0, 1) := by decide +kernel
theorem dX7_knee_38 : decode cX7_knee 38 = .ok (.iload 5, 2) := by decide +kernel
theorem dX7_knee_40 : decode cX7_knee 40 = .ok (.invokevirtual 55, 3) := by decide +kernel
theorem dX7_knee_43 : decode cX7_knee 43 = .ok (.ifCond .eq 17, 3) := by decide +kernel
theorem dX7_knee_46 : decode cX7_knee 46 = .ok (.aload_n 0, 1) := by decide +kernel
theorem dX7_knee_47 : decode cX7_knee 47 = .ok (.aload_n 0, 1) := by decide +kernel
theorem dX7_knee_48 : decode cX7_knee 48 = .ok (.getfield 38, 3) := by decide +kernel
theorem dX7_knee_51 : decode cX7_knee 51 = .ok (.iload 5, 2) := by decide +kernel
theorem dX7_knee_53 : decode cX7_knee 53 = .ok (.iaload, 1) := by decide +kernel
theorem dX7_knee_54 : decode cX7_knee 54 = .ok (.invokevirtual 160, 3) := by decide +kernel
theorem dX7_knee_57 : decode cX7_knee 57 = .ok (.goto 4, 3) := by decide +kernel
theorem dX7_knee_60 : decode cX7_knee 60 = .ok (.iconst 0, 1) := by decide +kernel
theorem dX7_knee_61 : decode cX7_knee 61 = .ok (.istore 6, 2) := by decide +kernel
theorem dX7_knee_63 : decode cX7_knee 63 = .ok (.iload 6, 2) := by decide +kernel
theorem dX7_knee_65 : decode cX7_knee 65 = .ok (.iload 4, 2) := by decide +kernel
theorem dX7_knee_67 : decode cX7_knee 67 = .ok (.if_icmp .le 22, 3) := by decide +kernel
theorem dX7_knee_70 : decode cX7_knee 70 = .ok (.iload_n 2, 1) := by decide +kernel
theorem dX7_knee_71 : decode cX7_knee 71 = .ok (.iload_n 1, 1) := by decide +kernel
theorem dX7_knee_72 : decode cX7_knee 72 = .ok (.if_icmp .ne 8, 3) := by decide +kernel
theorem dX7_knee_75 : decode cX7_knee 75 = .ok (.iload 6, 2) := by decide +kernel
theorem dX7_knee_77 : decode cX7_knee 77 = .ok (.goto 4, 3) := by decide +kernel
theorem dX7_knee_80 : decode cX7_knee 80 = .ok (.iload_n 3, 1) := by decide +kernel
theorem dX7_knee_81 : decode cX7_knee 81 = .ok (.istore_n 3, 1) := by decide +kernel
theorem dX7_knee_82 : decode cX7_knee 82 = .ok (.iinc 2 1, 3) := by decide +kernel
theorem dX7_knee_85 : decode cX7_knee 85 = .ok (.iload 6, 2) := by decide +kernel
theorem dX7_knee_87 : decode cX7_knee 87 = .ok (.istore 4, 2) := by decide +kernel
theorem dX7_knee_89 : decode cX7_knee 89 = .ok (.iinc 5 1, 3) := by decide +kernel
theorem dX7_knee_92 : decode cX7_knee 92 = .ok (.goto (-66), 3) := by decide +kernel
theorem dX7_knee_95 : decode cX7_knee 95 = .ok (.iload_n 1, 1) := by decide +kernel
theorem dX7_knee_96 : decode cX7_knee 96 = .ok (.iconst (-1), 1) := by decide +kernel
theorem dX7_knee_97 : decode cX7_knee 97 = .ok (.if_icmp .ne 7, 3) := by decide +kernel
theorem dX7_knee_100 : decode cX7_knee 100 = .ok (.iload_n 2, 1) := by decide +kernel
theorem dX7_knee_101 : decode cX7_knee 101 = .ok (.goto 4, 3) := by decide +kernel
theorem dX7_knee_104 : decode cX7_knee 104 = .ok (.iload_n 3, 1) := by decide +kernel
theorem dX7_knee_105 : decode cX7_knee 105 = .ok (.ireturn, 1) := by decide +kernel
set_option maxRecDepth 20000 in
theorem ggX7_isChoice_X7_bends : GoodIn wsX7_isChoice wsX7_bends := goodIn_r _ [7, 1, 2, 8, 9, 10, 11, 12, 13, 14, 6, 15, 16, 17, 18, 19, 20, 21, 22, 23, 36, 37, 38, 39, 40, 41, 42, 43, 44, 45, 46, 47, 48, 49, 50, 51, 52, 53, 54, 55, 56, 57, 58] (by decide +kernel) (by decide +kernel)
set_option maxRecDepth 20000 in
theorem gX7_isChoice_X7_bends : GoodIn wsX7_isChoice (wsV RX7 138 RX7 yX7_bends wsX7_bends) := goodIn_app (goodIn_of _ (by decide +kernel)) ggX7_isChoice_X7_bends
set_option maxRecDepth 20000 in
theorem ggX7_isChoice_X7_breaking : GoodIn wsX7_isChoice wsX7_breaking := goodIn_r _ [27, 10, 17, 18, 6, 19, 28, 29, 30, 31, 2, 32, 33, 34, 35, 1, 11, 20, 21, 22, 23, 36, 37, 38, 39, 40, 41, 42, 43, 44, 45, 46, 47, 48, 49, 50, 51, 52, 53, 54, 55, 56, 57, 58] (by decide +kernel) (by decide +kernel)
set_option maxRecDepth 20000 in
theorem gX7_isChoice_X7_breaking : GoodIn wsX7_isChoice (wsV RX7 142 RX7 yX7_breaking wsX7_breaking) := goodIn_app (goodIn_of _ (by decide +kernel)) ggX7_isChoice_X7_breaking
theorem dX7_isChoice_0 : decode cX7_isChoice 0 = .ok (.aload_n 0, 1) := by decide +kernel
theorem dX7_isChoice_1 : decode cX7_isChoice 1 = .ok (.iload_n 1, 1) := by decide +kernel
theorem dX7_isChoice_2 : decode cX7_isChoice 2 = .ok (.iload_n 1, 1) := by decide +kernel
theorem dX7_isChoice_3 : decode cX7_isChoice 3 = .ok (.iload_n 2, 1) := by decide +kernel
theorem dX7_isChoice_4 : decode cX7_isChoice 4 = .ok (.invokevirtual 138, 3) := by decide +kernel
theorem dX7_isChoice_7 : decode cX7_isChoice 7 = .ok (.aload_n 0, 1) := by decide +kernel
theorem dX7_isChoice_8 : decode cX7_isChoice 8 = .ok (.iload_n 1, 1) := by decide +kernel
theorem dX7_isChoice_9 : decode cX7_isChoice 9 = .ok (.invokevirtual 142, 3) := by decide +kernel
theorem dX7_isChoice_12 : decode cX7_isChoice 12 = .ok (.bipush (-9), 2) := by decide +kernel
theorem dX7_isChoice_14 : decode cX7_isChoice 14 = .ok (.if_icmp .ne 20, 3) := by decide +kernel
theorem dX7_isChoice_17 : decode cX7_isChoice 17 = .ok (.aload_n 0, 1) := by decide +kernel
theorem dX7_isChoice_18 : decode cX7_isChoice 18 = .ok (.getfield 112, 3) := by decide +kernel
theorem dX7_isChoice_21 : decode cX7_isChoice 21 = .ok (.iload_n 3, 1) := by decide +kernel
theorem dX7_isChoice_22 : decode cX7_isChoice 22 = .ok (.aload_n 0, 1) := by decide +kernel
theorem dX7_isChoice_23 : decode cX7_isChoice 23 = .ok (.getfield 115, 3) := by decide +kernel
theorem dX7_isChoice_26 : decode cX7_isChoice 26 = .ok (.imul, 1) := by decide +kernel
theorem dX7_isChoice_27 : decode cX7_isChoice 27 = .ok (.if_icmp .gt 7, 3) := by decide +kernel
theorem dX7_isChoice_30 : decode cX7_isChoice 30 = .ok (.iconst 1, 1) := by decide +kernel
theorem dX7_isChoice_31 : decode cX7_isChoice 31 = .ok (.goto 4, 3) := by decide +kernel
theorem dX7_isChoice_34 : decode cX7_isChoice 34 = .ok (.iconst 0, 1) := by decide +kernel
theorem dX7_isChoice_35 : decode cX7_isChoice 35 = .ok (.ireturn, 1) := by decide +kernel
set_option maxRecDepth 20000 in
theorem ggX7_chosen_X7_in : GoodIn wsX7_chosen wsX7_in := goodIn_r _ [4] (by decide +kernel) (by decide +kernel)
set_option maxRecDepth 20000 in
theorem gX7_chosen_X7_in : GoodIn wsX7_chosen (va_wsS RX7 47 yX7_in wsX7_in) := goodIn_app (goodIn_of _ (by decide +kernel)) ggX7_chosen_X7_in
set_option maxRecDepth 20000 in
theorem ggX7_chosen_X7_whole : GoodIn wsX7_chosen wsX7_whole := goodIn_r _ [8, 9, 10, 11, 12, 3, 13, 14, 15, 16, 17, 54, 55, 56, 57, 58, 59, 60, 61, 62, 63, 64, 65, 66, 67, 68, 69, 70, 71, 72, 73, 74, 75, 76] (by decide +kernel) (by decide +kernel)
set_option maxRecDepth 20000 in
theorem gX7_chosen_X7_whole : GoodIn wsX7_chosen (wsV RX7 131 RX7 yX7_whole wsX7_whole) := goodIn_app (goodIn_of _ (by decide +kernel)) ggX7_chosen_X7_whole
set_option maxRecDepth 20000 in
theorem ggX7_chosen_X7_ones : GoodIn wsX7_chosen wsX7_ones := goodIn_r _ [20, 21, 22, 3, 23] (by decide +kernel) (by decide +kernel)
set_option maxRecDepth 20000 in
theorem gX7_chosen_X7_ones : GoodIn wsX7_chosen (va_wsS RX7 145 yX7_ones wsX7_ones) := goodIn_app (goodIn_of _ (by decide +kernel)) ggX7_chosen_X7_ones
set_option maxRecDepth 20000 in
theorem ggX7_chosen_X7_isChoice : GoodIn wsX7_chosen wsX7_isChoice := goodIn_r _ [27, 28, 29, 30, 31, 32, 3, 33, 34, 35, 9, 36, 37, 38, 39, 40, 41, 21, 22, 23, 14, 15, 16, 17, 42, 43, 44, 45, 46, 47, 48, 49, 50, 51, 52, 53, 54, 55, 56, 57, 58, 59, 60, 61, 62, 63, 64, 65, 66, 67, 68, 69, 70, 71, 72, 73, 74, 75, 76] (by decide +kernel) (by decide +kernel)
set_option maxRecDepth 20000 in
theorem gX7_chosen_X7_isChoice : GoodIn wsX7_chosen (wsV RX7 163 RX7 yX7_isChoice wsX7_isChoice) := goodIn_app (goodIn_of _ (by decide +kernel)) ggX7_chosen_X7_isChoice
theorem dX7_chosen_0 : decode cX7_chosen 0 = .ok (.iload_n 1, 1) := by decide +kernel
theorem dX7_chosen_1 : decode cX7_chosen 1 = .ok (.iconst 0, 1) := by decide +kernel
theorem dX7_chosen_2 : decode cX7_chosen 2 = .ok (.sipush 999, 3) := by decide +kernel
theorem dX7_chosen_5 : decode cX7_chosen 5 = .ok (.invokestatic 47, 3) := by decide +kernel
theorem dX7_chosen_8 : decode cX7_chosen 8 = .ok (.ifCond .eq 22, 3) := by decide +kernel
theorem dX7_chosen_11 : decode cX7_chosen 11 = .ok (.iload_n 2, 1) := by decide +kernel
theorem dX7_chosen_12 : decode cX7_chosen 12 = .ok (.iconst 0, 1) := by decide +kernel
theorem dX7_chosen_13 : decode cX7_chosen 13 = .ok (.bipush 99, 2) := by decide +kernel
theorem dX7_chosen_15 : decode cX7_chosen 15 = .ok (.invokestatic 47, 3) := by decide +kernel
theorem dX7_chosen_18 : decode cX7_chosen 18 = .ok (.ifCond .eq 12, 3) := by decide +kernel
theorem dX7_chosen_21 : decode cX7_chosen 21 = .ok (.iload_n 3, 1) := by decide +kernel
theorem dX7_chosen_22 : decode cX7_chosen 22 = .ok (.iconst 0, 1) := by decide +kernel
theorem dX7_chosen_23 : decode cX7_chosen 23 = .ok (.iconst 1, 1) := by decide +kernel
theorem dX7_chosen_24 : decode cX7_chosen 24 = .ok (.invokestatic 47, 3) := by decide +kernel
theorem dX7_chosen_27 : decode cX7_chosen 27 = .ok (.ifCond .ne 5, 3) := by decide +kernel
theorem dX7_chosen_30 : decode cX7_chosen 30 = .ok (.iconst (-1), 1) := by decide +kernel
theorem dX7_chosen_31 : decode cX7_chosen 31 = .ok (.ireturn, 1) := by decide +kernel
theorem dX7_chosen_32 : decode cX7_chosen 32 = .ok (.aload_n 0, 1) := by decide +kernel
theorem dX7_chosen_33 : decode cX7_chosen 33 = .ok (.invokevirtual 131, 3) := by decide +kernel
theorem dX7_chosen_36 : decode cX7_chosen 36 = .ok (.istore 4, 2) := by decide +kernel
theorem dX7_chosen_38 : decode cX7_chosen 38 = .ok (.iload 4, 2) := by decide +kernel
theorem dX7_chosen_40 : decode cX7_chosen 40 = .ok (.iload 4, 2) := by decide +kernel
theorem dX7_chosen_42 : decode cX7_chosen 42 = .ok (.ineg, 1) := by decide +kernel
theorem dX7_chosen_43 : decode cX7_chosen 43 = .ok (.iand, 1) := by decide +kernel
theorem dX7_chosen_44 : decode cX7_chosen 44 = .ok (.istore 5, 2) := by decide +kernel
theorem dX7_chosen_46 : decode cX7_chosen 46 = .ok (.bipush (-9), 2) := by decide +kernel
theorem dX7_chosen_48 : decode cX7_chosen 48 = .ok (.istore 6, 2) := by decide +kernel
theorem dX7_chosen_50 : decode cX7_chosen 50 = .ok (.iconst 1, 1) := by decide +kernel
theorem dX7_chosen_51 : decode cX7_chosen 51 = .ok (.istore 7, 2) := by decide +kernel
theorem dX7_chosen_53 : decode cX7_chosen 53 = .ok (.iload 7, 2) := by decide +kernel
theorem dX7_chosen_55 : decode cX7_chosen 55 = .ok (.iload 4, 2) := by decide +kernel
theorem dX7_chosen_57 : decode cX7_chosen 57 = .ok (.if_icmp .gt 79, 3) := by decide +kernel
theorem dX7_chosen_60 : decode cX7_chosen 60 = .ok (.iload 7, 2) := by decide +kernel
theorem dX7_chosen_62 : decode cX7_chosen 62 = .ok (.iload 4, 2) := by decide +kernel
theorem dX7_chosen_64 : decode cX7_chosen 64 = .ok (.iconst (-1), 1) := by decide +kernel
theorem dX7_chosen_65 : decode cX7_chosen 65 = .ok (.ixor, 1) := by decide +kernel
theorem dX7_chosen_66 : decode cX7_chosen 66 = .ok (.iand, 1) := by decide +kernel
theorem dX7_chosen_67 : decode cX7_chosen 67 = .ok (.ifCond .ne 35, 3) := by decide +kernel
theorem dX7_chosen_70 : decode cX7_chosen 70 = .ok (.iload 7, 2) := by decide +kernel
theorem dX7_chosen_72 : decode cX7_chosen 72 = .ok (.iload 5, 2) := by decide +kernel
theorem dX7_chosen_74 : decode cX7_chosen 74 = .ok (.iand, 1) := by decide +kernel
theorem dX7_chosen_75 : decode cX7_chosen 75 = .ok (.ifCond .eq 27, 3) := by decide +kernel
theorem dX7_chosen_78 : decode cX7_chosen 78 = .ok (.iload 6, 2) := by decide +kernel
theorem dX7_chosen_80 : decode cX7_chosen 80 = .ok (.bipush (-9), 2) := by decide +kernel
theorem dX7_chosen_82 : decode cX7_chosen 82 = .ok (.if_icmp .eq 16, 3) := by decide +kernel
theorem dX7_chosen_85 : decode cX7_chosen 85 = .ok (.iload 7, 2) := by decide +kernel
theorem dX7_chosen_87 : decode cX7_chosen 87 = .ok (.invokestatic 145, 3) := by decide +kernel
theorem dX7_chosen_90 : decode cX7_chosen 90 = .ok (.iload 6, 2) := by decide +kernel
theorem dX7_chosen_92 : decode cX7_chosen 92 = .ok (.invokestatic 145, 3) := by decide +kernel
theorem dX7_chosen_95 : decode cX7_chosen 95 = .ok (.if_icmp .ge 7, 3) := by decide +kernel
theorem dX7_chosen_98 : decode cX7_chosen 98 = .ok (.iconst 1, 1) := by decide +kernel
theorem dX7_chosen_99 : decode cX7_chosen 99 = .ok (.goto 4, 3) := by decide +kernel
theorem dX7_chosen_102 : decode cX7_chosen 102 = .ok (.iconst 0, 1) := by decide +kernel
theorem dX7_chosen_103 : decode cX7_chosen 103 = .ok (.istore 8, 2) := by decide +kernel
theorem dX7_chosen_105 : decode cX7_chosen 105 = .ok (.iload 8, 2) := by decide +kernel
theorem dX7_chosen_107 : decode cX7_chosen 107 = .ok (.ifCond .eq 19, 3) := by decide +kernel
theorem dX7_chosen_110 : decode cX7_chosen 110 = .ok (.aload_n 0, 1) := by decide +kernel
theorem dX7_chosen_111 : decode cX7_chosen 111 = .ok (.iload 7, 2) := by decide +kernel
theorem dX7_chosen_113 : decode cX7_chosen 113 = .ok (.iload_n 1, 1) := by decide +kernel
theorem dX7_chosen_114 : decode cX7_chosen 114 = .ok (.iload_n 2, 1) := by decide +kernel
theorem dX7_chosen_115 : decode cX7_chosen 115 = .ok (.invokevirtual 163, 3) := by decide +kernel
theorem dX7_chosen_118 : decode cX7_chosen 118 = .ok (.ifCond .eq 8, 3) := by decide +kernel
theorem dX7_chosen_121 : decode cX7_chosen 121 = .ok (.iload 7, 2) := by decide +kernel
theorem dX7_chosen_123 : decode cX7_chosen 123 = .ok (.goto 5, 3) := by decide +kernel
theorem dX7_chosen_126 : decode cX7_chosen 126 = .ok (.iload 6, 2) := by decide +kernel
theorem dX7_chosen_128 : decode cX7_chosen 128 = .ok (.istore 6, 2) := by decide +kernel
theorem dX7_chosen_130 : decode cX7_chosen 130 = .ok (.iinc 7 1, 3) := by decide +kernel
theorem dX7_chosen_133 : decode cX7_chosen 133 = .ok (.goto (-80), 3) := by decide +kernel
theorem dX7_chosen_136 : decode cX7_chosen 136 = .ok (.iload_n 3, 1) := by decide +kernel
theorem dX7_chosen_137 : decode cX7_chosen 137 = .ok (.iconst 1, 1) := by decide +kernel
theorem dX7_chosen_138 : decode cX7_chosen 138 = .ok (.if_icmp .eq 10, 3) := by decide +kernel
theorem dX7_chosen_141 : decode cX7_chosen 141 = .ok (.iload 6, 2) := by decide +kernel
theorem dX7_chosen_143 : decode cX7_chosen 143 = .ok (.bipush (-9), 2) := by decide +kernel
theorem dX7_chosen_145 : decode cX7_chosen 145 = .ok (.if_icmp .ne 8, 3) := by decide +kernel
theorem dX7_chosen_148 : decode cX7_chosen 148 = .ok (.iload 6, 2) := by decide +kernel
theorem dX7_chosen_150 : decode cX7_chosen 150 = .ok (.goto 8, 3) := by decide +kernel
theorem dX7_chosen_153 : decode cX7_chosen 153 = .ok (.iload 6, 2) := by decide +kernel
theorem dX7_chosen_155 : decode cX7_chosen 155 = .ok (.invokestatic 145, 3) := by decide +kernel
theorem dX7_chosen_158 : decode cX7_chosen 158 = .ok (.ireturn, 1) := by decide +kernel
set_option maxRecDepth 20000 in
theorem ggX7_sees_X7_in : GoodIn wsX7_sees wsX7_in := goodIn_r _ [7] (by decide +kernel) (by decide +kernel)
set_option maxRecDepth 20000 in
theorem gX7_sees_X7_in : GoodIn wsX7_sees (va_wsS RX7 47 yX7_in wsX7_in) := goodIn_app (goodIn_of _ (by decide +kernel)) ggX7_sees_X7_in
theorem dX7_sees_0 : decode cX7_sees 0 = .ok (.iload_n 1, 1) := by decide +kernel
theorem dX7_sees_1 : decode cX7_sees 1 = .ok (.iconst 0, 1) := by decide +kernel
theorem dX7_sees_2 : decode cX7_sees 2 = .ok (.sipush 999, 3) := by decide +kernel
theorem dX7_sees_5 : decode cX7_sees 5 = .ok (.invokestatic 47, 3) := by decide +kernel
theorem dX7_sees_8 : decode cX7_sees 8 = .ok (.ifCond .eq 20, 3) := by decide +kernel
theorem dX7_sees_11 : decode cX7_sees 11 = .ok (.iload_n 2, 1) := by decide +kernel
theorem dX7_sees_12 : decode cX7_sees 12 = .ok (.iconst 0, 1) := by decide +kernel
theorem dX7_sees_13 : decode cX7_sees 13 = .ok (.sipush 9999, 3) := by decide +kernel
theorem dX7_sees_16 : decode cX7_sees 16 = .ok (.invokestatic 47, 3) := by decide +kernel
theorem dX7_sees_19 : decode cX7_sees 19 = .ok (.ifCond .ne 11, 3) := by decide +kernel
theorem dX7_sees_22 : decode cX7_sees 22 = .ok (.iload_n 2, 1) := by decide +kernel
theorem dX7_sees_23 : decode cX7_sees 23 = .ok (.bipush (-9), 2) := by decide +kernel
theorem dX7_sees_25 : decode cX7_sees 25 = .ok (.if_icmp .eq 5, 3) := by decide +kernel
theorem dX7_sees_28 : decode cX7_sees 28 = .ok (.iconst (-1), 1) := by decide +kernel
theorem dX7_sees_29 : decode cX7_sees 29 = .ok (.ireturn, 1) := by decide +kernel
theorem dX7_sees_30 : decode cX7_sees 30 = .ok (.aload_n 0, 1) := by decide +kernel
theorem dX7_sees_31 : decode cX7_sees 31 = .ok (.getfield 102, 3) := by decide +kernel
theorem dX7_sees_34 : decode cX7_sees 34 = .ok (.bipush 6, 2) := by decide +kernel
theorem dX7_sees_36 : decode cX7_sees 36 = .ok (.if_icmp .ne 6, 3) := by decide +kernel
theorem dX7_sees_39 : decode cX7_sees 39 = .ok (.bipush (-3), 2) := by decide +kernel
theorem dX7_sees_41 : decode cX7_sees 41 = .ok (.ireturn, 1) := by decide +kernel
theorem dX7_sees_42 : decode cX7_sees 42 = .ok (.aload_n 0, 1) := by decide +kernel
theorem dX7_sees_43 : decode cX7_sees 43 = .ok (.getfield 26, 3) := by decide +kernel
theorem dX7_sees_46 : decode cX7_sees 46 = .ok (.aload_n 0, 1) := by decide +kernel
theorem dX7_sees_47 : decode cX7_sees 47 = .ok (.getfield 102, 3) := by decide +kernel
theorem dX7_sees_50 : decode cX7_sees 50 = .ok (.iload_n 1, 1) := by decide +kernel
theorem dX7_sees_51 : decode cX7_sees 51 = .ok (.iastore, 1) := by decide +kernel
theorem dX7_sees_52 : decode cX7_sees 52 = .ok (.aload_n 0, 1) := by decide +kernel
theorem dX7_sees_53 : decode cX7_sees 53 = .ok (.getfield 29, 3) := by decide +kernel
theorem dX7_sees_56 : decode cX7_sees 56 = .ok (.aload_n 0, 1) := by decide +kernel
theorem dX7_sees_57 : decode cX7_sees 57 = .ok (.getfield 102, 3) := by decide +kernel
theorem dX7_sees_60 : decode cX7_sees 60 = .ok (.iload_n 2, 1) := by decide +kernel
theorem dX7_sees_61 : decode cX7_sees 61 = .ok (.iastore, 1) := by decide +kernel
theorem dX7_sees_62 : decode cX7_sees 62 = .ok (.aload_n 0, 1) := by decide +kernel
theorem dX7_sees_63 : decode cX7_sees 63 = .ok (.dup, 1) := by decide +kernel
theorem dX7_sees_64 : decode cX7_sees 64 = .ok (.getfield 102, 3) := by decide +kernel
theorem dX7_sees_67 : decode cX7_sees 67 = .ok (.iconst 1, 1) := by decide +kernel
theorem dX7_sees_68 : decode cX7_sees 68 = .ok (.iadd, 1) := by decide +kernel
theorem dX7_sees_69 : decode cX7_sees 69 = .ok (.putfield 102, 3) := by decide +kernel
theorem dX7_sees_72 : decode cX7_sees 72 = .ok (.aload_n 0, 1) := by decide +kernel
theorem dX7_sees_73 : decode cX7_sees 73 = .ok (.getfield 102, 3) := by decide +kernel
theorem dX7_sees_76 : decode cX7_sees 76 = .ok (.ireturn, 1) := by decide +kernel
theorem dX7_forget_0 : decode cX7_forget 0 = .ok (.aload_n 0, 1) := by decide +kernel
theorem dX7_forget_1 : decode cX7_forget 1 = .ok (.getfield 102, 3) := by decide +kernel
theorem dX7_forget_4 : decode cX7_forget 4 = .ok (.istore_n 1, 1) := by decide +kernel
theorem dX7_forget_5 : decode cX7_forget 5 = .ok (.aload_n 0, 1) := by decide +kernel
theorem dX7_forget_6 : decode cX7_forget 6 = .ok (.iconst 0, 1) := by decide +kernel
theorem dX7_forget_7 : decode cX7_forget 7 = .ok (.putfield 102, 3) := by decide +kernel
theorem dX7_forget_10 : decode cX7_forget 10 = .ok (.iload_n 1, 1) := by decide +kernel
theorem dX7_forget_11 : decode cX7_forget 11 = .ok (.ireturn, 1) := by decide +kernel
set_option maxRecDepth 20000 in
theorem ggX7_bendWithout_X7_all : GoodIn wsX7_bendWithout wsX7_all := goodIn_r _ [5, 6, 40, 41, 42, 43, 44, 45, 46, 47, 48, 49, 50, 51, 52, 53, 54, 55, 56, 57, 58, 59, 60, 61, 62] (by decide +kernel) (by decide +kernel)
set_option maxRecDepth 20000 in
theorem gX7_bendWithout_X7_all : GoodIn wsX7_bendWithout (wsV RX7 135 RX7 yX7_all wsX7_all) := goodIn_app (goodIn_of _ (by decide +kernel)) ggX7_bendWithout_X7_all
set_option maxRecDepth 20000 in
theorem ggX7_bendWithout_X7_whole : GoodIn wsX7_bendWithout wsX7_whole := goodIn_r _ [10, 6, 11, 12, 13, 4, 14, 15, 16, 17, 18, 40, 41, 42, 43, 44, 45, 46, 47, 48, 49, 50, 51, 52, 53, 54, 55, 56, 57, 58, 59, 60, 61, 62] (by decide +kernel) (by decide +kernel)
set_option maxRecDepth 20000 in
theorem gX7_bendWithout_X7_whole : GoodIn wsX7_bendWithout (wsV RX7 131 RX7 yX7_whole wsX7_whole) := goodIn_app (goodIn_of _ (by decide +kernel)) ggX7_bendWithout_X7_whole
set_option maxRecDepth 20000 in
theorem ggX7_bendWithout_X7_bends : GoodIn wsX7_bendWithout wsX7_bends := goodIn_r _ [22, 23, 24, 25, 26, 6, 27, 28, 29, 30, 4, 31, 32, 33, 34, 35, 15, 16, 17, 18, 40, 41, 42, 43, 44, 45, 46, 47, 48, 49, 50, 51, 52, 53, 54, 55, 56, 57, 58, 59, 60, 61, 62] (by decide +kernel) (by decide +kernel)
set_option maxRecDepth 20000 in
theorem gX7_bendWithout_X7_bends : GoodIn wsX7_bendWithout (wsV RX7 138 RX7 yX7_bends wsX7_bends) := goodIn_app (goodIn_of _ (by decide +kernel)) ggX7_bendWithout_X7_bends
set_option maxRecDepth 20000 in
theorem ggX7_bendWithout_X7_cutOf : GoodIn wsX7_bendWithout wsX7_cutOf := goodIn_r _ [39, 26, 23, 24, 40, 41, 42, 43, 44, 45, 46, 47, 48, 49, 50, 51, 52, 53, 54, 55, 56, 57, 58, 59, 60, 61, 62] (by decide +kernel) (by decide +kernel)
set_option maxRecDepth 20000 in
theorem gX7_bendWithout_X7_cutOf : GoodIn wsX7_bendWithout (wsV RX7 154 RX7 yX7_cutOf wsX7_cutOf) := goodIn_app (goodIn_of _ (by decide +kernel)) ggX7_bendWithout_X7_cutOf
theorem dX7_bendWithout_0 : decode cX7_bendWithout 0 = .ok (.aload_n 0, 1) := by decide +kernel
theorem dX7_bendWithout_1 : decode cX7_bendWithout 1 = .ok (.aload_n 0, 1) := by decide +kernel
theorem dX7_bendWithout_2 : decode cX7_bendWithout 2 = .ok (.invokevirtual 135, 3) := by decide +kernel
theorem dX7_bendWithout_5 : decode cX7_bendWithout 5 = .ok (.iload_n 1, 1) := by decide +kernel
theorem dX7_bendWithout_6 : decode cX7_bendWithout 6 = .ok (.ifCond .ge 10, 3) := by decide +kernel
theorem dX7_bendWithout_9 : decode cX7_bendWithout 9 = .ok (.aload_n 0, 1) := by decide +kernel
theorem dX7_bendWithout_10 : decode cX7_bendWithout 10 = .ok (.invokevirtual 131, 3) := by decide +kernel
theorem dX7_bendWithout_13 : decode cX7_bendWithout 13 = .ok (.goto 13, 3) := by decide +kernel
theorem dX7_bendWithout_16 : decode cX7_bendWithout 16 = .ok (.aload_n 0, 1) := by decide +kernel
theorem dX7_bendWithout_17 : decode cX7_bendWithout 17 = .ok (.invokevirtual 131, 3) := by decide +kernel
theorem dX7_bendWithout_20 : decode cX7_bendWithout 20 = .ok (.iconst 1, 1) := by decide +kernel
theorem dX7_bendWithout_21 : decode cX7_bendWithout 21 = .ok (.iload_n 1, 1) := by decide +kernel
theorem dX7_bendWithout_22 : decode cX7_bendWithout 22 = .ok (.ishl, 1) := by decide +kernel
theorem dX7_bendWithout_23 : decode cX7_bendWithout 23 = .ok (.iconst (-1), 1) := by decide +kernel
theorem dX7_bendWithout_24 : decode cX7_bendWithout 24 = .ok (.ixor, 1) := by decide +kernel
theorem dX7_bendWithout_25 : decode cX7_bendWithout 25 = .ok (.iand, 1) := by decide +kernel
theorem dX7_bendWithout_26 : decode cX7_bendWithout 26 = .ok (.iload_n 2, 1) := by decide +kernel
theorem dX7_bendWithout_27 : decode cX7_bendWithout 27 = .ok (.invokevirtual 138, 3) := by decide +kernel
theorem dX7_bendWithout_30 : decode cX7_bendWithout 30 = .ok (.aload_n 0, 1) := by decide +kernel
theorem dX7_bendWithout_31 : decode cX7_bendWithout 31 = .ok (.invokevirtual 154, 3) := by decide +kernel
theorem dX7_bendWithout_34 : decode cX7_bendWithout 34 = .ok (.ireturn, 1) := by decide +kernel
set_option maxRecDepth 20000 in
theorem ggX7_isSo_X7_isWhole : GoodIn wsX7_isSo wsX7_isWhole := goodIn_r _ [8, 9, 10, 11, 7, 12, 13, 47, 48, 49, 50, 51, 52, 53, 54, 55, 56, 57, 58, 59, 60, 61, 62, 63, 64, 65, 66, 67, 68, 69] (by decide +kernel) (by decide +kernel)
set_option maxRecDepth 20000 in
theorem gX7_isSo_X7_isWhole : GoodIn wsX7_isSo (wsV RX7 55 RX7 yX7_isWhole wsX7_isWhole) := goodIn_app (goodIn_of _ (by decide +kernel)) ggX7_isSo_X7_isWhole
set_option maxRecDepth 20000 in
theorem ggX7_isSo_X7_bendWithout : GoodIn wsX7_isSo wsX7_bendWithout := goodIn_r _ [17, 18, 19, 20, 7, 21, 13, 22, 23, 24, 25, 4, 5, 6, 8, 9, 10, 11, 12, 26, 27, 28, 29, 30, 31, 32, 33, 34, 35, 36, 37, 38, 39, 40, 41, 42, 43, 44, 45, 46, 47, 48, 49, 50, 51, 52, 53, 54, 55, 56, 57, 58, 59, 60, 61, 62, 63, 64, 65, 66, 67, 68, 69] (by decide +kernel) (by decide +kernel)
set_option maxRecDepth 20000 in
theorem gX7_isSo_X7_bendWithout : GoodIn wsX7_isSo (wsV RX7 166 RX7 yX7_bendWithout wsX7_bendWithout) := goodIn_app (goodIn_of _ (by decide +kernel)) ggX7_isSo_X7_bendWithout
theorem dX7_isSo_0 : decode cX7_isSo 0 = .ok (.iload_n 1, 1) := by decide +kernel
theorem dX7_isSo_1 : decode cX7_isSo 1 = .ok (.ifCond .lt 11, 3) := by decide +kernel
theorem dX7_isSo_4 : decode cX7_isSo 4 = .ok (.aload_n 0, 1) := by decide +kernel
theorem dX7_isSo_5 : decode cX7_isSo 5 = .ok (.iload_n 1, 1) := by decide +kernel
theorem dX7_isSo_6 : decode cX7_isSo 6 = .ok (.invokevirtual 55, 3) := by decide +kernel
theorem dX7_isSo_9 : decode cX7_isSo 9 = .ok (.ifCond .eq 7, 3) := by decide +kernel
theorem dX7_isSo_12 : decode cX7_isSo 12 = .ok (.iconst 1, 1) := by decide +kernel
theorem dX7_isSo_13 : decode cX7_isSo 13 = .ok (.goto 4, 3) := by decide +kernel
theorem dX7_isSo_16 : decode cX7_isSo 16 = .ok (.iconst 0, 1) := by decide +kernel
theorem dX7_isSo_17 : decode cX7_isSo 17 = .ok (.istore_n 2, 1) := by decide +kernel
theorem dX7_isSo_18 : decode cX7_isSo 18 = .ok (.iconst 0, 1) := by decide +kernel
theorem dX7_isSo_19 : decode cX7_isSo 19 = .ok (.istore_n 3, 1) := by decide +kernel
theorem dX7_isSo_20 : decode cX7_isSo 20 = .ok (.iload_n 3, 1) := by decide +kernel
theorem dX7_isSo_21 : decode cX7_isSo 21 = .ok (.aload_n 0, 1) := by decide +kernel
theorem dX7_isSo_22 : decode cX7_isSo 22 = .ok (.getfield 102, 3) := by decide +kernel
theorem dX7_isSo_25 : decode cX7_isSo 25 = .ok (.if_icmp .ge 39, 3) := by decide +kernel
theorem dX7_isSo_28 : decode cX7_isSo 28 = .ok (.iload_n 2, 1) := by decide +kernel
theorem dX7_isSo_29 : decode cX7_isSo 29 = .ok (.ifCond .eq 35, 3) := by decide +kernel
theorem dX7_isSo_32 : decode cX7_isSo 32 = .ok (.aload_n 0, 1) := by decide +kernel
theorem dX7_isSo_33 : decode cX7_isSo 33 = .ok (.iload_n 1, 1) := by decide +kernel
theorem dX7_isSo_34 : decode cX7_isSo 34 = .ok (.aload_n 0, 1) := by decide +kernel
theorem dX7_isSo_35 : decode cX7_isSo 35 = .ok (.getfield 26, 3) := by decide +kernel
theorem dX7_isSo_38 : decode cX7_isSo 38 = .ok (.iload_n 3, 1) := by decide +kernel
theorem dX7_isSo_39 : decode cX7_isSo 39 = .ok (.iaload, 1) := by decide +kernel
theorem dX7_isSo_40 : decode cX7_isSo 40 = .ok (.invokevirtual 166, 3) := by decide +kernel
theorem dX7_isSo_43 : decode cX7_isSo 43 = .ok (.aload_n 0, 1) := by decide +kernel
theorem dX7_isSo_44 : decode cX7_isSo 44 = .ok (.getfield 29, 3) := by decide +kernel
theorem dX7_isSo_47 : decode cX7_isSo 47 = .ok (.iload_n 3, 1) := by decide +kernel
theorem dX7_isSo_48 : decode cX7_isSo 48 = .ok (.iaload, 1) := by decide +kernel
theorem dX7_isSo_49 : decode cX7_isSo 49 = .ok (.if_icmp .ne 7, 3) := by decide +kernel
theorem dX7_isSo_52 : decode cX7_isSo 52 = .ok (.iconst 1, 1) := by decide +kernel
theorem dX7_isSo_53 : decode cX7_isSo 53 = .ok (.goto 4, 3) := by decide +kernel
theorem dX7_isSo_56 : decode cX7_isSo 56 = .ok (.iconst 0, 1) := by decide +kernel
theorem dX7_isSo_57 : decode cX7_isSo 57 = .ok (.istore_n 2, 1) := by decide +kernel
theorem dX7_isSo_58 : decode cX7_isSo 58 = .ok (.iinc 3 1, 3) := by decide +kernel
theorem dX7_isSo_61 : decode cX7_isSo 61 = .ok (.goto (-41), 3) := by decide +kernel
theorem dX7_isSo_64 : decode cX7_isSo 64 = .ok (.iload_n 2, 1) := by decide +kernel
theorem dX7_isSo_65 : decode cX7_isSo 65 = .ok (.ireturn, 1) := by decide +kernel
set_option maxRecDepth 20000 in
theorem ggX7_many_X7_isSo : GoodIn wsX7_many wsX7_isSo := goodIn_r _ [6, 7, 8, 9, 10, 11, 12, 5, 13, 14, 15, 16, 17, 1, 18, 19, 20, 21, 22, 23, 24, 25, 26, 27, 28, 29, 30, 31, 32, 33, 34, 35, 36, 37, 38, 39, 40, 41, 42, 43, 44, 45, 46, 47, 48, 49, 50, 51, 52, 53, 54, 55, 56, 57, 58, 59, 60, 61, 62, 63, 64, 65, 66, 67, 68, 69, 70, 71, 72, 73] (by decide +kernel) (by decide +kernel)
set_option maxRecDepth 20000 in
theorem gX7_many_X7_isSo : GoodIn wsX7_many (wsV RX7 169 RX7 yX7_isSo wsX7_isSo) := goodIn_app (goodIn_of _ (by decide +kernel)) ggX7_many_X7_isSo
theorem dX7_many_0 : decode cX7_many 0 = .ok (.iconst 0, 1) := by decide +kernel
theorem dX7_many_1 : decode cX7_many 1 = .ok (.istore_n 1, 1) := by decide +kernel
theorem dX7_many_2 : decode cX7_many 2 = .ok (.iconst (-1), 1) := by decide +kernel
theorem dX7_many_3 : decode cX7_many 3 = .ok (.istore_n 2, 1) := by decide +kernel
theorem dX7_many_4 : decode cX7_many 4 = .ok (.iload_n 2, 1) := by decide +kernel
theorem dX7_many_5 : decode cX7_many 5 = .ok (.aload_n 0, 1) := by decide +kernel
theorem dX7_many_6 : decode cX7_many 6 = .ok (.getfield 7, 3) := by decide +kernel
theorem dX7_many_9 : decode cX7_many 9 = .ok (.iconst 0, 1) := by decide +kernel
theorem dX7_many_10 : decode cX7_many 10 = .ok (.iaload, 1) := by decide +kernel
theorem dX7_many_11 : decode cX7_many 11 = .ok (.if_icmp .ge 25, 3) := by decide +kernel
theorem dX7_many_14 : decode cX7_many 14 = .ok (.iload_n 1, 1) := by decide +kernel
theorem dX7_many_15 : decode cX7_many 15 = .ok (.aload_n 0, 1) := by decide +kernel
theorem dX7_many_16 : decode cX7_many 16 = .ok (.iload_n 2, 1) := by decide +kernel
theorem dX7_many_17 : decode cX7_many 17 = .ok (.invokevirtual 169, 3) := by decide +kernel
theorem dX7_many_20 : decode cX7_many 20 = .ok (.ifCond .eq 7, 3) := by decide +kernel
theorem dX7_many_23 : decode cX7_many 23 = .ok (.iconst 1, 1) := by decide +kernel
theorem dX7_many_24 : decode cX7_many 24 = .ok (.goto 4, 3) := by decide +kernel
theorem dX7_many_27 : decode cX7_many 27 = .ok (.iconst 0, 1) := by decide +kernel
theorem dX7_many_28 : decode cX7_many 28 = .ok (.iadd, 1) := by decide +kernel
theorem dX7_many_29 : decode cX7_many 29 = .ok (.istore_n 1, 1) := by decide +kernel
theorem dX7_many_30 : decode cX7_many 30 = .ok (.iinc 2 1, 3) := by decide +kernel
theorem dX7_many_33 : decode cX7_many 33 = .ok (.goto (-29), 3) := by decide +kernel
theorem dX7_many_36 : decode cX7_many 36 = .ok (.iload_n 1, 1) := by decide +kernel
theorem dX7_many_37 : decode cX7_many 37 = .ok (.ireturn, 1) := by decide +kernel
set_option maxRecDepth 20000 in
theorem ggX7_which_X7_in : GoodIn wsX7_which wsX7_in := goodIn_r _ [7] (by decide +kernel) (by decide +kernel)
set_option maxRecDepth 20000 in
theorem gX7_which_X7_in : GoodIn wsX7_which (va_wsS RX7 47 yX7_in wsX7_in) := goodIn_app (goodIn_of _ (by decide +kernel)) ggX7_which_X7_in
set_option maxRecDepth 20000 in
theorem ggX7_which_X7_isSo : GoodIn wsX7_which wsX7_isSo := goodIn_r _ [11, 12, 13, 14, 15, 16, 17, 6, 18, 19, 20, 21, 22, 3, 23, 24, 25, 26, 27, 28, 29, 30, 31, 32, 33, 34, 35, 36, 37, 38, 39, 40, 41, 42, 43, 44, 45, 46, 47, 48, 49, 50, 51, 52, 53, 54, 55, 60, 61, 62, 63, 64, 65, 66, 67, 68, 69, 70, 71, 72, 73, 74, 75, 76, 77, 78, 79, 80, 81, 82] (by decide +kernel) (by decide +kernel)
set_option maxRecDepth 20000 in
theorem gX7_which_X7_isSo : GoodIn wsX7_which (wsV RX7 169 RX7 yX7_isSo wsX7_isSo) := goodIn_app (goodIn_of _ (by decide +kernel)) ggX7_which_X7_isSo
set_option maxRecDepth 20000 in
theorem ggX7_which_X7_many : GoodIn wsX7_which wsX7_many := goodIn_r _ [59, 3, 8, 9, 10, 6, 11, 12, 13, 14, 15, 16, 17, 18, 19, 20, 21, 22, 23, 24, 25, 26, 27, 28, 29, 30, 31, 32, 33, 34, 35, 36, 37, 38, 39, 40, 41, 42, 43, 44, 45, 46, 47, 48, 49, 50, 51, 52, 53, 54, 55, 60, 61, 62, 63, 64, 65, 66, 67, 68, 69, 70, 71, 72, 73, 74, 75, 76, 77, 78, 79, 80, 81, 82] (by decide +kernel) (by decide +kernel)
set_option maxRecDepth 20000 in
theorem gX7_which_X7_many : GoodIn wsX7_which (wsV RX7 174 RX7 yX7_many wsX7_many) := goodIn_app (goodIn_of _ (by decide +kernel)) ggX7_which_X7_many
theorem dX7_which_0 : decode cX7_which 0 = .ok (.iload_n 1, 1) := by decide +kernel
theorem dX7_which_1 : decode cX7_which 1 = .ok (.iconst 0, 1) := by decide +kernel
theorem dX7_which_2 : decode cX7_which 2 = .ok (.iconst 1, 1) := by decide +kernel
theorem dX7_which_3 : decode cX7_which 3 = .ok (.invokestatic 47, 3) := by decide +kernel
theorem dX7_which_6 : decode cX7_which 6 = .ok (.ifCond .ne 6, 3) := by decide +kernel
theorem dX7_which_9 : decode cX7_which 9 = .ok (.ldc 172, 2) := by decide +kernel
theorem dX7_which_11 : decode cX7_which 11 = .ok (.ireturn, 1) := by decide +kernel
theorem dX7_which_12 : decode cX7_which 12 = .ok (.ldc 173, 2) := by decide +kernel
theorem dX7_which_14 : decode cX7_which 14 = .ok (.istore_n 2, 1) := by decide +kernel
theorem dX7_which_15 : decode cX7_which 15 = .ok (.aload_n 0, 1) := by decide +kernel
theorem dX7_which_16 : decode cX7_which 16 = .ok (.getfield 7, 3) := by decide +kernel
theorem dX7_which_19 : decode cX7_which 19 = .ok (.iconst 0, 1) := by decide +kernel
theorem dX7_which_20 : decode cX7_which 20 = .ok (.iaload, 1) := by decide +kernel
theorem dX7_which_21 : decode cX7_which 21 = .ok (.iconst 1, 1) := by decide +kernel
theorem dX7_which_22 : decode cX7_which 22 = .ok (.isub, 1) := by decide +kernel
theorem dX7_which_23 : decode cX7_which 23 = .ok (.istore_n 3, 1) := by decide +kernel
theorem dX7_which_24 : decode cX7_which 24 = .ok (.iload_n 3, 1) := by decide +kernel
theorem dX7_which_25 : decode cX7_which 25 = .ok (.iconst (-1), 1) := by decide +kernel
theorem dX7_which_26 : decode cX7_which 26 = .ok (.if_icmp .lt 23, 3) := by decide +kernel
theorem dX7_which_29 : decode cX7_which 29 = .ok (.aload_n 0, 1) := by decide +kernel
theorem dX7_which_30 : decode cX7_which 30 = .ok (.iload_n 3, 1) := by decide +kernel
theorem dX7_which_31 : decode cX7_which 31 = .ok (.invokevirtual 169, 3) := by decide +kernel
theorem dX7_which_34 : decode cX7_which 34 = .ok (.ifCond .eq 7, 3) := by decide +kernel
theorem dX7_which_37 : decode cX7_which 37 = .ok (.iload_n 3, 1) := by decide +kernel
theorem dX7_which_38 : decode cX7_which 38 = .ok (.goto 4, 3) := by decide +kernel
theorem dX7_which_41 : decode cX7_which 41 = .ok (.iload_n 2, 1) := by decide +kernel
theorem dX7_which_42 : decode cX7_which 42 = .ok (.istore_n 2, 1) := by decide +kernel
theorem dX7_which_43 : decode cX7_which 43 = .ok (.iinc 3 (-1), 3) := by decide +kernel
theorem dX7_which_46 : decode cX7_which 46 = .ok (.goto (-22), 3) := by decide +kernel
theorem dX7_which_49 : decode cX7_which 49 = .ok (.iload_n 1, 1) := by decide +kernel
theorem dX7_which_50 : decode cX7_which 50 = .ok (.ifCond .ne 10, 3) := by decide +kernel
theorem dX7_which_53 : decode cX7_which 53 = .ok (.aload_n 0, 1) := by decide +kernel
theorem dX7_which_54 : decode cX7_which 54 = .ok (.invokevirtual 174, 3) := by decide +kernel
theorem dX7_which_57 : decode cX7_which 57 = .ok (.goto 4, 3) := by decide +kernel
theorem dX7_which_60 : decode cX7_which 60 = .ok (.iload_n 2, 1) := by decide +kernel
theorem dX7_which_61 : decode cX7_which 61 = .ok (.ireturn, 1) := by decide +kernel
set_option maxRecDepth 20000 in
theorem ggX7_mostAlike_X7_bendWithout : GoodIn wsX7_mostAlike wsX7_bendWithout := goodIn_r _ [8, 9, 10, 11, 7, 12, 1, 13, 14, 15, 16, 17, 18, 19, 20, 21, 22, 23, 24, 25, 26, 27, 28, 29, 30, 31, 32, 33, 34, 35, 36, 37, 38, 39, 40, 41, 42, 43, 44, 45, 46, 47, 48, 49, 50, 51, 52, 53, 54, 55, 56, 57, 58, 59, 60, 61, 62, 63, 64, 65, 66, 67, 68] (by decide +kernel) (by decide +kernel)
set_option maxRecDepth 20000 in
theorem gX7_mostAlike_X7_bendWithout : GoodIn wsX7_mostAlike (wsV RX7 166 RX7 yX7_bendWithout wsX7_bendWithout) := goodIn_app (goodIn_of _ (by decide +kernel)) ggX7_mostAlike_X7_bendWithout
theorem dX7_mostAlike_0 : decode cX7_mostAlike 0 = .ok (.iconst 0, 1) := by decide +kernel
theorem dX7_mostAlike_1 : decode cX7_mostAlike 1 = .ok (.istore_n 2, 1) := by decide +kernel
theorem dX7_mostAlike_2 : decode cX7_mostAlike 2 = .ok (.iload_n 2, 1) := by decide +kernel
theorem dX7_mostAlike_3 : decode cX7_mostAlike 3 = .ok (.aload_n 0, 1) := by decide +kernel
theorem dX7_mostAlike_4 : decode cX7_mostAlike 4 = .ok (.getfield 7, 3) := by decide +kernel
theorem dX7_mostAlike_7 : decode cX7_mostAlike 7 = .ok (.iconst 0, 1) := by decide +kernel
theorem dX7_mostAlike_8 : decode cX7_mostAlike 8 = .ok (.iaload, 1) := by decide +kernel
theorem dX7_mostAlike_9 : decode cX7_mostAlike 9 = .ok (.if_icmp .gt 36, 3) := by decide +kernel
theorem dX7_mostAlike_12 : decode cX7_mostAlike 12 = .ok (.aload_n 0, 1) := by decide +kernel
theorem dX7_mostAlike_13 : decode cX7_mostAlike 13 = .ok (.getfield 44, 3) := by decide +kernel
theorem dX7_mostAlike_16 : decode cX7_mostAlike 16 = .ok (.iload_n 2, 1) := by decide +kernel
theorem dX7_mostAlike_17 : decode cX7_mostAlike 17 = .ok (.aload_n 0, 1) := by decide +kernel
theorem dX7_mostAlike_18 : decode cX7_mostAlike 18 = .ok (.getfield 41, 3) := by decide +kernel
theorem dX7_mostAlike_21 : decode cX7_mostAlike 21 = .ok (.iload_n 2, 1) := by decide +kernel
theorem dX7_mostAlike_22 : decode cX7_mostAlike 22 = .ok (.baload, 1) := by decide +kernel
theorem dX7_mostAlike_23 : decode cX7_mostAlike 23 = .ok (.ifCond .eq 14, 3) := by decide +kernel
theorem dX7_mostAlike_26 : decode cX7_mostAlike 26 = .ok (.aload_n 0, 1) := by decide +kernel
theorem dX7_mostAlike_27 : decode cX7_mostAlike 27 = .ok (.iload_n 2, 1) := by decide +kernel
theorem dX7_mostAlike_28 : decode cX7_mostAlike 28 = .ok (.iconst 1, 1) := by decide +kernel
theorem dX7_mostAlike_29 : decode cX7_mostAlike 29 = .ok (.isub, 1) := by decide +kernel
theorem dX7_mostAlike_30 : decode cX7_mostAlike 30 = .ok (.iload_n 1, 1) := by decide +kernel
theorem dX7_mostAlike_31 : decode cX7_mostAlike 31 = .ok (.invokevirtual 166, 3) := by decide +kernel
theorem dX7_mostAlike_34 : decode cX7_mostAlike 34 = .ok (.goto 4, 3) := by decide +kernel
theorem dX7_mostAlike_37 : decode cX7_mostAlike 37 = .ok (.iconst (-1), 1) := by decide +kernel
theorem dX7_mostAlike_38 : decode cX7_mostAlike 38 = .ok (.iastore, 1) := by decide +kernel
theorem dX7_mostAlike_39 : decode cX7_mostAlike 39 = .ok (.iinc 2 1, 3) := by decide +kernel
theorem dX7_mostAlike_42 : decode cX7_mostAlike 42 = .ok (.goto (-40), 3) := by decide +kernel
theorem dX7_mostAlike_45 : decode cX7_mostAlike 45 = .ok (.iconst 0, 1) := by decide +kernel
theorem dX7_mostAlike_46 : decode cX7_mostAlike 46 = .ok (.istore_n 2, 1) := by decide +kernel
theorem dX7_mostAlike_47 : decode cX7_mostAlike 47 = .ok (.iconst 0, 1) := by decide +kernel
theorem dX7_mostAlike_48 : decode cX7_mostAlike 48 = .ok (.istore_n 3, 1) := by decide +kernel
theorem dX7_mostAlike_49 : decode cX7_mostAlike 49 = .ok (.iload_n 3, 1) := by decide +kernel
theorem dX7_mostAlike_50 : decode cX7_mostAlike 50 = .ok (.aload_n 0, 1) := by decide +kernel
theorem dX7_mostAlike_51 : decode cX7_mostAlike 51 = .ok (.getfield 7, 3) := by decide +kernel
theorem dX7_mostAlike_54 : decode cX7_mostAlike 54 = .ok (.iconst 0, 1) := by decide +kernel
theorem dX7_mostAlike_55 : decode cX7_mostAlike 55 = .ok (.iaload, 1) := by decide +kernel
theorem dX7_mostAlike_56 : decode cX7_mostAlike 56 = .ok (.if_icmp .gt 90, 3) := by decide +kernel
theorem dX7_mostAlike_59 : decode cX7_mostAlike 59 = .ok (.iconst 0, 1) := by decide +kernel
theorem dX7_mostAlike_60 : decode cX7_mostAlike 60 = .ok (.istore 4, 2) := by decide +kernel
theorem dX7_mostAlike_62 : decode cX7_mostAlike 62 = .ok (.iconst 0, 1) := by decide +kernel
theorem dX7_mostAlike_63 : decode cX7_mostAlike 63 = .ok (.istore 5, 2) := by decide +kernel
theorem dX7_mostAlike_65 : decode cX7_mostAlike 65 = .ok (.iload 5, 2) := by decide +kernel
theorem dX7_mostAlike_67 : decode cX7_mostAlike 67 = .ok (.aload_n 0, 1) := by decide +kernel
theorem dX7_mostAlike_68 : decode cX7_mostAlike 68 = .ok (.getfield 7, 3) := by decide +kernel
theorem dX7_mostAlike_71 : decode cX7_mostAlike 71 = .ok (.iconst 0, 1) := by decide +kernel
theorem dX7_mostAlike_72 : decode cX7_mostAlike 72 = .ok (.iaload, 1) := by decide +kernel
theorem dX7_mostAlike_73 : decode cX7_mostAlike 73 = .ok (.if_icmp .gt 54, 3) := by decide +kernel
theorem dX7_mostAlike_76 : decode cX7_mostAlike 76 = .ok (.iload 4, 2) := by decide +kernel
theorem dX7_mostAlike_78 : decode cX7_mostAlike 78 = .ok (.aload_n 0, 1) := by decide +kernel
theorem dX7_mostAlike_79 : decode cX7_mostAlike 79 = .ok (.getfield 41, 3) := by decide +kernel
theorem dX7_mostAlike_82 : decode cX7_mostAlike 82 = .ok (.iload 5, 2) := by decide +kernel
theorem dX7_mostAlike_84 : decode cX7_mostAlike 84 = .ok (.baload, 1) := by decide +kernel
theorem dX7_mostAlike_85 : decode cX7_mostAlike 85 = .ok (.ifCond .eq 32, 3) := by decide +kernel
theorem dX7_mostAlike_88 : decode cX7_mostAlike 88 = .ok (.aload_n 0, 1) := by decide +kernel
theorem dX7_mostAlike_89 : decode cX7_mostAlike 89 = .ok (.getfield 41, 3) := by decide +kernel
theorem dX7_mostAlike_92 : decode cX7_mostAlike 92 = .ok (.iload_n 3, 1) := by decide +kernel
theorem dX7_mostAlike_93 : decode cX7_mostAlike 93 = .ok (.baload, 1) := by decide +kernel
theorem dX7_mostAlike_94 : decode cX7_mostAlike 94 = .ok (.ifCond .eq 23, 3) := by decide +kernel
theorem dX7_mostAlike_97 : decode cX7_mostAlike 97 = .ok (.aload_n 0, 1) := by decide +kernel
theorem dX7_mostAlike_98 : decode cX7_mostAlike 98 = .ok (.getfield 44, 3) := by decide +kernel
theorem dX7_mostAlike_101 : decode cX7_mostAlike 101 = .ok (.iload 5, 2) := by decide +kernel
theorem dX7_mostAlike_103 : decode cX7_mostAlike 103 = .ok (.iaload, 1) := by decide +kernel
theorem dX7_mostAlike_104 : decode cX7_mostAlike 104 = .ok (.aload_n 0, 1) := by decide +kernel
theorem dX7_mostAlike_105 : decode cX7_mostAlike 105 = .ok (.getfield 44, 3) := by decide +kernel
theorem dX7_mostAlike_108 : decode cX7_mostAlike 108 = .ok (.iload_n 3, 1) := by decide +kernel
theorem dX7_mostAlike_109 : decode cX7_mostAlike 109 = .ok (.iaload, 1) := by decide +kernel
theorem dX7_mostAlike_110 : decode cX7_mostAlike 110 = .ok (.if_icmp .ne 7, 3) := by decide +kernel
theorem dX7_mostAlike_113 : decode cX7_mostAlike 113 = .ok (.iconst 1, 1) := by decide +kernel
theorem dX7_mostAlike_114 : decode cX7_mostAlike 114 = .ok (.goto 4, 3) := by decide +kernel
theorem dX7_mostAlike_117 : decode cX7_mostAlike 117 = .ok (.iconst 0, 1) := by decide +kernel
theorem dX7_mostAlike_118 : decode cX7_mostAlike 118 = .ok (.iadd, 1) := by decide +kernel
theorem dX7_mostAlike_119 : decode cX7_mostAlike 119 = .ok (.istore 4, 2) := by decide +kernel
theorem dX7_mostAlike_121 : decode cX7_mostAlike 121 = .ok (.iinc 5 1, 3) := by decide +kernel
theorem dX7_mostAlike_124 : decode cX7_mostAlike 124 = .ok (.goto (-59), 3) := by decide +kernel
theorem dX7_mostAlike_127 : decode cX7_mostAlike 127 = .ok (.iload 4, 2) := by decide +kernel
theorem dX7_mostAlike_129 : decode cX7_mostAlike 129 = .ok (.iload_n 2, 1) := by decide +kernel
theorem dX7_mostAlike_130 : decode cX7_mostAlike 130 = .ok (.if_icmp .le 8, 3) := by decide +kernel
theorem dX7_mostAlike_133 : decode cX7_mostAlike 133 = .ok (.iload 4, 2) := by decide +kernel
theorem dX7_mostAlike_135 : decode cX7_mostAlike 135 = .ok (.goto 4, 3) := by decide +kernel
theorem dX7_mostAlike_138 : decode cX7_mostAlike 138 = .ok (.iload_n 2, 1) := by decide +kernel
theorem dX7_mostAlike_139 : decode cX7_mostAlike 139 = .ok (.istore_n 2, 1) := by decide +kernel
theorem dX7_mostAlike_140 : decode cX7_mostAlike 140 = .ok (.iinc 3 1, 3) := by decide +kernel
theorem dX7_mostAlike_143 : decode cX7_mostAlike 143 = .ok (.goto (-94), 3) := by decide +kernel
theorem dX7_mostAlike_146 : decode cX7_mostAlike 146 = .ok (.iload_n 2, 1) := by decide +kernel
theorem dX7_mostAlike_147 : decode cX7_mostAlike 147 = .ok (.ireturn, 1) := by decide +kernel
set_option maxRecDepth 20000 in
theorem ggX7_ask_X7_many : GoodIn wsX7_ask wsX7_many := goodIn_r _ [7, 1, 8, 9, 10, 6, 11, 12, 13, 14, 15, 16, 17, 18, 19, 20, 21, 22, 23, 24, 25, 26, 27, 28, 29, 30, 31, 32, 33, 34, 35, 36, 37, 38, 39, 40, 41, 42, 43, 44, 45, 46, 47, 48, 49, 50, 51, 52, 53, 54, 55, 61, 62, 63, 64, 65, 66, 67, 68, 69, 70, 71, 72, 73, 74, 75, 76, 77, 78, 79, 80, 81, 82, 83] (by decide +kernel) (by decide +kernel)
set_option maxRecDepth 20000 in
theorem gX7_ask_X7_many : GoodIn wsX7_ask (wsV RX7 174 RX7 yX7_many wsX7_many) := goodIn_app (goodIn_of _ (by decide +kernel)) ggX7_ask_X7_many
set_option maxRecDepth 20000 in
theorem ggX7_ask_X7_isSo : GoodIn wsX7_ask wsX7_isSo := goodIn_r _ [11, 12, 13, 14, 15, 16, 17, 6, 18, 19, 20, 21, 22, 1, 23, 24, 25, 26, 27, 28, 29, 30, 31, 32, 33, 34, 35, 36, 37, 38, 39, 40, 41, 42, 43, 44, 45, 46, 47, 48, 49, 50, 51, 52, 53, 54, 55, 61, 62, 63, 64, 65, 66, 67, 68, 69, 70, 71, 72, 73, 74, 75, 76, 77, 78, 79, 80, 81, 82, 83] (by decide +kernel) (by decide +kernel)
set_option maxRecDepth 20000 in
theorem gX7_ask_X7_isSo : GoodIn wsX7_ask (wsV RX7 169 RX7 yX7_isSo wsX7_isSo) := goodIn_app (goodIn_of _ (by decide +kernel)) ggX7_ask_X7_isSo
set_option maxRecDepth 20000 in
theorem ggX7_ask_X7_mostAlike : GoodIn wsX7_ask wsX7_mostAlike := goodIn_r _ [59, 1, 60, 2, 23, 24, 25, 6, 26, 27, 28, 29, 30, 31, 32, 33, 34, 15, 16, 17, 18, 19, 20, 21, 22, 35, 36, 37, 38, 39, 40, 41, 42, 43, 44, 45, 46, 47, 48, 49, 50, 51, 52, 53, 54, 55, 61, 62, 63, 64, 65, 66, 67, 68, 69, 70, 71, 72, 73, 74, 75, 76, 77, 78, 79, 80, 81, 82, 83] (by decide +kernel) (by decide +kernel)
set_option maxRecDepth 20000 in
theorem gX7_ask_X7_mostAlike : GoodIn wsX7_ask (wsV RX7 177 RX7 yX7_mostAlike wsX7_mostAlike) := goodIn_app (goodIn_of _ (by decide +kernel)) ggX7_ask_X7_mostAlike
theorem dX7_ask_0 : decode cX7_ask 0 = .ok (.aload_n 0, 1) := by decide +kernel
theorem dX7_ask_1 : decode cX7_ask 1 = .ok (.invokevirtual 174, 3) := by decide +kernel
theorem dX7_ask_4 : decode cX7_ask 4 = .ok (.iconst 2, 1) := by decide +kernel
theorem dX7_ask_5 : decode cX7_ask 5 = .ok (.if_icmp .ge 6, 3) := by decide +kernel
theorem dX7_ask_8 : decode cX7_ask 8 = .ok (.bipush (-9), 2) := by decide +kernel
theorem dX7_ask_10 : decode cX7_ask 10 = .ok (.ireturn, 1) := by decide +kernel
theorem dX7_ask_11 : decode cX7_ask 11 = .ok (.iconst 0, 1) := by decide +kernel
theorem dX7_ask_12 : decode cX7_ask 12 = .ok (.istore_n 1, 1) := by decide +kernel
theorem dX7_ask_13 : decode cX7_ask 13 = .ok (.iload_n 1, 1) := by decide +kernel
theorem dX7_ask_14 : decode cX7_ask 14 = .ok (.aload_n 0, 1) := by decide +kernel
theorem dX7_ask_15 : decode cX7_ask 15 = .ok (.getfield 7, 3) := by decide +kernel
theorem dX7_ask_18 : decode cX7_ask 18 = .ok (.iconst 0, 1) := by decide +kernel
theorem dX7_ask_19 : decode cX7_ask 19 = .ok (.iaload, 1) := by decide +kernel
theorem dX7_ask_20 : decode cX7_ask 20 = .ok (.if_icmp .gt 22, 3) := by decide +kernel
theorem dX7_ask_23 : decode cX7_ask 23 = .ok (.aload_n 0, 1) := by decide +kernel
theorem dX7_ask_24 : decode cX7_ask 24 = .ok (.getfield 41, 3) := by decide +kernel
theorem dX7_ask_27 : decode cX7_ask 27 = .ok (.iload_n 1, 1) := by decide +kernel
theorem dX7_ask_28 : decode cX7_ask 28 = .ok (.aload_n 0, 1) := by decide +kernel
theorem dX7_ask_29 : decode cX7_ask 29 = .ok (.iload_n 1, 1) := by decide +kernel
theorem dX7_ask_30 : decode cX7_ask 30 = .ok (.iconst 1, 1) := by decide +kernel
theorem dX7_ask_31 : decode cX7_ask 31 = .ok (.isub, 1) := by decide +kernel
theorem dX7_ask_32 : decode cX7_ask 32 = .ok (.invokevirtual 169, 3) := by decide +kernel
theorem dX7_ask_35 : decode cX7_ask 35 = .ok (.bastore, 1) := by decide +kernel
theorem dX7_ask_36 : decode cX7_ask 36 = .ok (.iinc 1 1, 3) := by decide +kernel
theorem dX7_ask_39 : decode cX7_ask 39 = .ok (.goto (-26), 3) := by decide +kernel
theorem dX7_ask_42 : decode cX7_ask 42 = .ok (.bipush (-9), 2) := by decide +kernel
theorem dX7_ask_44 : decode cX7_ask 44 = .ok (.istore_n 1, 1) := by decide +kernel
theorem dX7_ask_45 : decode cX7_ask 45 = .ok (.bipush 10, 2) := by decide +kernel
theorem dX7_ask_47 : decode cX7_ask 47 = .ok (.istore_n 2, 1) := by decide +kernel
theorem dX7_ask_48 : decode cX7_ask 48 = .ok (.bipush 10, 2) := by decide +kernel
theorem dX7_ask_50 : decode cX7_ask 50 = .ok (.istore_n 3, 1) := by decide +kernel
theorem dX7_ask_51 : decode cX7_ask 51 = .ok (.iload_n 3, 1) := by decide +kernel
theorem dX7_ask_52 : decode cX7_ask 52 = .ok (.sipush 300, 3) := by decide +kernel
theorem dX7_ask_55 : decode cX7_ask 55 = .ok (.if_icmp .gt 41, 3) := by decide +kernel
theorem dX7_ask_58 : decode cX7_ask 58 = .ok (.aload_n 0, 1) := by decide +kernel
theorem dX7_ask_59 : decode cX7_ask 59 = .ok (.iload_n 3, 1) := by decide +kernel
theorem dX7_ask_60 : decode cX7_ask 60 = .ok (.invokevirtual 177, 3) := by decide +kernel
theorem dX7_ask_63 : decode cX7_ask 63 = .ok (.istore 4, 2) := by decide +kernel
theorem dX7_ask_65 : decode cX7_ask 65 = .ok (.iload 4, 2) := by decide +kernel
theorem dX7_ask_67 : decode cX7_ask 67 = .ok (.iload_n 2, 1) := by decide +kernel
theorem dX7_ask_68 : decode cX7_ask 68 = .ok (.if_icmp .ge 7, 3) := by decide +kernel
theorem dX7_ask_71 : decode cX7_ask 71 = .ok (.iload_n 3, 1) := by decide +kernel
theorem dX7_ask_72 : decode cX7_ask 72 = .ok (.goto 4, 3) := by decide +kernel
theorem dX7_ask_75 : decode cX7_ask 75 = .ok (.iload_n 1, 1) := by decide +kernel
theorem dX7_ask_76 : decode cX7_ask 76 = .ok (.istore_n 1, 1) := by decide +kernel
theorem dX7_ask_77 : decode cX7_ask 77 = .ok (.iload 4, 2) := by decide +kernel
theorem dX7_ask_79 : decode cX7_ask 79 = .ok (.iload_n 2, 1) := by decide +kernel
theorem dX7_ask_80 : decode cX7_ask 80 = .ok (.if_icmp .ge 8, 3) := by decide +kernel
theorem dX7_ask_83 : decode cX7_ask 83 = .ok (.iload 4, 2) := by decide +kernel
theorem dX7_ask_85 : decode cX7_ask 85 = .ok (.goto 4, 3) := by decide +kernel
theorem dX7_ask_88 : decode cX7_ask 88 = .ok (.iload_n 2, 1) := by decide +kernel
theorem dX7_ask_89 : decode cX7_ask 89 = .ok (.istore_n 2, 1) := by decide +kernel
theorem dX7_ask_90 : decode cX7_ask 90 = .ok (.iinc 3 10, 3) := by decide +kernel
theorem dX7_ask_93 : decode cX7_ask 93 = .ok (.goto (-42), 3) := by decide +kernel
theorem dX7_ask_96 : decode cX7_ask 96 = .ok (.iload_n 1, 1) := by decide +kernel
theorem dX7_ask_97 : decode cX7_ask 97 = .ok (.ireturn, 1) := by decide +kernel
set_option maxRecDepth 20000 in
theorem ggX7_keep_X7_in : GoodIn wsX7_keep wsX7_in := goodIn_r _ [7] (by decide +kernel) (by decide +kernel)
set_option maxRecDepth 20000 in
theorem gX7_keep_X7_in : GoodIn wsX7_keep (va_wsS RX7 47 yX7_in wsX7_in) := goodIn_app (goodIn_of _ (by decide +kernel)) ggX7_keep_X7_in
theorem dX7_keep_0 : decode cX7_keep 0 = .ok (.iload_n 1, 1) := by decide +kernel
theorem dX7_keep_1 : decode cX7_keep 1 = .ok (.iconst 0, 1) := by decide +kernel
theorem dX7_keep_2 : decode cX7_keep 2 = .ok (.iconst 1, 1) := by decide +kernel
theorem dX7_keep_3 : decode cX7_keep 3 = .ok (.invokestatic 47, 3) := by decide +kernel
theorem dX7_keep_6 : decode cX7_keep 6 = .ok (.ifCond .ne 5, 3) := by decide +kernel
theorem dX7_keep_9 : decode cX7_keep 9 = .ok (.iconst (-1), 1) := by decide +kernel
theorem dX7_keep_10 : decode cX7_keep 10 = .ok (.ireturn, 1) := by decide +kernel
theorem dX7_keep_11 : decode cX7_keep 11 = .ok (.iconst 0, 1) := by decide +kernel
theorem dX7_keep_12 : decode cX7_keep 12 = .ok (.istore_n 2, 1) := by decide +kernel
theorem dX7_keep_13 : decode cX7_keep 13 = .ok (.iload_n 2, 1) := by decide +kernel
theorem dX7_keep_14 : decode cX7_keep 14 = .ok (.bipush 41, 2) := by decide +kernel
theorem dX7_keep_16 : decode cX7_keep 16 = .ok (.if_icmp .ge 26, 3) := by decide +kernel
theorem dX7_keep_19 : decode cX7_keep 19 = .ok (.aload_n 0, 1) := by decide +kernel
theorem dX7_keep_20 : decode cX7_keep 20 = .ok (.getfield 19, 3) := by decide +kernel
theorem dX7_keep_23 : decode cX7_keep 23 = .ok (.bipush 41, 2) := by decide +kernel
theorem dX7_keep_25 : decode cX7_keep 25 = .ok (.iload_n 1, 1) := by decide +kernel
theorem dX7_keep_26 : decode cX7_keep 26 = .ok (.imul, 1) := by decide +kernel
theorem dX7_keep_27 : decode cX7_keep 27 = .ok (.iload_n 2, 1) := by decide +kernel
theorem dX7_keep_28 : decode cX7_keep 28 = .ok (.iadd, 1) := by decide +kernel
theorem dX7_keep_29 : decode cX7_keep 29 = .ok (.aload_n 0, 1) := by decide +kernel
theorem dX7_keep_30 : decode cX7_keep 30 = .ok (.getfield 7, 3) := by decide +kernel
theorem dX7_keep_33 : decode cX7_keep 33 = .ok (.iload_n 2, 1) := by decide +kernel
theorem dX7_keep_34 : decode cX7_keep 34 = .ok (.iaload, 1) := by decide +kernel
theorem dX7_keep_35 : decode cX7_keep 35 = .ok (.iastore, 1) := by decide +kernel
theorem dX7_keep_36 : decode cX7_keep 36 = .ok (.iinc 2 1, 3) := by decide +kernel
theorem dX7_keep_39 : decode cX7_keep 39 = .ok (.goto (-26), 3) := by decide +kernel
theorem dX7_keep_42 : decode cX7_keep 42 = .ok (.aload_n 0, 1) := by decide +kernel
theorem dX7_keep_43 : decode cX7_keep 43 = .ok (.getfield 22, 3) := by decide +kernel
theorem dX7_keep_46 : decode cX7_keep 46 = .ok (.iload_n 1, 1) := by decide +kernel
theorem dX7_keep_47 : decode cX7_keep 47 = .ok (.iconst 1, 1) := by decide +kernel
theorem dX7_keep_48 : decode cX7_keep 48 = .ok (.bastore, 1) := by decide +kernel
theorem dX7_keep_49 : decode cX7_keep 49 = .ok (.aload_n 0, 1) := by decide +kernel
theorem dX7_keep_50 : decode cX7_keep 50 = .ok (.getfield 7, 3) := by decide +kernel
theorem dX7_keep_53 : decode cX7_keep 53 = .ok (.iconst 0, 1) := by decide +kernel
theorem dX7_keep_54 : decode cX7_keep 54 = .ok (.iaload, 1) := by decide +kernel
theorem dX7_keep_55 : decode cX7_keep 55 = .ok (.ireturn, 1) := by decide +kernel
set_option maxRecDepth 20000 in
theorem ggX7_back_X7_in : GoodIn wsX7_back wsX7_in := goodIn_r _ [8] (by decide +kernel) (by decide +kernel)
set_option maxRecDepth 20000 in
theorem gX7_back_X7_in : GoodIn wsX7_back (va_wsS RX7 47 yX7_in wsX7_in) := goodIn_app (goodIn_of _ (by decide +kernel)) ggX7_back_X7_in
theorem dX7_back_0 : decode cX7_back 0 = .ok (.iload_n 1, 1) := by decide +kernel
theorem dX7_back_1 : decode cX7_back 1 = .ok (.iconst 0, 1) := by decide +kernel
theorem dX7_back_2 : decode cX7_back 2 = .ok (.iconst 1, 1) := by decide +kernel
theorem dX7_back_3 : decode cX7_back 3 = .ok (.invokestatic 47, 3) := by decide +kernel
theorem dX7_back_6 : decode cX7_back 6 = .ok (.ifCond .ne 5, 3) := by decide +kernel
theorem dX7_back_9 : decode cX7_back 9 = .ok (.iconst (-1), 1) := by decide +kernel
theorem dX7_back_10 : decode cX7_back 10 = .ok (.ireturn, 1) := by decide +kernel
theorem dX7_back_11 : decode cX7_back 11 = .ok (.aload_n 0, 1) := by decide +kernel
theorem dX7_back_12 : decode cX7_back 12 = .ok (.getfield 22, 3) := by decide +kernel
theorem dX7_back_15 : decode cX7_back 15 = .ok (.iload_n 1, 1) := by decide +kernel
theorem dX7_back_16 : decode cX7_back 16 = .ok (.baload, 1) := by decide +kernel
theorem dX7_back_17 : decode cX7_back 17 = .ok (.ifCond .ne 6, 3) := by decide +kernel
theorem dX7_back_20 : decode cX7_back 20 = .ok (.bipush (-2), 2) := by decide +kernel
theorem dX7_back_22 : decode cX7_back 22 = .ok (.ireturn, 1) := by decide +kernel
theorem dX7_back_23 : decode cX7_back 23 = .ok (.iconst 0, 1) := by decide +kernel
theorem dX7_back_24 : decode cX7_back 24 = .ok (.istore_n 2, 1) := by decide +kernel
theorem dX7_back_25 : decode cX7_back 25 = .ok (.iload_n 2, 1) := by decide +kernel
theorem dX7_back_26 : decode cX7_back 26 = .ok (.bipush 41, 2) := by decide +kernel
theorem dX7_back_28 : decode cX7_back 28 = .ok (.if_icmp .ge 26, 3) := by decide +kernel
theorem dX7_back_31 : decode cX7_back 31 = .ok (.aload_n 0, 1) := by decide +kernel
theorem dX7_back_32 : decode cX7_back 32 = .ok (.getfield 7, 3) := by decide +kernel
theorem dX7_back_35 : decode cX7_back 35 = .ok (.iload_n 2, 1) := by decide +kernel
theorem dX7_back_36 : decode cX7_back 36 = .ok (.aload_n 0, 1) := by decide +kernel
theorem dX7_back_37 : decode cX7_back 37 = .ok (.getfield 19, 3) := by decide +kernel
theorem dX7_back_40 : decode cX7_back 40 = .ok (.bipush 41, 2) := by decide +kernel
theorem dX7_back_42 : decode cX7_back 42 = .ok (.iload_n 1, 1) := by decide +kernel
theorem dX7_back_43 : decode cX7_back 43 = .ok (.imul, 1) := by decide +kernel
theorem dX7_back_44 : decode cX7_back 44 = .ok (.iload_n 2, 1) := by decide +kernel
theorem dX7_back_45 : decode cX7_back 45 = .ok (.iadd, 1) := by decide +kernel
theorem dX7_back_46 : decode cX7_back 46 = .ok (.iaload, 1) := by decide +kernel
theorem dX7_back_47 : decode cX7_back 47 = .ok (.iastore, 1) := by decide +kernel
theorem dX7_back_48 : decode cX7_back 48 = .ok (.iinc 2 1, 3) := by decide +kernel
theorem dX7_back_51 : decode cX7_back 51 = .ok (.goto (-26), 3) := by decide +kernel
theorem dX7_back_54 : decode cX7_back 54 = .ok (.aload_n 0, 1) := by decide +kernel
theorem dX7_back_55 : decode cX7_back 55 = .ok (.iconst 0, 1) := by decide +kernel
theorem dX7_back_56 : decode cX7_back 56 = .ok (.putfield 105, 3) := by decide +kernel
theorem dX7_back_59 : decode cX7_back 59 = .ok (.aload_n 0, 1) := by decide +kernel
theorem dX7_back_60 : decode cX7_back 60 = .ok (.getfield 7, 3) := by decide +kernel
theorem dX7_back_63 : decode cX7_back 63 = .ok (.iconst 0, 1) := by decide +kernel
theorem dX7_back_64 : decode cX7_back 64 = .ok (.iaload, 1) := by decide +kernel
theorem dX7_back_65 : decode cX7_back 65 = .ok (.ireturn, 1) := by decide +kernel
set_option maxRecDepth 20000 in
theorem ggX7_count_X7_isWhole : GoodIn wsX7_count wsX7_isWhole := goodIn_r _ [10, 11, 12, 13, 9, 14, 1, 34, 35, 36, 37, 38, 39, 40, 41, 42, 43, 44, 45, 46, 47, 48, 49, 50, 51, 52, 53, 54, 55, 56] (by decide +kernel) (by decide +kernel)
set_option maxRecDepth 20000 in
theorem gX7_count_X7_isWhole : GoodIn wsX7_count (wsV RX7 55 RX7 yX7_isWhole wsX7_isWhole) := goodIn_app (goodIn_of _ (by decide +kernel)) ggX7_count_X7_isWhole
set_option maxRecDepth 20000 in
theorem ggX7_count_X7_of : GoodIn wsX7_count wsX7_of := goodIn_r _ [14, 1, 34, 35, 36, 37, 38, 39, 40, 41, 42, 43, 44, 45, 46, 47, 48, 49, 50, 51, 52, 53, 54, 55, 56] (by decide +kernel) (by decide +kernel)
set_option maxRecDepth 20000 in
theorem gX7_count_X7_of : GoodIn wsX7_count (wsV RX7 51 RX7 yX7_of wsX7_of) := goodIn_app (goodIn_of _ (by decide +kernel)) ggX7_count_X7_of
set_option maxRecDepth 20000 in
theorem ggX7_count_X7_whole : GoodIn wsX7_count wsX7_whole := goodIn_r _ [18, 1, 6, 7, 8, 9, 10, 11, 12, 13, 14, 34, 35, 36, 37, 38, 39, 40, 41, 42, 43, 44, 45, 46, 47, 48, 49, 50, 51, 52, 53, 54, 55, 56] (by decide +kernel) (by decide +kernel)
set_option maxRecDepth 20000 in
theorem gX7_count_X7_whole : GoodIn wsX7_count (wsV RX7 131 RX7 yX7_whole wsX7_whole) := goodIn_app (goodIn_of _ (by decide +kernel)) ggX7_count_X7_whole
set_option maxRecDepth 20000 in
theorem ggX7_count_X7_ones : GoodIn wsX7_count wsX7_ones := goodIn_r _ [21, 22, 23, 9, 24] (by decide +kernel) (by decide +kernel)
set_option maxRecDepth 20000 in
theorem gX7_count_X7_ones : GoodIn wsX7_count (va_wsS RX7 145 yX7_ones wsX7_ones) := goodIn_app (goodIn_of _ (by decide +kernel)) ggX7_count_X7_ones
set_option maxRecDepth 20000 in
theorem ggX7_count_X7_all : GoodIn wsX7_count wsX7_all := goodIn_r _ [28, 1, 34, 35, 36, 37, 38, 39, 40, 41, 42, 43, 44, 45, 46, 47, 48, 49, 50, 51, 52, 53, 54, 55, 56] (by decide +kernel) (by decide +kernel)
set_option maxRecDepth 20000 in
theorem gX7_count_X7_all : GoodIn wsX7_count (wsV RX7 135 RX7 yX7_all wsX7_all) := goodIn_app (goodIn_of _ (by decide +kernel)) ggX7_count_X7_all
set_option maxRecDepth 20000 in
theorem ggX7_count_X7_reaches : GoodIn wsX7_count wsX7_reaches := goodIn_r _ [32, 1, 33, 2, 22, 23, 9, 24, 11, 12, 13, 14, 34, 35, 36, 37, 38, 39, 40, 41, 42, 43, 44, 45, 46, 47, 48, 49, 50, 51, 52, 53, 54, 55, 56] (by decide +kernel) (by decide +kernel)
set_option maxRecDepth 20000 in
theorem gX7_count_X7_reaches : GoodIn wsX7_count (wsV RX7 108 RX7 yX7_reaches wsX7_reaches) := goodIn_app (goodIn_of _ (by decide +kernel)) ggX7_count_X7_reaches
theorem dX7_count_0 : decode cX7_count 0 = .ok (.iconst 0, 1) := by decide +kernel
theorem dX7_count_1 : decode cX7_count 1 = .ok (.istore_n 2, 1) := by decide +kernel
theorem dX7_count_2 : decode cX7_count 2 = .ok (.iconst 0, 1) := by decide +kernel
theorem dX7_count_3 : decode cX7_count 3 = .ok (.istore_n 3, 1) := by decide +kernel
theorem dX7_count_4 : decode cX7_count 4 = .ok (.iconst 0, 1) := by decide +kernel
theorem dX7_count_5 : decode cX7_count 5 = .ok (.istore 4, 2) := by decide +kernel
theorem dX7_count_7 : decode cX7_count 7 = .ok (.iload 4, 2) := by decide +kernel
theorem dX7_count_9 : decode cX7_count 9 = .ok (.aload_n 0, 1) := by decide +kernel
theorem dX7_count_10 : decode cX7_count 10 = .ok (.getfield 7, 3) := by decide +kernel
theorem dX7_count_13 : decode cX7_count 13 = .ok (.iconst 0, 1) := by decide +kernel
theorem dX7_count_14 : decode cX7_count 14 = .ok (.iaload, 1) := by decide +kernel
theorem dX7_count_15 : decode cX7_count 15 = .ok (.if_icmp .ge 42, 3) := by decide +kernel
theorem dX7_count_18 : decode cX7_count 18 = .ok (.iload_n 2, 1) := by decide +kernel
theorem dX7_count_19 : decode cX7_count 19 = .ok (.aload_n 0, 1) := by decide +kernel
theorem dX7_count_20 : decode cX7_count 20 = .ok (.iload 4, 2) := by decide +kernel
theorem dX7_count_22 : decode cX7_count 22 = .ok (.invokevirtual 55, 3) := by decide +kernel
theorem dX7_count_25 : decode cX7_count 25 = .ok (.ifCond .eq 13, 3) := by decide +kernel
theorem dX7_count_28 : decode cX7_count 28 = .ok (.aload_n 0, 1) := by decide +kernel
theorem dX7_count_29 : decode cX7_count 29 = .ok (.iload 4, 2) := by decide +kernel
theorem dX7_count_31 : decode cX7_count 31 = .ok (.iconst 2, 1) := by decide +kernel
theorem dX7_count_32 : decode cX7_count 32 = .ok (.invokevirtual 51, 3) := by decide +kernel
theorem dX7_count_35 : decode cX7_count 35 = .ok (.goto 4, 3) := by decide +kernel
theorem dX7_count_38 : decode cX7_count 38 = .ok (.iconst 0, 1) := by decide +kernel
theorem dX7_count_39 : decode cX7_count 39 = .ok (.iadd, 1) := by decide +kernel
theorem dX7_count_40 : decode cX7_count 40 = .ok (.istore_n 2, 1) := by decide +kernel
theorem dX7_count_41 : decode cX7_count 41 = .ok (.iload_n 3, 1) := by decide +kernel
theorem dX7_count_42 : decode cX7_count 42 = .ok (.aload_n 0, 1) := by decide +kernel
theorem dX7_count_43 : decode cX7_count 43 = .ok (.iload 4, 2) := by decide +kernel
theorem dX7_count_45 : decode cX7_count 45 = .ok (.iconst 1, 1) := by decide +kernel
theorem dX7_count_46 : decode cX7_count 46 = .ok (.invokevirtual 51, 3) := by decide +kernel
theorem dX7_count_49 : decode cX7_count 49 = .ok (.iadd, 1) := by decide +kernel
theorem dX7_count_50 : decode cX7_count 50 = .ok (.istore_n 3, 1) := by decide +kernel
theorem dX7_count_51 : decode cX7_count 51 = .ok (.iinc 4 1, 3) := by decide +kernel
theorem dX7_count_54 : decode cX7_count 54 = .ok (.goto (-47), 3) := by decide +kernel
theorem dX7_count_57 : decode cX7_count 57 = .ok (.iload_n 1, 1) := by decide +kernel
theorem dX7_count_58 : decode cX7_count 58 = .ok (.tableswitch 102 0 7 #[46, 53, 61, 63, 65, 87, 92, 97], 46) := by decide +kernel
theorem dX7_count_104 : decode cX7_count 104 = .ok (.aload_n 0, 1) := by decide +kernel
theorem dX7_count_105 : decode cX7_count 105 = .ok (.getfield 7, 3) := by decide +kernel
theorem dX7_count_108 : decode cX7_count 108 = .ok (.iconst 0, 1) := by decide +kernel
theorem dX7_count_109 : decode cX7_count 109 = .ok (.iaload, 1) := by decide +kernel
theorem dX7_count_110 : decode cX7_count 110 = .ok (.ireturn, 1) := by decide +kernel
theorem dX7_count_111 : decode cX7_count 111 = .ok (.aload_n 0, 1) := by decide +kernel
theorem dX7_count_112 : decode cX7_count 112 = .ok (.invokevirtual 131, 3) := by decide +kernel
theorem dX7_count_115 : decode cX7_count 115 = .ok (.invokestatic 145, 3) := by decide +kernel
theorem dX7_count_118 : decode cX7_count 118 = .ok (.ireturn, 1) := by decide +kernel
theorem dX7_count_119 : decode cX7_count 119 = .ok (.iload_n 2, 1) := by decide +kernel
theorem dX7_count_120 : decode cX7_count 120 = .ok (.ireturn, 1) := by decide +kernel
theorem dX7_count_121 : decode cX7_count 121 = .ok (.iload_n 3, 1) := by decide +kernel
theorem dX7_count_122 : decode cX7_count 122 = .ok (.ireturn, 1) := by decide +kernel
theorem dX7_count_123 : decode cX7_count 123 = .ok (.aload_n 0, 1) := by decide +kernel
theorem dX7_count_124 : decode cX7_count 124 = .ok (.aload_n 0, 1) := by decide +kernel
theorem dX7_count_125 : decode cX7_count 125 = .ok (.invokevirtual 135, 3) := by decide +kernel
theorem dX7_count_128 : decode cX7_count 128 = .ok (.invokevirtual 108, 3) := by decide +kernel
theorem dX7_count_131 : decode cX7_count 131 = .ok (.aload_n 0, 1) := by decide +kernel
theorem dX7_count_132 : decode cX7_count 132 = .ok (.getfield 38, 3) := by decide +kernel
theorem dX7_count_135 : decode cX7_count 135 = .ok (.aload_n 0, 1) := by decide +kernel
theorem dX7_count_136 : decode cX7_count 136 = .ok (.getfield 7, 3) := by decide +kernel
theorem dX7_count_139 : decode cX7_count 139 = .ok (.iconst 0, 1) := by decide +kernel
theorem dX7_count_140 : decode cX7_count 140 = .ok (.iaload, 1) := by decide +kernel
theorem dX7_count_141 : decode cX7_count 141 = .ok (.iconst 1, 1) := by decide +kernel
theorem dX7_count_142 : decode cX7_count 142 = .ok (.isub, 1) := by decide +kernel
theorem dX7_count_143 : decode cX7_count 143 = .ok (.iaload, 1) := by decide +kernel
theorem dX7_count_144 : decode cX7_count 144 = .ok (.ireturn, 1) := by decide +kernel
theorem dX7_count_145 : decode cX7_count 145 = .ok (.aload_n 0, 1) := by decide +kernel
theorem dX7_count_146 : decode cX7_count 146 = .ok (.getfield 102, 3) := by decide +kernel
theorem dX7_count_149 : decode cX7_count 149 = .ok (.ireturn, 1) := by decide +kernel
theorem dX7_count_150 : decode cX7_count 150 = .ok (.aload_n 0, 1) := by decide +kernel
theorem dX7_count_151 : decode cX7_count 151 = .ok (.getfield 63, 3) := by decide +kernel
theorem dX7_count_154 : decode cX7_count 154 = .ok (.ireturn, 1) := by decide +kernel
theorem dX7_count_155 : decode cX7_count 155 = .ok (.aload_n 0, 1) := by decide +kernel
theorem dX7_count_156 : decode cX7_count 156 = .ok (.getfield 105, 3) := by decide +kernel
theorem dX7_count_159 : decode cX7_count 159 = .ok (.ireturn, 1) := by decide +kernel
theorem dX7_count_160 : decode cX7_count 160 = .ok (.iconst (-1), 1) := by decide +kernel
theorem dX7_count_161 : decode cX7_count 161 = .ok (.ireturn, 1) := by decide +kernel
