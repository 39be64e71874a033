set_option maxRecDepth 20000 in
theorem ggX6_init_X2_init : GoodIn wsX6_init wsX2_init := goodIn_r _ [33, 34, 2, 3, 29, 35, 36, 37, 68, 69, 70] (by decide +kernel) (by decide +kernel)
set_option maxRecDepth 20000 in
theorem gX6_init_X2_init : GoodIn wsX6_init (wsX2_init) := ggX6_init_X2_init
set_option maxRecDepth 20000 in
theorem ggX6_init_X5_init : GoodIn wsX6_init wsX5_init := goodIn_r _ [39, 40, 2, 3, 41, 42, 79, 80] (by decide +kernel) (by decide +kernel)
set_option maxRecDepth 20000 in
theorem gX6_init_X5_init_n21 : GoodIn wsX6_init (wsX5_init) := ggX6_init_X5_init
set_option maxRecDepth 20000 in
theorem ggX6_init_X0_init : GoodIn wsX6_init wsX0_init := goodIn_r _ [45, 46, 2, 3, 47, 48, 5, 6, 49, 32, 33, 34, 29, 35, 36, 37, 81, 82, 83, 68, 69, 70] (by decide +kernel) (by decide +kernel)
set_option maxRecDepth 20000 in
theorem gX6_init_X0_init : GoodIn wsX6_init (wsX0_init) := ggX6_init_X0_init
set_option maxRecDepth 20000 in
theorem ggX6_init_X1_init : GoodIn wsX6_init wsX1_init := goodIn_r _ [52, 53, 2, 3, 54, 55, 5, 6, 56, 32, 33, 34, 29, 35, 36, 37, 84, 85, 68, 69, 70] (by decide +kernel) (by decide +kernel)
set_option maxRecDepth 20000 in
theorem gX6_init_X1_init : GoodIn wsX6_init (wsX1_init) := ggX6_init_X1_init
set_option maxRecDepth 20000 in
theorem ggX6_init_X4_init : GoodIn wsX6_init wsX4_init := goodIn_r _ [58, 59, 2, 3, 29, 60, 61, 86, 87, 88] (by decide +kernel) (by decide +kernel)
set_option maxRecDepth 20000 in
theorem gX6_init_X4_init_n42 : GoodIn wsX6_init (wsX4_init) := ggX6_init_X4_init
set_option maxRecDepth 20000 in
theorem ggX6_init_X3_init : GoodIn wsX6_init wsX3_init := goodIn_r _ [63, 64, 2, 3, 29, 65, 66, 67, 89, 90, 91, 92, 93, 94, 95, 96] (by decide +kernel) (by decide +kernel)
set_option maxRecDepth 20000 in
theorem gX6_init_X3_init_n49 : GoodIn wsX6_init (wsX3_init) := ggX6_init_X3_init
theorem dX6_init_0 : decode cX6_init 0 = .ok (.aload_n 0, 1) := by decide +kernel
theorem dX6_init_1 : decode cX6_init 1 = .ok (.invokespecial 3, 3) := by decide +kernel
theorem dX6_init_4 : decode cX6_init 4 = .ok (.aload_n 0, 1) := by decide +kernel
theorem dX6_init_5 : decode cX6_init 5 = .ok (.new 9, 3) := by decide +kernel
theorem dX6_init_8 : decode cX6_init 8 = .ok (.dup, 1) := by decide +kernel
theorem dX6_init_9 : decode cX6_init 9 = .ok (.invokespecial 11, 3) := by decide +kernel
theorem dX6_init_12 : decode cX6_init 12 = .ok (.putfield 12, 3) := by decide +kernel
theorem dX6_init_15 : decode cX6_init 15 = .ok (.aload_n 0, 1) := by decide +kernel
theorem dX6_init_16 : decode cX6_init 16 = .ok (.new 9, 3) := by decide +kernel
theorem dX6_init_19 : decode cX6_init 19 = .ok (.dup, 1) := by decide +kernel
theorem dX6_init_20 : decode cX6_init 20 = .ok (.invokespecial 11, 3) := by decide +kernel
theorem dX6_init_23 : decode cX6_init 23 = .ok (.putfield 16, 3) := by decide +kernel
theorem dX6_init_26 : decode cX6_init 26 = .ok (.aload_n 0, 1) := by decide +kernel
theorem dX6_init_27 : decode cX6_init 27 = .ok (.new 19, 3) := by decide +kernel
theorem dX6_init_30 : decode cX6_init 30 = .ok (.dup, 1) := by decide +kernel
theorem dX6_init_31 : decode cX6_init 31 = .ok (.invokespecial 21, 3) := by decide +kernel
theorem dX6_init_34 : decode cX6_init 34 = .ok (.putfield 22, 3) := by decide +kernel
theorem dX6_init_37 : decode cX6_init 37 = .ok (.aload_n 0, 1) := by decide +kernel
theorem dX6_init_38 : decode cX6_init 38 = .ok (.new 26, 3) := by decide +kernel
theorem dX6_init_41 : decode cX6_init 41 = .ok (.dup, 1) := by decide +kernel
theorem dX6_init_42 : decode cX6_init 42 = .ok (.invokespecial 28, 3) := by decide +kernel
theorem dX6_init_45 : decode cX6_init 45 = .ok (.putfield 29, 3) := by decide +kernel
theorem dX6_init_48 : decode cX6_init 48 = .ok (.aload_n 0, 1) := by decide +kernel
theorem dX6_init_49 : decode cX6_init 49 = .ok (.new 33, 3) := by decide +kernel
theorem dX6_init_52 : decode cX6_init 52 = .ok (.dup, 1) := by decide +kernel
theorem dX6_init_53 : decode cX6_init 53 = .ok (.invokespecial 35, 3) := by decide +kernel
theorem dX6_init_56 : decode cX6_init 56 = .ok (.putfield 36, 3) := by decide +kernel
theorem dX6_init_59 : decode cX6_init 59 = .ok (.aload_n 0, 1) := by decide +kernel
theorem dX6_init_60 : decode cX6_init 60 = .ok (.new 40, 3) := by decide +kernel
theorem dX6_init_63 : decode cX6_init 63 = .ok (.dup, 1) := by decide +kernel
theorem dX6_init_64 : decode cX6_init 64 = .ok (.invokespecial 42, 3) := by decide +kernel
theorem dX6_init_67 : decode cX6_init 67 = .ok (.putfield 43, 3) := by decide +kernel
theorem dX6_init_70 : decode cX6_init 70 = .ok (.aload_n 0, 1) := by decide +kernel
theorem dX6_init_71 : decode cX6_init 71 = .ok (.new 47, 3) := by decide +kernel
theorem dX6_init_74 : decode cX6_init 74 = .ok (.dup, 1) := by decide +kernel
theorem dX6_init_75 : decode cX6_init 75 = .ok (.invokespecial 49, 3) := by decide +kernel
theorem dX6_init_78 : decode cX6_init 78 = .ok (.putfield 50, 3) := by decide +kernel
theorem dX6_init_81 : decode cX6_init 81 = .ok (.aload_n 0, 1) := by decide +kernel
theorem dX6_init_82 : decode cX6_init 82 = .ok (.bipush 9, 2) := by decide +kernel
theorem dX6_init_84 : decode cX6_init 84 = .ok (.newarray .int, 2) := by decide +kernel
theorem dX6_init_86 : decode cX6_init 86 = .ok (.putfield 54, 3) := by decide +kernel
theorem dX6_init_89 : decode cX6_init 89 = .ok (.return_, 1) := by decide +kernel
set_option maxRecDepth 20000 in
theorem ggX6_type_X5_append : GoodIn wsX6_type wsX5_append := goodIn_r _ [6, 7, 8, 17, 18] (by decide +kernel) (by decide +kernel)
set_option maxRecDepth 20000 in
theorem gX6_type_X5_append : GoodIn wsX6_type (wsV RX6 58 RX5 yX5_append wsX5_append) := goodIn_app (goodIn_of _ (by decide +kernel)) ggX6_type_X5_append
theorem dX6_type_0 : decode cX6_type 0 = .ok (.iload_n 1, 1) := by decide +kernel
theorem dX6_type_1 : decode cX6_type 1 = .ok (.ifCond .lt 10, 3) := by decide +kernel
theorem dX6_type_4 : decode cX6_type 4 = .ok (.iload_n 1, 1) := by decide +kernel
theorem dX6_type_5 : decode cX6_type 5 = .ok (.sipush 255, 3) := by decide +kernel
theorem dX6_type_8 : decode cX6_type 8 = .ok (.if_icmp .le 5, 3) := by decide +kernel
theorem dX6_type_11 : decode cX6_type 11 = .ok (.iconst (-1), 1) := by decide +kernel
theorem dX6_type_12 : decode cX6_type 12 = .ok (.ireturn, 1) := by decide +kernel
theorem dX6_type_13 : decode cX6_type 13 = .ok (.aload_n 0, 1) := by decide +kernel
theorem dX6_type_14 : decode cX6_type 14 = .ok (.getfield 22, 3) := by decide +kernel
theorem dX6_type_17 : decode cX6_type 17 = .ok (.iload_n 1, 1) := by decide +kernel
theorem dX6_type_18 : decode cX6_type 18 = .ok (.invokevirtual 58, 3) := by decide +kernel
theorem dX6_type_21 : decode cX6_type 21 = .ok (.ifCond .eq 13, 3) := by decide +kernel
theorem dX6_type_24 : decode cX6_type 24 = .ok (.aload_n 0, 1) := by decide +kernel
theorem dX6_type_25 : decode cX6_type 25 = .ok (.getfield 22, 3) := by decide +kernel
theorem dX6_type_28 : decode cX6_type 28 = .ok (.getfield 62, 3) := by decide +kernel
theorem dX6_type_31 : decode cX6_type 31 = .ok (.goto 5, 3) := by decide +kernel
theorem dX6_type_34 : decode cX6_type 34 = .ok (.bipush (-3), 2) := by decide +kernel
theorem dX6_type_36 : decode cX6_type 36 = .ok (.ireturn, 1) := by decide +kernel
set_option maxRecDepth 20000 in
theorem ggX6_clear_X5_empty : GoodIn wsX6_clear wsX5_empty := goodIn_r _ [6, 7, 16, 17] (by decide +kernel) (by decide +kernel)
set_option maxRecDepth 20000 in
theorem gX6_clear_X5_empty : GoodIn wsX6_clear (wsV RX6 66 RX5 yX5_empty wsX5_empty) := goodIn_app (goodIn_of _ (by decide +kernel)) ggX6_clear_X5_empty
theorem dX6_clear_0 : decode cX6_clear 0 = .ok (.aload_n 0, 1) := by decide +kernel
theorem dX6_clear_1 : decode cX6_clear 1 = .ok (.getfield 22, 3) := by decide +kernel
theorem dX6_clear_4 : decode cX6_clear 4 = .ok (.invokevirtual 66, 3) := by decide +kernel
theorem dX6_clear_7 : decode cX6_clear 7 = .ok (.ireturn, 1) := by decide +kernel
set_option maxRecDepth 20000 in
theorem ggX6_tells_X5_readInto : GoodIn wsX6_tells wsX5_readInto := goodIn_r _ [11, 12, 13, 14, 15, 16, 17, 18, 19, 20, 21, 22, 10, 23, 24, 25, 26, 27, 28, 29, 30, 31, 32, 33, 34, 35, 36, 37, 38, 39, 40, 41, 42, 43, 44, 45, 46, 47, 48, 49, 50, 51, 52, 53, 54, 55, 56, 57, 106, 107, 103, 104, 105] (by decide +kernel) (by decide +kernel)
set_option maxRecDepth 20000 in
theorem gX6_tells_X5_readInto : GoodIn wsX6_tells (wsV RX6 70 RX5 yX5_readInto wsX5_readInto) := goodIn_app (goodIn_of _ (by decide +kernel)) ggX6_tells_X5_readInto
set_option maxRecDepth 20000 in
theorem ggX6_tells_X0_push : GoodIn wsX6_tells wsX0_push := goodIn_r _ [62, 63, 64, 65, 66, 67, 68, 69, 70, 71, 72, 16, 73, 53, 74, 75, 76, 77, 18, 19, 108, 109, 110, 103, 104, 105] (by decide +kernel) (by decide +kernel)
set_option maxRecDepth 20000 in
theorem gX6_tells_X0_push : GoodIn wsX6_tells (wsV RX6 74 RX0 yX0_push wsX0_push) := goodIn_app (goodIn_of _ (by decide +kernel)) ggX6_tells_X0_push
set_option maxRecDepth 20000 in
theorem ggX6_tells_X2_become : GoodIn wsX6_tells wsX2_become := goodIn_r _ [73, 53, 74, 75, 76, 77, 18, 19, 103, 104, 105] (by decide +kernel) (by decide +kernel)
set_option maxRecDepth 20000 in
theorem gX6_tells_X2_become : GoodIn wsX6_tells (wsV RX6 78 RX2 yX2_become wsX2_become) := goodIn_app (goodIn_of _ (by decide +kernel)) ggX6_tells_X2_become
set_option maxRecDepth 20000 in
theorem ggX6_tells_X4_empty : GoodIn wsX6_tells wsX4_empty := goodIn_r _ [83, 84, 111, 112, 113] (by decide +kernel) (by decide +kernel)
set_option maxRecDepth 20000 in
theorem gX6_tells_X4_empty : GoodIn wsX6_tells (wsV RX6 81 RX4 yX4_empty wsX4_empty) := goodIn_app (goodIn_of _ (by decide +kernel)) ggX6_tells_X4_empty
set_option maxRecDepth 20000 in
theorem ggX6_tells_X1_empty : GoodIn wsX6_tells wsX1_empty := goodIn_r _ [89, 90, 114, 115] (by decide +kernel) (by decide +kernel)
set_option maxRecDepth 20000 in
theorem gX6_tells_X1_empty : GoodIn wsX6_tells (wsV RX6 82 RX1 yX1_empty wsX1_empty) := goodIn_app (goodIn_of _ (by decide +kernel)) ggX6_tells_X1_empty
set_option maxRecDepth 20000 in
theorem ggX6_tells_X5_empty : GoodIn wsX6_tells wsX5_empty := goodIn_r _ [94, 12, 106, 107] (by decide +kernel) (by decide +kernel)
set_option maxRecDepth 20000 in
theorem gX6_tells_X5_empty : GoodIn wsX6_tells (wsV RX6 66 RX5 yX5_empty wsX5_empty) := goodIn_app (goodIn_of _ (by decide +kernel)) ggX6_tells_X5_empty
theorem dX6_tells_0 : decode cX6_tells 0 = .ok (.aload_n 0, 1) := by decide +kernel
theorem dX6_tells_1 : decode cX6_tells 1 = .ok (.getfield 22, 3) := by decide +kernel
theorem dX6_tells_4 : decode cX6_tells 4 = .ok (.aload_n 0, 1) := by decide +kernel
theorem dX6_tells_5 : decode cX6_tells 5 = .ok (.getfield 16, 3) := by decide +kernel
theorem dX6_tells_8 : decode cX6_tells 8 = .ok (.invokevirtual 70, 3) := by decide +kernel
theorem dX6_tells_11 : decode cX6_tells 11 = .ok (.istore_n 1, 1) := by decide +kernel
theorem dX6_tells_12 : decode cX6_tells 12 = .ok (.iload_n 1, 1) := by decide +kernel
theorem dX6_tells_13 : decode cX6_tells 13 = .ok (.iconst (-1), 1) := by decide +kernel
theorem dX6_tells_14 : decode cX6_tells 14 = .ok (.if_icmp .eq 8, 3) := by decide +kernel
theorem dX6_tells_17 : decode cX6_tells 17 = .ok (.bipush (-10), 2) := by decide +kernel
theorem dX6_tells_19 : decode cX6_tells 19 = .ok (.iload_n 1, 1) := by decide +kernel
theorem dX6_tells_20 : decode cX6_tells 20 = .ok (.isub, 1) := by decide +kernel
theorem dX6_tells_21 : decode cX6_tells 21 = .ok (.ireturn, 1) := by decide +kernel
theorem dX6_tells_22 : decode cX6_tells 22 = .ok (.aload_n 0, 1) := by decide +kernel
theorem dX6_tells_23 : decode cX6_tells 23 = .ok (.getfield 29, 3) := by decide +kernel
theorem dX6_tells_26 : decode cX6_tells 26 = .ok (.aload_n 0, 1) := by decide +kernel
theorem dX6_tells_27 : decode cX6_tells 27 = .ok (.getfield 12, 3) := by decide +kernel
theorem dX6_tells_30 : decode cX6_tells 30 = .ok (.invokevirtual 74, 3) := by decide +kernel
theorem dX6_tells_33 : decode cX6_tells 33 = .ok (.aload_n 0, 1) := by decide +kernel
theorem dX6_tells_34 : decode cX6_tells 34 = .ok (.getfield 12, 3) := by decide +kernel
theorem dX6_tells_37 : decode cX6_tells 37 = .ok (.aload_n 0, 1) := by decide +kernel
theorem dX6_tells_38 : decode cX6_tells 38 = .ok (.getfield 16, 3) := by decide +kernel
theorem dX6_tells_41 : decode cX6_tells 41 = .ok (.invokevirtual 78, 3) := by decide +kernel
theorem dX6_tells_44 : decode cX6_tells 44 = .ok (.aload_n 0, 1) := by decide +kernel
theorem dX6_tells_45 : decode cX6_tells 45 = .ok (.getfield 43, 3) := by decide +kernel
theorem dX6_tells_48 : decode cX6_tells 48 = .ok (.invokevirtual 81, 3) := by decide +kernel
theorem dX6_tells_51 : decode cX6_tells 51 = .ok (.pop, 1) := by decide +kernel
theorem dX6_tells_52 : decode cX6_tells 52 = .ok (.aload_n 0, 1) := by decide +kernel
theorem dX6_tells_53 : decode cX6_tells 53 = .ok (.getfield 36, 3) := by decide +kernel
theorem dX6_tells_56 : decode cX6_tells 56 = .ok (.invokevirtual 82, 3) := by decide +kernel
theorem dX6_tells_59 : decode cX6_tells 59 = .ok (.aload_n 0, 1) := by decide +kernel
theorem dX6_tells_60 : decode cX6_tells 60 = .ok (.getfield 22, 3) := by decide +kernel
theorem dX6_tells_63 : decode cX6_tells 63 = .ok (.invokevirtual 66, 3) := by decide +kernel
theorem dX6_tells_66 : decode cX6_tells 66 = .ok (.pop, 1) := by decide +kernel
theorem dX6_tells_67 : decode cX6_tells 67 = .ok (.aload_n 0, 1) := by decide +kernel
theorem dX6_tells_68 : decode cX6_tells 68 = .ok (.getfield 12, 3) := by decide +kernel
theorem dX6_tells_71 : decode cX6_tells 71 = .ok (.getfield 84, 3) := by decide +kernel
theorem dX6_tells_74 : decode cX6_tells 74 = .ok (.ireturn, 1) := by decide +kernel
set_option maxRecDepth 20000 in
theorem ggX6_loads_X6_isLoad : GoodIn wsX6_loads wsX6_isLoad := goodIn_r _ [7] (by decide +kernel) (by decide +kernel)
set_option maxRecDepth 20000 in
theorem gX6_loads_X6_isLoad : GoodIn wsX6_loads (va_wsS RX6 85 yX6_isLoad wsX6_isLoad) := goodIn_app (goodIn_of _ (by decide +kernel)) ggX6_loads_X6_isLoad
set_option maxRecDepth 20000 in
theorem ggX6_loads_X6_stackAll : GoodIn wsX6_loads wsX6_stackAll := goodIn_r _ [11, 2, 1, 12, 13, 14, 15, 16, 17, 18, 19, 20, 21, 22, 6, 23, 24, 25, 26, 27, 28, 29, 30, 31, 32, 33, 34, 35, 36, 37, 38, 91, 92, 93, 94, 95, 96, 97, 98, 99, 100, 101, 102, 103, 104, 105, 106, 107, 108, 109] (by decide +kernel) (by decide +kernel)
set_option maxRecDepth 20000 in
theorem gX6_loads_X6_stackAll : GoodIn wsX6_loads (wsV RX6 91 RX6 yX6_stackAll wsX6_stackAll) := goodIn_app (goodIn_of _ (by decide +kernel)) ggX6_loads_X6_stackAll
set_option maxRecDepth 20000 in
theorem ggX6_loads_X3_wholeAfter : GoodIn wsX6_loads wsX3_wholeAfter := goodIn_r _ [42, 18, 43, 44, 45, 15, 46, 17, 47, 48, 49, 50, 19, 20, 51, 52, 53, 22, 6, 23, 54, 55, 56, 57, 21, 58, 59, 60, 61, 62, 30, 31, 32, 102, 103, 104, 105, 106, 107, 108, 109] (by decide +kernel) (by decide +kernel)
set_option maxRecDepth 20000 in
theorem gX6_loads_X3_wholeAfter : GoodIn wsX6_loads (wsV RX6 95 RX3 yX3_wholeAfter wsX3_wholeAfter) := goodIn_app (goodIn_of _ (by decide +kernel)) ggX6_loads_X3_wholeAfter
set_option maxRecDepth 20000 in
theorem ggX6_loads_J6_bitCount_0f7a4 : GoodIn wsX6_loads wsJ6_bitCount_0f7a4 := goodIn_r _ [66, 67, 68, 69] (by decide +kernel) (by decide +kernel)
set_option maxRecDepth 20000 in
theorem gX6_loads_J6_bitCount_0f7a4 : GoodIn wsX6_loads (va_wsS RX6 99 yJ6_bitCount_0f7a4 wsJ6_bitCount_0f7a4) := goodIn_app (goodIn_of _ (by decide +kernel)) ggX6_loads_J6_bitCount_0f7a4
set_option maxRecDepth 20000 in
theorem ggX6_loads_X0_push : GoodIn wsX6_loads wsX0_push := goodIn_r _ [74, 75, 76, 77, 78, 79, 31, 80, 81, 82, 83, 27, 84, 37, 85, 86, 87, 88, 89, 90, 110, 111, 112, 99, 100, 101] (by decide +kernel) (by decide +kernel)
set_option maxRecDepth 20000 in
theorem gX6_loads_X0_push : GoodIn wsX6_loads (wsV RX6 74 RX0 yX0_push wsX0_push) := goodIn_app (goodIn_of _ (by decide +kernel)) ggX6_loads_X0_push
theorem dX6_loads_0 : decode cX6_loads 0 = .ok (.iload_n 1, 1) := by decide +kernel
theorem dX6_loads_1 : decode cX6_loads 1 = .ok (.invokestatic 85, 3) := by decide +kernel
theorem dX6_loads_4 : decode cX6_loads 4 = .ok (.ifCond .ne 5, 3) := by decide +kernel
theorem dX6_loads_7 : decode cX6_loads 7 = .ok (.iconst (-1), 1) := by decide +kernel
theorem dX6_loads_8 : decode cX6_loads 8 = .ok (.ireturn, 1) := by decide +kernel
theorem dX6_loads_9 : decode cX6_loads 9 = .ok (.aload_n 0, 1) := by decide +kernel
theorem dX6_loads_10 : decode cX6_loads 10 = .ok (.aload_n 0, 1) := by decide +kernel
theorem dX6_loads_11 : decode cX6_loads 11 = .ok (.getfield 12, 3) := by decide +kernel
theorem dX6_loads_14 : decode cX6_loads 14 = .ok (.getfield 88, 3) := by decide +kernel
theorem dX6_loads_17 : decode cX6_loads 17 = .ok (.invokevirtual 91, 3) := by decide +kernel
theorem dX6_loads_20 : decode cX6_loads 20 = .ok (.aload_n 0, 1) := by decide +kernel
theorem dX6_loads_21 : decode cX6_loads 21 = .ok (.getfield 50, 3) := by decide +kernel
theorem dX6_loads_24 : decode cX6_loads 24 = .ok (.iload_n 1, 1) := by decide +kernel
theorem dX6_loads_25 : decode cX6_loads 25 = .ok (.invokevirtual 95, 3) := by decide +kernel
theorem dX6_loads_28 : decode cX6_loads 28 = .ok (.istore_n 2, 1) := by decide +kernel
theorem dX6_loads_29 : decode cX6_loads 29 = .ok (.aload_n 0, 1) := by decide +kernel
theorem dX6_loads_30 : decode cX6_loads 30 = .ok (.getfield 12, 3) := by decide +kernel
theorem dX6_loads_33 : decode cX6_loads 33 = .ok (.getfield 88, 3) := by decide +kernel
theorem dX6_loads_36 : decode cX6_loads 36 = .ok (.invokestatic 99, 3) := by decide +kernel
theorem dX6_loads_39 : decode cX6_loads 39 = .ok (.iload_n 2, 1) := by decide +kernel
theorem dX6_loads_40 : decode cX6_loads 40 = .ok (.invokestatic 99, 3) := by decide +kernel
theorem dX6_loads_43 : decode cX6_loads 43 = .ok (.isub, 1) := by decide +kernel
theorem dX6_loads_44 : decode cX6_loads 44 = .ok (.istore_n 3, 1) := by decide +kernel
theorem dX6_loads_45 : decode cX6_loads 45 = .ok (.aload_n 0, 1) := by decide +kernel
theorem dX6_loads_46 : decode cX6_loads 46 = .ok (.getfield 29, 3) := by decide +kernel
theorem dX6_loads_49 : decode cX6_loads 49 = .ok (.aload_n 0, 1) := by decide +kernel
theorem dX6_loads_50 : decode cX6_loads 50 = .ok (.getfield 12, 3) := by decide +kernel
theorem dX6_loads_53 : decode cX6_loads 53 = .ok (.invokevirtual 74, 3) := by decide +kernel
theorem dX6_loads_56 : decode cX6_loads 56 = .ok (.aload_n 0, 1) := by decide +kernel
theorem dX6_loads_57 : decode cX6_loads 57 = .ok (.getfield 12, 3) := by decide +kernel
theorem dX6_loads_60 : decode cX6_loads 60 = .ok (.iload_n 2, 1) := by decide +kernel
theorem dX6_loads_61 : decode cX6_loads 61 = .ok (.putfield 88, 3) := by decide +kernel
theorem dX6_loads_64 : decode cX6_loads 64 = .ok (.iload_n 3, 1) := by decide +kernel
theorem dX6_loads_65 : decode cX6_loads 65 = .ok (.ireturn, 1) := by decide +kernel
set_option maxRecDepth 20000 in
theorem ggX6_breaks_X2_exists : GoodIn wsX6_breaks wsX2_exists := goodIn_r _ [7, 8, 53, 54, 55] (by decide +kernel) (by decide +kernel)
set_option maxRecDepth 20000 in
theorem gX6_breaks_X2_exists : GoodIn wsX6_breaks (wsV RX6 104 RX2 yX2_exists wsX2_exists) := goodIn_app (goodIn_of _ (by decide +kernel)) ggX6_breaks_X2_exists
set_option maxRecDepth 20000 in
theorem ggX6_breaks_X2_isWhole : GoodIn wsX6_breaks wsX2_isWhole := goodIn_r _ [12, 13, 14, 15, 16, 53, 54, 55] (by decide +kernel) (by decide +kernel)
set_option maxRecDepth 20000 in
theorem gX6_breaks_X2_isWhole : GoodIn wsX6_breaks (wsV RX6 107 RX2 yX2_isWhole wsX2_isWhole) := goodIn_app (goodIn_of _ (by decide +kernel)) ggX6_breaks_X2_isWhole
set_option maxRecDepth 20000 in
theorem ggX6_breaks_X0_push : GoodIn wsX6_breaks wsX0_push := goodIn_r _ [21, 22, 23, 24, 25, 26, 27, 28, 29, 30, 31, 6, 32, 33, 34, 35, 36, 37, 8, 13, 56, 57, 58, 53, 54, 55] (by decide +kernel) (by decide +kernel)
set_option maxRecDepth 20000 in
theorem gX6_breaks_X0_push : GoodIn wsX6_breaks (wsV RX6 74 RX0 yX0_push wsX0_push) := goodIn_app (goodIn_of _ (by decide +kernel)) ggX6_breaks_X0_push
set_option maxRecDepth 20000 in
theorem ggX6_breaks_J6_bitCount_0f7a4 : GoodIn wsX6_breaks wsJ6_bitCount_0f7a4 := goodIn_r _ [41, 42, 43, 44] (by decide +kernel) (by decide +kernel)
set_option maxRecDepth 20000 in
theorem gX6_breaks_J6_bitCount_0f7a4 : GoodIn wsX6_breaks (va_wsS RX6 99 yJ6_bitCount_0f7a4 wsJ6_bitCount_0f7a4) := goodIn_app (goodIn_of _ (by decide +kernel)) ggX6_breaks_J6_bitCount_0f7a4
theorem dX6_breaks_0 : decode cX6_breaks 0 = .ok (.aload_n 0, 1) := by decide +kernel
theorem dX6_breaks_1 : decode cX6_breaks 1 = .ok (.getfield 12, 3) := by decide +kernel
theorem dX6_breaks_4 : decode cX6_breaks 4 = .ok (.iload_n 1, 1) := by decide +kernel
theorem dX6_breaks_5 : decode cX6_breaks 5 = .ok (.invokevirtual 104, 3) := by decide +kernel
theorem dX6_breaks_8 : decode cX6_breaks 8 = .ok (.ifCond .ne 5, 3) := by decide +kernel
theorem dX6_breaks_11 : decode cX6_breaks 11 = .ok (.iconst (-1), 1) := by decide +kernel
theorem dX6_breaks_12 : decode cX6_breaks 12 = .ok (.ireturn, 1) := by decide +kernel
theorem dX6_breaks_13 : decode cX6_breaks 13 = .ok (.aload_n 0, 1) := by decide +kernel
theorem dX6_breaks_14 : decode cX6_breaks 14 = .ok (.getfield 12, 3) := by decide +kernel
theorem dX6_breaks_17 : decode cX6_breaks 17 = .ok (.iload_n 1, 1) := by decide +kernel
theorem dX6_breaks_18 : decode cX6_breaks 18 = .ok (.invokevirtual 107, 3) := by decide +kernel
theorem dX6_breaks_21 : decode cX6_breaks 21 = .ok (.ifCond .ne 6, 3) := by decide +kernel
theorem dX6_breaks_24 : decode cX6_breaks 24 = .ok (.bipush (-2), 2) := by decide +kernel
theorem dX6_breaks_26 : decode cX6_breaks 26 = .ok (.ireturn, 1) := by decide +kernel
theorem dX6_breaks_27 : decode cX6_breaks 27 = .ok (.aload_n 0, 1) := by decide +kernel
theorem dX6_breaks_28 : decode cX6_breaks 28 = .ok (.getfield 29, 3) := by decide +kernel
theorem dX6_breaks_31 : decode cX6_breaks 31 = .ok (.aload_n 0, 1) := by decide +kernel
theorem dX6_breaks_32 : decode cX6_breaks 32 = .ok (.getfield 12, 3) := by decide +kernel
theorem dX6_breaks_35 : decode cX6_breaks 35 = .ok (.invokevirtual 74, 3) := by decide +kernel
theorem dX6_breaks_38 : decode cX6_breaks 38 = .ok (.aload_n 0, 1) := by decide +kernel
theorem dX6_breaks_39 : decode cX6_breaks 39 = .ok (.getfield 12, 3) := by decide +kernel
theorem dX6_breaks_42 : decode cX6_breaks 42 = .ok (.dup, 1) := by decide +kernel
theorem dX6_breaks_43 : decode cX6_breaks 43 = .ok (.getfield 88, 3) := by decide +kernel
theorem dX6_breaks_46 : decode cX6_breaks 46 = .ok (.iconst 1, 1) := by decide +kernel
theorem dX6_breaks_47 : decode cX6_breaks 47 = .ok (.iload_n 1, 1) := by decide +kernel
theorem dX6_breaks_48 : decode cX6_breaks 48 = .ok (.ishl, 1) := by decide +kernel
theorem dX6_breaks_49 : decode cX6_breaks 49 = .ok (.iconst (-1), 1) := by decide +kernel
theorem dX6_breaks_50 : decode cX6_breaks 50 = .ok (.ixor, 1) := by decide +kernel
theorem dX6_breaks_51 : decode cX6_breaks 51 = .ok (.iand, 1) := by decide +kernel
theorem dX6_breaks_52 : decode cX6_breaks 52 = .ok (.putfield 88, 3) := by decide +kernel
theorem dX6_breaks_55 : decode cX6_breaks 55 = .ok (.aload_n 0, 1) := by decide +kernel
theorem dX6_breaks_56 : decode cX6_breaks 56 = .ok (.getfield 12, 3) := by decide +kernel
theorem dX6_breaks_59 : decode cX6_breaks 59 = .ok (.getfield 88, 3) := by decide +kernel
theorem dX6_breaks_62 : decode cX6_breaks 62 = .ok (.invokestatic 99, 3) := by decide +kernel
theorem dX6_breaks_65 : decode cX6_breaks 65 = .ok (.ireturn, 1) := by decide +kernel
set_option maxRecDepth 20000 in
theorem ggX6_mends_X2_exists : GoodIn wsX6_mends wsX2_exists := goodIn_r _ [7, 8, 53, 54, 55] (by decide +kernel) (by decide +kernel)
set_option maxRecDepth 20000 in
theorem gX6_mends_X2_exists : GoodIn wsX6_mends (wsV RX6 104 RX2 yX2_exists wsX2_exists) := goodIn_app (goodIn_of _ (by decide +kernel)) ggX6_mends_X2_exists
set_option maxRecDepth 20000 in
theorem ggX6_mends_X2_isWhole : GoodIn wsX6_mends wsX2_isWhole := goodIn_r _ [12, 13, 14, 15, 16, 53, 54, 55] (by decide +kernel) (by decide +kernel)
set_option maxRecDepth 20000 in
theorem gX6_mends_X2_isWhole : GoodIn wsX6_mends (wsV RX6 107 RX2 yX2_isWhole wsX2_isWhole) := goodIn_app (goodIn_of _ (by decide +kernel)) ggX6_mends_X2_isWhole
set_option maxRecDepth 20000 in
theorem ggX6_mends_X0_push : GoodIn wsX6_mends wsX0_push := goodIn_r _ [21, 22, 23, 24, 25, 26, 27, 28, 29, 30, 31, 6, 32, 33, 34, 35, 36, 37, 8, 13, 56, 57, 58, 53, 54, 55] (by decide +kernel) (by decide +kernel)
set_option maxRecDepth 20000 in
theorem gX6_mends_X0_push : GoodIn wsX6_mends (wsV RX6 74 RX0 yX0_push wsX0_push) := goodIn_app (goodIn_of _ (by decide +kernel)) ggX6_mends_X0_push
set_option maxRecDepth 20000 in
theorem ggX6_mends_J6_bitCount_0f7a4 : GoodIn wsX6_mends wsJ6_bitCount_0f7a4 := goodIn_r _ [41, 42, 43, 44] (by decide +kernel) (by decide +kernel)
set_option maxRecDepth 20000 in
theorem gX6_mends_J6_bitCount_0f7a4 : GoodIn wsX6_mends (va_wsS RX6 99 yJ6_bitCount_0f7a4 wsJ6_bitCount_0f7a4) := goodIn_app (goodIn_of _ (by decide +kernel)) ggX6_mends_J6_bitCount_0f7a4
theorem dX6_mends_0 : decode cX6_mends 0 = .ok (.aload_n 0, 1) := by decide +kernel
theorem dX6_mends_1 : decode cX6_mends 1 = .ok (.getfield 12, 3) := by decide +kernel
theorem dX6_mends_4 : decode cX6_mends 4 = .ok (.iload_n 1, 1) := by decide +kernel
theorem dX6_mends_5 : decode cX6_mends 5 = .ok (.invokevirtual 104, 3) := by decide +kernel
theorem dX6_mends_8 : decode cX6_mends 8 = .ok (.ifCond .ne 5, 3) := by decide +kernel
theorem dX6_mends_11 : decode cX6_mends 11 = .ok (.iconst (-1), 1) := by decide +kernel
theorem dX6_mends_12 : decode cX6_mends 12 = .ok (.ireturn, 1) := by decide +kernel
theorem dX6_mends_13 : decode cX6_mends 13 = .ok (.aload_n 0, 1) := by decide +kernel
theorem dX6_mends_14 : decode cX6_mends 14 = .ok (.getfield 12, 3) := by decide +kernel
theorem dX6_mends_17 : decode cX6_mends 17 = .ok (.iload_n 1, 1) := by decide +kernel
theorem dX6_mends_18 : decode cX6_mends 18 = .ok (.invokevirtual 107, 3) := by decide +kernel
theorem dX6_mends_21 : decode cX6_mends 21 = .ok (.ifCond .eq 6, 3) := by decide +kernel
theorem dX6_mends_24 : decode cX6_mends 24 = .ok (.bipush (-2), 2) := by decide +kernel
theorem dX6_mends_26 : decode cX6_mends 26 = .ok (.ireturn, 1) := by decide +kernel
theorem dX6_mends_27 : decode cX6_mends 27 = .ok (.aload_n 0, 1) := by decide +kernel
theorem dX6_mends_28 : decode cX6_mends 28 = .ok (.getfield 29, 3) := by decide +kernel
theorem dX6_mends_31 : decode cX6_mends 31 = .ok (.aload_n 0, 1) := by decide +kernel
theorem dX6_mends_32 : decode cX6_mends 32 = .ok (.getfield 12, 3) := by decide +kernel
theorem dX6_mends_35 : decode cX6_mends 35 = .ok (.invokevirtual 74, 3) := by decide +kernel
theorem dX6_mends_38 : decode cX6_mends 38 = .ok (.aload_n 0, 1) := by decide +kernel
theorem dX6_mends_39 : decode cX6_mends 39 = .ok (.getfield 12, 3) := by decide +kernel
theorem dX6_mends_42 : decode cX6_mends 42 = .ok (.dup, 1) := by decide +kernel
theorem dX6_mends_43 : decode cX6_mends 43 = .ok (.getfield 88, 3) := by decide +kernel
theorem dX6_mends_46 : decode cX6_mends 46 = .ok (.iconst 1, 1) := by decide +kernel
theorem dX6_mends_47 : decode cX6_mends 47 = .ok (.iload_n 1, 1) := by decide +kernel
theorem dX6_mends_48 : decode cX6_mends 48 = .ok (.ishl, 1) := by decide +kernel
theorem dX6_mends_49 : decode cX6_mends 49 = .ok (.ior, 1) := by decide +kernel
theorem dX6_mends_50 : decode cX6_mends 50 = .ok (.putfield 88, 3) := by decide +kernel
theorem dX6_mends_53 : decode cX6_mends 53 = .ok (.aload_n 0, 1) := by decide +kernel
theorem dX6_mends_54 : decode cX6_mends 54 = .ok (.getfield 12, 3) := by decide +kernel
theorem dX6_mends_57 : decode cX6_mends 57 = .ok (.getfield 88, 3) := by decide +kernel
theorem dX6_mends_60 : decode cX6_mends 60 = .ok (.invokestatic 99, 3) := by decide +kernel
theorem dX6_mends_63 : decode cX6_mends 63 = .ok (.ireturn, 1) := by decide +kernel
set_option maxRecDepth 20000 in
theorem ggX6_cambers_X2_exists : GoodIn wsX6_cambers wsX2_exists := goodIn_r _ [9, 10, 49, 50, 51] (by decide +kernel) (by decide +kernel)
set_option maxRecDepth 20000 in
theorem gX6_cambers_X2_exists : GoodIn wsX6_cambers (wsV RX6 104 RX2 yX2_exists wsX2_exists) := goodIn_app (goodIn_of _ (by decide +kernel)) ggX6_cambers_X2_exists
set_option maxRecDepth 20000 in
theorem ggX6_cambers_X2_number : GoodIn wsX6_cambers wsX2_number := goodIn_r _ [14, 15, 49, 50, 51] (by decide +kernel) (by decide +kernel)
set_option maxRecDepth 20000 in
theorem gX6_cambers_X2_number : GoodIn wsX6_cambers (wsV RX6 116 RX2 yX2_number wsX2_number) := goodIn_app (goodIn_of _ (by decide +kernel)) ggX6_cambers_X2_number
set_option maxRecDepth 20000 in
theorem ggX6_cambers_X0_push : GoodIn wsX6_cambers wsX0_push := goodIn_r _ [20, 21, 22, 23, 24, 25, 26, 27, 28, 29, 30, 8, 31, 15, 32, 33, 34, 35, 10, 36, 52, 53, 54, 49, 50, 51] (by decide +kernel) (by decide +kernel)
set_option maxRecDepth 20000 in
theorem gX6_cambers_X0_push : GoodIn wsX6_cambers (wsV RX6 74 RX0 yX0_push wsX0_push) := goodIn_app (goodIn_of _ (by decide +kernel)) ggX6_cambers_X0_push
set_option maxRecDepth 20000 in
theorem ggX6_cambers_X2_put : GoodIn wsX6_cambers wsX2_put := goodIn_r _ [40, 15, 49, 50, 51] (by decide +kernel) (by decide +kernel)
set_option maxRecDepth 20000 in
theorem gX6_cambers_X2_put : GoodIn wsX6_cambers (wsV RX6 120 RX2 yX2_put wsX2_put) := goodIn_app (goodIn_of _ (by decide +kernel)) ggX6_cambers_X2_put
theorem dX6_cambers_0 : decode cX6_cambers 0 = .ok (.aload_n 0, 1) := by decide +kernel
theorem dX6_cambers_1 : decode cX6_cambers 1 = .ok (.getfield 12, 3) := by decide +kernel
theorem dX6_cambers_4 : decode cX6_cambers 4 = .ok (.iload_n 1, 1) := by decide +kernel
theorem dX6_cambers_5 : decode cX6_cambers 5 = .ok (.invokevirtual 104, 3) := by decide +kernel
theorem dX6_cambers_8 : decode cX6_cambers 8 = .ok (.ifCond .eq 21, 3) := by decide +kernel
theorem dX6_cambers_11 : decode cX6_cambers 11 = .ok (.iload_n 2, 1) := by decide +kernel
theorem dX6_cambers_12 : decode cX6_cambers 12 = .ok (.getstatic 110, 3) := by decide +kernel
theorem dX6_cambers_15 : decode cX6_cambers 15 = .ok (.iconst 2, 1) := by decide +kernel
theorem dX6_cambers_16 : decode cX6_cambers 16 = .ok (.iaload, 1) := by decide +kernel
theorem dX6_cambers_17 : decode cX6_cambers 17 = .ok (.if_icmp .lt 12, 3) := by decide +kernel
theorem dX6_cambers_20 : decode cX6_cambers 20 = .ok (.iload_n 2, 1) := by decide +kernel
theorem dX6_cambers_21 : decode cX6_cambers 21 = .ok (.getstatic 113, 3) := by decide +kernel
theorem dX6_cambers_24 : decode cX6_cambers 24 = .ok (.iconst 2, 1) := by decide +kernel
theorem dX6_cambers_25 : decode cX6_cambers 25 = .ok (.iaload, 1) := by decide +kernel
theorem dX6_cambers_26 : decode cX6_cambers 26 = .ok (.if_icmp .le 5, 3) := by decide +kernel
theorem dX6_cambers_29 : decode cX6_cambers 29 = .ok (.iconst (-1), 1) := by decide +kernel
theorem dX6_cambers_30 : decode cX6_cambers 30 = .ok (.ireturn, 1) := by decide +kernel
theorem dX6_cambers_31 : decode cX6_cambers 31 = .ok (.aload_n 0, 1) := by decide +kernel
theorem dX6_cambers_32 : decode cX6_cambers 32 = .ok (.getfield 12, 3) := by decide +kernel
theorem dX6_cambers_35 : decode cX6_cambers 35 = .ok (.iconst 2, 1) := by decide +kernel
theorem dX6_cambers_36 : decode cX6_cambers 36 = .ok (.iload_n 1, 1) := by decide +kernel
theorem dX6_cambers_37 : decode cX6_cambers 37 = .ok (.invokevirtual 116, 3) := by decide +kernel
theorem dX6_cambers_40 : decode cX6_cambers 40 = .ok (.istore_n 3, 1) := by decide +kernel
theorem dX6_cambers_41 : decode cX6_cambers 41 = .ok (.iload_n 3, 1) := by decide +kernel
theorem dX6_cambers_42 : decode cX6_cambers 42 = .ok (.iload_n 2, 1) := by decide +kernel
theorem dX6_cambers_43 : decode cX6_cambers 43 = .ok (.if_icmp .ne 6, 3) := by decide +kernel
theorem dX6_cambers_46 : decode cX6_cambers 46 = .ok (.bipush (-2), 2) := by decide +kernel
theorem dX6_cambers_48 : decode cX6_cambers 48 = .ok (.ireturn, 1) := by decide +kernel
theorem dX6_cambers_49 : decode cX6_cambers 49 = .ok (.aload_n 0, 1) := by decide +kernel
theorem dX6_cambers_50 : decode cX6_cambers 50 = .ok (.getfield 29, 3) := by decide +kernel
theorem dX6_cambers_53 : decode cX6_cambers 53 = .ok (.aload_n 0, 1) := by decide +kernel
theorem dX6_cambers_54 : decode cX6_cambers 54 = .ok (.getfield 12, 3) := by decide +kernel
theorem dX6_cambers_57 : decode cX6_cambers 57 = .ok (.invokevirtual 74, 3) := by decide +kernel
theorem dX6_cambers_60 : decode cX6_cambers 60 = .ok (.aload_n 0, 1) := by decide +kernel
theorem dX6_cambers_61 : decode cX6_cambers 61 = .ok (.getfield 12, 3) := by decide +kernel
theorem dX6_cambers_64 : decode cX6_cambers 64 = .ok (.iconst 2, 1) := by decide +kernel
theorem dX6_cambers_65 : decode cX6_cambers 65 = .ok (.iload_n 1, 1) := by decide +kernel
theorem dX6_cambers_66 : decode cX6_cambers 66 = .ok (.iload_n 2, 1) := by decide +kernel
theorem dX6_cambers_67 : decode cX6_cambers 67 = .ok (.invokevirtual 120, 3) := by decide +kernel
theorem dX6_cambers_70 : decode cX6_cambers 70 = .ok (.iload_n 3, 1) := by decide +kernel
theorem dX6_cambers_71 : decode cX6_cambers 71 = .ok (.ireturn, 1) := by decide +kernel
set_option maxRecDepth 20000 in
theorem ggX6_undo_X0_popInto : GoodIn wsX6_undo wsX0_popInto := goodIn_r _ [7, 8, 9, 10, 11, 12, 13, 14, 15, 16, 17, 18, 19, 20, 21, 22, 31, 32, 33, 34, 35, 36] (by decide +kernel) (by decide +kernel)
set_option maxRecDepth 20000 in
theorem gX6_undo_X0_popInto : GoodIn wsX6_undo (wsV RX6 124 RX0 yX0_popInto wsX0_popInto) := goodIn_app (goodIn_of _ (by decide +kernel)) ggX6_undo_X0_popInto
theorem dX6_undo_0 : decode cX6_undo 0 = .ok (.aload_n 0, 1) := by decide +kernel
theorem dX6_undo_1 : decode cX6_undo 1 = .ok (.getfield 29, 3) := by decide +kernel
theorem dX6_undo_4 : decode cX6_undo 4 = .ok (.aload_n 0, 1) := by decide +kernel
theorem dX6_undo_5 : decode cX6_undo 5 = .ok (.getfield 12, 3) := by decide +kernel
theorem dX6_undo_8 : decode cX6_undo 8 = .ok (.invokevirtual 124, 3) := by decide +kernel
theorem dX6_undo_11 : decode cX6_undo 11 = .ok (.ifCond .eq 13, 3) := by decide +kernel
theorem dX6_undo_14 : decode cX6_undo 14 = .ok (.aload_n 0, 1) := by decide +kernel
theorem dX6_undo_15 : decode cX6_undo 15 = .ok (.getfield 29, 3) := by decide +kernel
theorem dX6_undo_18 : decode cX6_undo 18 = .ok (.getfield 128, 3) := by decide +kernel
theorem dX6_undo_21 : decode cX6_undo 21 = .ok (.goto 5, 3) := by decide +kernel
theorem dX6_undo_24 : decode cX6_undo 24 = .ok (.bipush (-2), 2) := by decide +kernel
theorem dX6_undo_26 : decode cX6_undo 26 = .ok (.ireturn, 1) := by decide +kernel
set_option maxRecDepth 20000 in
theorem ggX6_leaf_X2_exists : GoodIn wsX6_leaf wsX2_exists := goodIn_r _ [7, 8, 55, 56, 57] (by decide +kernel) (by decide +kernel)
set_option maxRecDepth 20000 in
theorem gX6_leaf_X2_exists : GoodIn wsX6_leaf (wsV RX6 104 RX2 yX2_exists wsX2_exists) := goodIn_app (goodIn_of _ (by decide +kernel)) ggX6_leaf_X2_exists
set_option maxRecDepth 20000 in
theorem ggX6_leaf_X2_number : GoodIn wsX6_leaf wsX2_number := goodIn_r _ [12, 13, 55, 56, 57] (by decide +kernel) (by decide +kernel)
set_option maxRecDepth 20000 in
theorem gX6_leaf_X2_number : GoodIn wsX6_leaf (wsV RX6 116 RX2 yX2_number wsX2_number) := goodIn_app (goodIn_of _ (by decide +kernel)) ggX6_leaf_X2_number
set_option maxRecDepth 20000 in
theorem ggX6_leaf_X2_isWhole : GoodIn wsX6_leaf wsX2_isWhole := goodIn_r _ [17, 18, 19, 20, 21, 55, 56, 57] (by decide +kernel) (by decide +kernel)
set_option maxRecDepth 20000 in
theorem gX6_leaf_X2_isWhole : GoodIn wsX6_leaf (wsV RX6 107 RX2 yX2_isWhole wsX2_isWhole) := goodIn_app (goodIn_of _ (by decide +kernel)) ggX6_leaf_X2_isWhole
set_option maxRecDepth 20000 in
theorem ggX6_leaf_X2_nip : GoodIn wsX6_leaf wsX2_nip := goodIn_r _ [25, 26, 27, 28, 29, 30, 10, 11, 6, 12, 13, 55, 56, 57] (by decide +kernel) (by decide +kernel)
set_option maxRecDepth 20000 in
theorem gX6_leaf_X2_nip : GoodIn wsX6_leaf (wsV RX6 129 RX2 yX2_nip wsX2_nip) := goodIn_app (goodIn_of _ (by decide +kernel)) ggX6_leaf_X2_nip
set_option maxRecDepth 20000 in
theorem ggX6_leaf_X6_stackAll : GoodIn wsX6_leaf wsX6_stackAll := goodIn_r _ [34, 2, 1, 35, 36, 37, 38, 39, 40, 41, 42, 43, 44, 19, 20, 21, 45, 23, 24, 6, 25, 26, 27, 28, 29, 30, 10, 11, 12, 13, 46, 47, 48, 49, 50, 51, 52, 53, 54, 55, 56, 57, 58, 59, 60, 61, 62, 63, 64, 65] (by decide +kernel) (by decide +kernel)
set_option maxRecDepth 20000 in
theorem gX6_leaf_X6_stackAll : GoodIn wsX6_leaf (wsV RX6 91 RX6 yX6_stackAll wsX6_stackAll) := goodIn_app (goodIn_of _ (by decide +kernel)) ggX6_leaf_X6_stackAll
theorem dX6_leaf_0 : decode cX6_leaf 0 = .ok (.aload_n 0, 1) := by decide +kernel
theorem dX6_leaf_1 : decode cX6_leaf 1 = .ok (.getfield 12, 3) := by decide +kernel
theorem dX6_leaf_4 : decode cX6_leaf 4 = .ok (.iload_n 1, 1) := by decide +kernel
theorem dX6_leaf_5 : decode cX6_leaf 5 = .ok (.invokevirtual 104, 3) := by decide +kernel
theorem dX6_leaf_8 : decode cX6_leaf 8 = .ok (.ifCond .ne 5, 3) := by decide +kernel
theorem dX6_leaf_11 : decode cX6_leaf 11 = .ok (.iconst (-1), 1) := by decide +kernel
theorem dX6_leaf_12 : decode cX6_leaf 12 = .ok (.ireturn, 1) := by decide +kernel
theorem dX6_leaf_13 : decode cX6_leaf 13 = .ok (.iload_n 2, 1) := by decide +kernel
theorem dX6_leaf_14 : decode cX6_leaf 14 = .ok (.tableswitch 102 0 6 #[42, 42, 42, 42, 52, 69, 81], 42) := by decide +kernel
theorem dX6_leaf_56 : decode cX6_leaf 56 = .ok (.aload_n 0, 1) := by decide +kernel
theorem dX6_leaf_57 : decode cX6_leaf 57 = .ok (.getfield 12, 3) := by decide +kernel
theorem dX6_leaf_60 : decode cX6_leaf 60 = .ok (.iload_n 2, 1) := by decide +kernel
theorem dX6_leaf_61 : decode cX6_leaf 61 = .ok (.iload_n 1, 1) := by decide +kernel
theorem dX6_leaf_62 : decode cX6_leaf 62 = .ok (.invokevirtual 116, 3) := by decide +kernel
theorem dX6_leaf_65 : decode cX6_leaf 65 = .ok (.ireturn, 1) := by decide +kernel
theorem dX6_leaf_66 : decode cX6_leaf 66 = .ok (.aload_n 0, 1) := by decide +kernel
theorem dX6_leaf_67 : decode cX6_leaf 67 = .ok (.getfield 12, 3) := by decide +kernel
theorem dX6_leaf_70 : decode cX6_leaf 70 = .ok (.iload_n 1, 1) := by decide +kernel
theorem dX6_leaf_71 : decode cX6_leaf 71 = .ok (.invokevirtual 107, 3) := by decide +kernel
theorem dX6_leaf_74 : decode cX6_leaf 74 = .ok (.ifCond .eq 7, 3) := by decide +kernel
theorem dX6_leaf_77 : decode cX6_leaf 77 = .ok (.iconst 1, 1) := by decide +kernel
theorem dX6_leaf_78 : decode cX6_leaf 78 = .ok (.goto 4, 3) := by decide +kernel
theorem dX6_leaf_81 : decode cX6_leaf 81 = .ok (.iconst 0, 1) := by decide +kernel
theorem dX6_leaf_82 : decode cX6_leaf 82 = .ok (.ireturn, 1) := by decide +kernel
theorem dX6_leaf_83 : decode cX6_leaf 83 = .ok (.aload_n 0, 1) := by decide +kernel
theorem dX6_leaf_84 : decode cX6_leaf 84 = .ok (.getfield 12, 3) := by decide +kernel
theorem dX6_leaf_87 : decode cX6_leaf 87 = .ok (.iload_n 1, 1) := by decide +kernel
theorem dX6_leaf_88 : decode cX6_leaf 88 = .ok (.iconst 1, 1) := by decide +kernel
theorem dX6_leaf_89 : decode cX6_leaf 89 = .ok (.isub, 1) := by decide +kernel
theorem dX6_leaf_90 : decode cX6_leaf 90 = .ok (.iload_n 1, 1) := by decide +kernel
theorem dX6_leaf_91 : decode cX6_leaf 91 = .ok (.invokevirtual 129, 3) := by decide +kernel
theorem dX6_leaf_94 : decode cX6_leaf 94 = .ok (.ireturn, 1) := by decide +kernel
theorem dX6_leaf_95 : decode cX6_leaf 95 = .ok (.aload_n 0, 1) := by decide +kernel
theorem dX6_leaf_96 : decode cX6_leaf 96 = .ok (.aload_n 0, 1) := by decide +kernel
theorem dX6_leaf_97 : decode cX6_leaf 97 = .ok (.getfield 12, 3) := by decide +kernel
theorem dX6_leaf_100 : decode cX6_leaf 100 = .ok (.getfield 88, 3) := by decide +kernel
theorem dX6_leaf_103 : decode cX6_leaf 103 = .ok (.invokevirtual 91, 3) := by decide +kernel
theorem dX6_leaf_106 : decode cX6_leaf 106 = .ok (.aload_n 0, 1) := by decide +kernel
theorem dX6_leaf_107 : decode cX6_leaf 107 = .ok (.getfield 50, 3) := by decide +kernel
theorem dX6_leaf_110 : decode cX6_leaf 110 = .ok (.getfield 132, 3) := by decide +kernel
theorem dX6_leaf_113 : decode cX6_leaf 113 = .ok (.iload_n 1, 1) := by decide +kernel
theorem dX6_leaf_114 : decode cX6_leaf 114 = .ok (.iaload, 1) := by decide +kernel
theorem dX6_leaf_115 : decode cX6_leaf 115 = .ok (.ireturn, 1) := by decide +kernel
theorem dX6_leaf_116 : decode cX6_leaf 116 = .ok (.iconst (-1), 1) := by decide +kernel
theorem dX6_leaf_117 : decode cX6_leaf 117 = .ok (.ireturn, 1) := by decide +kernel
set_option maxRecDepth 20000 in
theorem ggX6_bend_X6_isLoad : GoodIn wsX6_bend wsX6_isLoad := goodIn_r _ [6] (by decide +kernel) (by decide +kernel)
set_option maxRecDepth 20000 in
theorem gX6_bend_X6_isLoad : GoodIn wsX6_bend (va_wsS RX6 85 yX6_isLoad wsX6_isLoad) := goodIn_app (goodIn_of _ (by decide +kernel)) ggX6_bend_X6_isLoad
set_option maxRecDepth 20000 in
theorem ggX6_bend_X6_stackAll : GoodIn wsX6_bend wsX6_stackAll := goodIn_r _ [10, 2, 1, 11, 12, 13, 14, 15, 16, 17, 18, 19, 20, 21, 5, 22, 23, 24, 25, 26, 27, 28, 29, 30, 31, 32, 33, 34, 35, 36, 37, 56, 57, 58, 59, 60, 61, 62, 63, 64, 65, 66, 67, 68, 69, 70, 71, 72, 73, 74] (by decide +kernel) (by decide +kernel)
set_option maxRecDepth 20000 in
theorem gX6_bend_X6_stackAll : GoodIn wsX6_bend (wsV RX6 91 RX6 yX6_stackAll wsX6_stackAll) := goodIn_app (goodIn_of _ (by decide +kernel)) ggX6_bend_X6_stackAll
set_option maxRecDepth 20000 in
theorem ggX6_bend_X3_press : GoodIn wsX6_bend wsX3_press := goodIn_r _ [41, 16, 17, 18, 19, 42, 43, 44, 21, 5, 22, 67, 68, 69, 70, 71, 72, 73, 74] (by decide +kernel) (by decide +kernel)
set_option maxRecDepth 20000 in
theorem gX6_bend_X3_press : GoodIn wsX6_bend (wsV RX6 135 RX3 yX3_press wsX3_press) := goodIn_app (goodIn_of _ (by decide +kernel)) ggX6_bend_X3_press
set_option maxRecDepth 20000 in
theorem ggX6_bend_X3_cut : GoodIn wsX6_bend wsX3_cut := goodIn_r _ [48, 43, 42, 67, 68, 69, 70, 71, 72, 73, 74] (by decide +kernel) (by decide +kernel)
set_option maxRecDepth 20000 in
theorem gX6_bend_X3_cut : GoodIn wsX6_bend (wsV RX6 138 RX3 yX3_cut wsX3_cut) := goodIn_app (goodIn_of _ (by decide +kernel)) ggX6_bend_X3_cut
set_option maxRecDepth 20000 in
theorem ggX6_bend_X6_partInLowestTerms : GoodIn wsX6_bend wsX6_partInLowestTerms := goodIn_r _ [51, 52, 53, 5, 54, 55, 29, 30, 31] (by decide +kernel) (by decide +kernel)
set_option maxRecDepth 20000 in
theorem gX6_bend_X6_partInLowestTerms : GoodIn wsX6_bend (va_wsS RX6 147 yX6_partInLowestTerms wsX6_partInLowestTerms) := goodIn_app (goodIn_of _ (by decide +kernel)) ggX6_bend_X6_partInLowestTerms
theorem dX6_bend_0 : decode cX6_bend 0 = .ok (.iload_n 1, 1) := by decide +kernel
theorem dX6_bend_1 : decode cX6_bend 1 = .ok (.invokestatic 85, 3) := by decide +kernel
theorem dX6_bend_4 : decode cX6_bend 4 = .ok (.ifCond .eq 12, 3) := by decide +kernel
theorem dX6_bend_7 : decode cX6_bend 7 = .ok (.iload_n 2, 1) := by decide +kernel
theorem dX6_bend_8 : decode cX6_bend 8 = .ok (.ifCond .lt 8, 3) := by decide +kernel
theorem dX6_bend_11 : decode cX6_bend 11 = .ok (.iload_n 2, 1) := by decide +kernel
theorem dX6_bend_12 : decode cX6_bend 12 = .ok (.iconst 2, 1) := by decide +kernel
theorem dX6_bend_13 : decode cX6_bend 13 = .ok (.if_icmp .le 5, 3) := by decide +kernel
theorem dX6_bend_16 : decode cX6_bend 16 = .ok (.iconst (-1), 1) := by decide +kernel
theorem dX6_bend_17 : decode cX6_bend 17 = .ok (.ireturn, 1) := by decide +kernel
theorem dX6_bend_18 : decode cX6_bend 18 = .ok (.aload_n 0, 1) := by decide +kernel
theorem dX6_bend_19 : decode cX6_bend 19 = .ok (.aload_n 0, 1) := by decide +kernel
theorem dX6_bend_20 : decode cX6_bend 20 = .ok (.getfield 12, 3) := by decide +kernel
theorem dX6_bend_23 : decode cX6_bend 23 = .ok (.getfield 88, 3) := by decide +kernel
theorem dX6_bend_26 : decode cX6_bend 26 = .ok (.invokevirtual 91, 3) := by decide +kernel
theorem dX6_bend_29 : decode cX6_bend 29 = .ok (.aload_n 0, 1) := by decide +kernel
theorem dX6_bend_30 : decode cX6_bend 30 = .ok (.getfield 50, 3) := by decide +kernel
theorem dX6_bend_33 : decode cX6_bend 33 = .ok (.iload_n 1, 1) := by decide +kernel
theorem dX6_bend_34 : decode cX6_bend 34 = .ok (.invokevirtual 135, 3) := by decide +kernel
theorem dX6_bend_37 : decode cX6_bend 37 = .ok (.ifCond .ne 6, 3) := by decide +kernel
theorem dX6_bend_40 : decode cX6_bend 40 = .ok (.bipush (-9), 2) := by decide +kernel
theorem dX6_bend_42 : decode cX6_bend 42 = .ok (.ireturn, 1) := by decide +kernel
theorem dX6_bend_43 : decode cX6_bend 43 = .ok (.iload_n 2, 1) := by decide +kernel
theorem dX6_bend_44 : decode cX6_bend 44 = .ok (.iconst 2, 1) := by decide +kernel
theorem dX6_bend_45 : decode cX6_bend 45 = .ok (.if_icmp .ne 13, 3) := by decide +kernel
theorem dX6_bend_48 : decode cX6_bend 48 = .ok (.aload_n 0, 1) := by decide +kernel
theorem dX6_bend_49 : decode cX6_bend 49 = .ok (.getfield 50, 3) := by decide +kernel
theorem dX6_bend_52 : decode cX6_bend 52 = .ok (.invokevirtual 138, 3) := by decide +kernel
theorem dX6_bend_55 : decode cX6_bend 55 = .ok (.goto 21, 3) := by decide +kernel
theorem dX6_bend_58 : decode cX6_bend 58 = .ok (.aload_n 0, 1) := by decide +kernel
theorem dX6_bend_59 : decode cX6_bend 59 = .ok (.getfield 50, 3) := by decide +kernel
theorem dX6_bend_62 : decode cX6_bend 62 = .ok (.getfield 141, 3) := by decide +kernel
theorem dX6_bend_65 : decode cX6_bend 65 = .ok (.aload_n 0, 1) := by decide +kernel
theorem dX6_bend_66 : decode cX6_bend 66 = .ok (.getfield 50, 3) := by decide +kernel
theorem dX6_bend_69 : decode cX6_bend 69 = .ok (.getfield 144, 3) := by decide +kernel
theorem dX6_bend_72 : decode cX6_bend 72 = .ok (.iload_n 2, 1) := by decide +kernel
theorem dX6_bend_73 : decode cX6_bend 73 = .ok (.invokestatic 147, 3) := by decide +kernel
theorem dX6_bend_76 : decode cX6_bend 76 = .ok (.ireturn, 1) := by decide +kernel
set_option maxRecDepth 20000 in
theorem ggX6_bears_X2_exists : GoodIn wsX6_bears wsX2_exists := goodIn_r _ [7, 8, 75, 76, 77] (by decide +kernel) (by decide +kernel)
set_option maxRecDepth 20000 in
theorem gX6_bears_X2_exists : GoodIn wsX6_bears (wsV RX6 104 RX2 yX2_exists wsX2_exists) := goodIn_app (goodIn_of _ (by decide +kernel)) ggX6_bears_X2_exists
set_option maxRecDepth 20000 in
theorem ggX6_bears_X6_isLoad : GoodIn wsX6_bears wsX6_isLoad := goodIn_r _ [12] (by decide +kernel) (by decide +kernel)
set_option maxRecDepth 20000 in
theorem gX6_bears_X6_isLoad : GoodIn wsX6_bears (va_wsS RX6 85 yX6_isLoad wsX6_isLoad) := goodIn_app (goodIn_of _ (by decide +kernel)) ggX6_bears_X6_isLoad
set_option maxRecDepth 20000 in
theorem ggX6_bears_X6_stackAll : GoodIn wsX6_bears wsX6_stackAll := goodIn_r _ [16, 2, 1, 17, 18, 19, 20, 21, 22, 23, 24, 25, 26, 27, 11, 28, 29, 30, 31, 6, 32, 33, 34, 35, 36, 37, 38, 39, 40, 41, 42, 67, 68, 69, 70, 71, 72, 73, 74, 75, 76, 77, 78, 79, 80, 81, 82, 83, 84, 85] (by decide +kernel) (by decide +kernel)
set_option maxRecDepth 20000 in
theorem gX6_bears_X6_stackAll : GoodIn wsX6_bears (wsV RX6 91 RX6 yX6_stackAll wsX6_stackAll) := goodIn_app (goodIn_of _ (by decide +kernel)) ggX6_bears_X6_stackAll
set_option maxRecDepth 20000 in
theorem ggX6_bears_X3_press : GoodIn wsX6_bears wsX3_press := goodIn_r _ [46, 22, 23, 24, 25, 47, 48, 49, 27, 11, 28, 78, 79, 80, 81, 82, 83, 84, 85] (by decide +kernel) (by decide +kernel)
set_option maxRecDepth 20000 in
theorem gX6_bears_X3_press : GoodIn wsX6_bears (wsV RX6 135 RX3 yX3_press wsX3_press) := goodIn_app (goodIn_of _ (by decide +kernel)) ggX6_bears_X3_press
set_option maxRecDepth 20000 in
theorem ggX6_bears_X3_excess : GoodIn wsX6_bears wsX3_excess := goodIn_r _ [53, 26, 48, 54, 55, 56, 20, 57, 23, 25, 47, 24, 58, 34, 35, 36, 27, 11, 28, 78, 79, 80, 81, 82, 83, 84, 85] (by decide +kernel) (by decide +kernel)
set_option maxRecDepth 20000 in
theorem gX6_bears_X3_excess : GoodIn wsX6_bears (wsV RX6 151 RX3 yX3_excess wsX3_excess) := goodIn_app (goodIn_of _ (by decide +kernel)) ggX6_bears_X3_excess
set_option maxRecDepth 20000 in
theorem ggX6_bears_X3_borne : GoodIn wsX6_bears wsX3_borne := goodIn_r _ [57, 23, 25, 47, 24, 48, 58, 34, 35, 36, 27, 11, 28, 78, 79, 80, 81, 82, 83, 84, 85] (by decide +kernel) (by decide +kernel)
set_option maxRecDepth 20000 in
theorem gX6_bears_X3_borne : GoodIn wsX6_bears (wsV RX6 154 RX3 yX3_borne wsX3_borne) := goodIn_app (goodIn_of _ (by decide +kernel)) ggX6_bears_X3_borne
set_option maxRecDepth 20000 in
theorem ggX6_bears_X6_partInLowestTerms : GoodIn wsX6_bears wsX6_partInLowestTerms := goodIn_r _ [62, 63, 64, 11, 65, 66, 34, 35, 36] (by decide +kernel) (by decide +kernel)
set_option maxRecDepth 20000 in
theorem gX6_bears_X6_partInLowestTerms : GoodIn wsX6_bears (va_wsS RX6 147 yX6_partInLowestTerms wsX6_partInLowestTerms) := goodIn_app (goodIn_of _ (by decide +kernel)) ggX6_bears_X6_partInLowestTerms
theorem dX6_bears_0 : decode cX6_bears 0 = .ok (.aload_n 0, 1) := by decide +kernel
theorem dX6_bears_1 : decode cX6_bears 1 = .ok (.getfield 12, 3) := by decide +kernel
theorem dX6_bears_4 : decode cX6_bears 4 = .ok (.iload_n 1, 1) := by decide +kernel
theorem dX6_bears_5 : decode cX6_bears 5 = .ok (.invokevirtual 104, 3) := by decide +kernel
theorem dX6_bears_8 : decode cX6_bears 8 = .ok (.ifCond .eq 19, 3) := by decide +kernel
theorem dX6_bears_11 : decode cX6_bears 11 = .ok (.iload_n 2, 1) := by decide +kernel
theorem dX6_bears_12 : decode cX6_bears 12 = .ok (.invokestatic 85, 3) := by decide +kernel
theorem dX6_bears_15 : decode cX6_bears 15 = .ok (.ifCond .eq 12, 3) := by decide +kernel
theorem dX6_bears_18 : decode cX6_bears 18 = .ok (.iload_n 3, 1) := by decide +kernel
theorem dX6_bears_19 : decode cX6_bears 19 = .ok (.ifCond .lt 8, 3) := by decide +kernel
theorem dX6_bears_22 : decode cX6_bears 22 = .ok (.iload_n 3, 1) := by decide +kernel
theorem dX6_bears_23 : decode cX6_bears 23 = .ok (.iconst 2, 1) := by decide +kernel
theorem dX6_bears_24 : decode cX6_bears 24 = .ok (.if_icmp .le 5, 3) := by decide +kernel
theorem dX6_bears_27 : decode cX6_bears 27 = .ok (.iconst (-1), 1) := by decide +kernel
theorem dX6_bears_28 : decode cX6_bears 28 = .ok (.ireturn, 1) := by decide +kernel
theorem dX6_bears_29 : decode cX6_bears 29 = .ok (.aload_n 0, 1) := by decide +kernel
theorem dX6_bears_30 : decode cX6_bears 30 = .ok (.aload_n 0, 1) := by decide +kernel
theorem dX6_bears_31 : decode cX6_bears 31 = .ok (.getfield 12, 3) := by decide +kernel
theorem dX6_bears_34 : decode cX6_bears 34 = .ok (.getfield 88, 3) := by decide +kernel
theorem dX6_bears_37 : decode cX6_bears 37 = .ok (.invokevirtual 91, 3) := by decide +kernel
theorem dX6_bears_40 : decode cX6_bears 40 = .ok (.aload_n 0, 1) := by decide +kernel
theorem dX6_bears_41 : decode cX6_bears 41 = .ok (.getfield 50, 3) := by decide +kernel
theorem dX6_bears_44 : decode cX6_bears 44 = .ok (.iload_n 2, 1) := by decide +kernel
theorem dX6_bears_45 : decode cX6_bears 45 = .ok (.invokevirtual 135, 3) := by decide +kernel
theorem dX6_bears_48 : decode cX6_bears 48 = .ok (.ifCond .ne 6, 3) := by decide +kernel
theorem dX6_bears_51 : decode cX6_bears 51 = .ok (.bipush (-9), 2) := by decide +kernel
theorem dX6_bears_53 : decode cX6_bears 53 = .ok (.ireturn, 1) := by decide +kernel
theorem dX6_bears_54 : decode cX6_bears 54 = .ok (.iload_n 3, 1) := by decide +kernel
theorem dX6_bears_55 : decode cX6_bears 55 = .ok (.iconst 2, 1) := by decide +kernel
theorem dX6_bears_56 : decode cX6_bears 56 = .ok (.if_icmp .ne 20, 3) := by decide +kernel
theorem dX6_bears_59 : decode cX6_bears 59 = .ok (.aload_n 0, 1) := by decide +kernel
theorem dX6_bears_60 : decode cX6_bears 60 = .ok (.getfield 50, 3) := by decide +kernel
theorem dX6_bears_63 : decode cX6_bears 63 = .ok (.iload_n 1, 1) := by decide +kernel
theorem dX6_bears_64 : decode cX6_bears 64 = .ok (.invokevirtual 151, 3) := by decide +kernel
theorem dX6_bears_67 : decode cX6_bears 67 = .ok (.ifCond .le 7, 3) := by decide +kernel
theorem dX6_bears_70 : decode cX6_bears 70 = .ok (.iconst 1, 1) := by decide +kernel
theorem dX6_bears_71 : decode cX6_bears 71 = .ok (.goto 4, 3) := by decide +kernel
theorem dX6_bears_74 : decode cX6_bears 74 = .ok (.iconst 0, 1) := by decide +kernel
theorem dX6_bears_75 : decode cX6_bears 75 = .ok (.ireturn, 1) := by decide +kernel
theorem dX6_bears_76 : decode cX6_bears 76 = .ok (.aload_n 0, 1) := by decide +kernel
theorem dX6_bears_77 : decode cX6_bears 77 = .ok (.getfield 50, 3) := by decide +kernel
theorem dX6_bears_80 : decode cX6_bears 80 = .ok (.iload_n 1, 1) := by decide +kernel
theorem dX6_bears_81 : decode cX6_bears 81 = .ok (.invokevirtual 154, 3) := by decide +kernel
theorem dX6_bears_84 : decode cX6_bears 84 = .ok (.aload_n 0, 1) := by decide +kernel
theorem dX6_bears_85 : decode cX6_bears 85 = .ok (.getfield 50, 3) := by decide +kernel
theorem dX6_bears_88 : decode cX6_bears 88 = .ok (.getfield 144, 3) := by decide +kernel
theorem dX6_bears_91 : decode cX6_bears 91 = .ok (.iload_n 3, 1) := by decide +kernel
theorem dX6_bears_92 : decode cX6_bears 92 = .ok (.invokestatic 147, 3) := by decide +kernel
theorem dX6_bears_95 : decode cX6_bears 95 = .ok (.ireturn, 1) := by decide +kernel
set_option maxRecDepth 20000 in
theorem ggX6_rate_X6_isLoad : GoodIn wsX6_rate wsX6_isLoad := goodIn_r _ [6] (by decide +kernel) (by decide +kernel)
set_option maxRecDepth 20000 in
theorem gX6_rate_X6_isLoad : GoodIn wsX6_rate (va_wsS RX6 85 yX6_isLoad wsX6_isLoad) := goodIn_app (goodIn_of _ (by decide +kernel)) ggX6_rate_X6_isLoad
set_option maxRecDepth 20000 in
theorem ggX6_rate_X6_stackAll : GoodIn wsX6_rate wsX6_stackAll := goodIn_r _ [10, 2, 1, 11, 12, 13, 14, 15, 16, 17, 18, 19, 20, 21, 5, 22, 23, 24, 25, 26, 27, 28, 29, 30, 31, 32, 33, 34, 35, 36, 37, 45, 46, 47, 48, 49, 50, 51, 52, 53, 54, 55, 56, 57, 58, 59, 60, 61, 62, 63] (by decide +kernel) (by decide +kernel)
set_option maxRecDepth 20000 in
theorem gX6_rate_X6_stackAll : GoodIn wsX6_rate (wsV RX6 91 RX6 yX6_stackAll wsX6_stackAll) := goodIn_app (goodIn_of _ (by decide +kernel)) ggX6_rate_X6_stackAll
set_option maxRecDepth 20000 in
theorem ggX6_rate_X3_press : GoodIn wsX6_rate wsX3_press := goodIn_r _ [41, 16, 17, 18, 19, 42, 43, 44, 21, 5, 22, 56, 57, 58, 59, 60, 61, 62, 63] (by decide +kernel) (by decide +kernel)
set_option maxRecDepth 20000 in
theorem gX6_rate_X3_press : GoodIn wsX6_rate (wsV RX6 135 RX3 yX3_press wsX3_press) := goodIn_app (goodIn_of _ (by decide +kernel)) ggX6_rate_X3_press
theorem dX6_rate_0 : decode cX6_rate 0 = .ok (.iload_n 1, 1) := by decide +kernel
theorem dX6_rate_1 : decode cX6_rate 1 = .ok (.invokestatic 85, 3) := by decide +kernel
theorem dX6_rate_4 : decode cX6_rate 4 = .ok (.ifCond .ne 5, 3) := by decide +kernel
theorem dX6_rate_7 : decode cX6_rate 7 = .ok (.iconst (-1), 1) := by decide +kernel
theorem dX6_rate_8 : decode cX6_rate 8 = .ok (.ireturn, 1) := by decide +kernel
theorem dX6_rate_9 : decode cX6_rate 9 = .ok (.aload_n 0, 1) := by decide +kernel
theorem dX6_rate_10 : decode cX6_rate 10 = .ok (.aload_n 0, 1) := by decide +kernel
theorem dX6_rate_11 : decode cX6_rate 11 = .ok (.getfield 12, 3) := by decide +kernel
theorem dX6_rate_14 : decode cX6_rate 14 = .ok (.getfield 88, 3) := by decide +kernel
theorem dX6_rate_17 : decode cX6_rate 17 = .ok (.invokevirtual 91, 3) := by decide +kernel
theorem dX6_rate_20 : decode cX6_rate 20 = .ok (.aload_n 0, 1) := by decide +kernel
theorem dX6_rate_21 : decode cX6_rate 21 = .ok (.getfield 50, 3) := by decide +kernel
theorem dX6_rate_24 : decode cX6_rate 24 = .ok (.iload_n 1, 1) := by decide +kernel
theorem dX6_rate_25 : decode cX6_rate 25 = .ok (.invokevirtual 135, 3) := by decide +kernel
theorem dX6_rate_28 : decode cX6_rate 28 = .ok (.ifCond .eq 13, 3) := by decide +kernel
theorem dX6_rate_31 : decode cX6_rate 31 = .ok (.aload_n 0, 1) := by decide +kernel
theorem dX6_rate_32 : decode cX6_rate 32 = .ok (.getfield 50, 3) := by decide +kernel
theorem dX6_rate_35 : decode cX6_rate 35 = .ok (.getfield 157, 3) := by decide +kernel
theorem dX6_rate_38 : decode cX6_rate 38 = .ok (.goto 5, 3) := by decide +kernel
theorem dX6_rate_41 : decode cX6_rate 41 = .ok (.bipush (-9), 2) := by decide +kernel
theorem dX6_rate_43 : decode cX6_rate 43 = .ok (.ireturn, 1) := by decide +kernel
set_option maxRecDepth 20000 in
theorem ggX6_least_X6_stackAll : GoodIn wsX6_least wsX6_stackAll := goodIn_r _ [7, 2, 1, 8, 9, 10, 11, 12, 13, 14, 15, 16, 17, 18, 6, 19, 20, 21, 22, 23, 24, 25, 26, 27, 28, 29, 30, 31, 32, 33, 34, 71, 72, 73, 74, 75, 76, 77, 78, 79, 80, 81, 82, 83, 84, 85, 86, 87, 88, 89] (by decide +kernel) (by decide +kernel)
set_option maxRecDepth 20000 in
theorem gX6_least_X6_stackAll : GoodIn wsX6_least (wsV RX6 91 RX6 yX6_stackAll wsX6_stackAll) := goodIn_app (goodIn_of _ (by decide +kernel)) ggX6_least_X6_stackAll
set_option maxRecDepth 20000 in
theorem ggX6_least_X3_leastTooMuch : GoodIn wsX6_least wsX3_leastTooMuch := goodIn_r _ [38, 39, 40, 41, 11, 42, 13, 43, 44, 45, 46, 14, 15, 16, 47, 48, 49, 18, 6, 19, 50, 51, 52, 53, 17, 54, 55, 56, 57, 58, 26, 27, 28, 82, 83, 84, 85, 86, 87, 88, 89] (by decide +kernel) (by decide +kernel)
set_option maxRecDepth 20000 in
theorem gX6_least_X3_leastTooMuch : GoodIn wsX6_least (wsV RX6 160 RX3 yX3_leastTooMuch wsX3_leastTooMuch) := goodIn_app (goodIn_of _ (by decide +kernel)) ggX6_least_X3_leastTooMuch
set_option maxRecDepth 20000 in
theorem ggX6_least_X3_firstToBreak : GoodIn wsX6_least wsX3_firstToBreak := goodIn_r _ [42, 13, 43, 44, 45, 11, 46, 14, 15, 16, 47, 48, 49, 18, 6, 19, 50, 51, 52, 53, 17, 54, 55, 56, 57, 58, 26, 27, 28, 82, 83, 84, 85, 86, 87, 88, 89] (by decide +kernel) (by decide +kernel)
set_option maxRecDepth 20000 in
theorem gX6_least_X3_firstToBreak : GoodIn wsX6_least (wsV RX6 163 RX3 yX3_firstToBreak wsX3_firstToBreak) := goodIn_app (goodIn_of _ (by decide +kernel)) ggX6_least_X3_firstToBreak
set_option maxRecDepth 20000 in
theorem ggX6_least_J6_bitCount_0f7a4 : GoodIn wsX6_least wsJ6_bitCount_0f7a4 := goodIn_r _ [63, 64, 65, 66] (by decide +kernel) (by decide +kernel)
set_option maxRecDepth 20000 in
theorem gX6_least_J6_bitCount_0f7a4 : GoodIn wsX6_least (va_wsS RX6 99 yJ6_bitCount_0f7a4 wsJ6_bitCount_0f7a4) := goodIn_app (goodIn_of _ (by decide +kernel)) ggX6_least_J6_bitCount_0f7a4
set_option maxRecDepth 20000 in
theorem ggX6_least_X3_wholeAfter : GoodIn wsX6_least wsX3_wholeAfter := goodIn_r _ [70, 14, 39, 40, 41, 11, 42, 13, 43, 44, 45, 46, 15, 16, 47, 48, 49, 18, 6, 19, 50, 51, 52, 53, 17, 54, 55, 56, 57, 58, 26, 27, 28, 82, 83, 84, 85, 86, 87, 88, 89] (by decide +kernel) (by decide +kernel)
set_option maxRecDepth 20000 in
theorem gX6_least_X3_wholeAfter : GoodIn wsX6_least (wsV RX6 95 RX3 yX3_wholeAfter wsX3_wholeAfter) := goodIn_app (goodIn_of _ (by decide +kernel)) ggX6_least_X3_wholeAfter
theorem dX6_least_0 : decode cX6_least 0 = .ok (.iload_n 1, 1) := by decide +kernel
theorem dX6_least_1 : decode cX6_least 1 = .ok (.ifCond .lt 8, 3) := by decide +kernel
theorem dX6_least_4 : decode cX6_least 4 = .ok (.iload_n 1, 1) := by decide +kernel
theorem dX6_least_5 : decode cX6_least 5 = .ok (.iconst 2, 1) := by decide +kernel
theorem dX6_least_6 : decode cX6_least 6 = .ok (.if_icmp .le 5, 3) := by decide +kernel
theorem dX6_least_9 : decode cX6_least 9 = .ok (.iconst (-1), 1) := by decide +kernel
theorem dX6_least_10 : decode cX6_least 10 = .ok (.ireturn, 1) := by decide +kernel
theorem dX6_least_11 : decode cX6_least 11 = .ok (.aload_n 0, 1) := by decide +kernel
theorem dX6_least_12 : decode cX6_least 12 = .ok (.aload_n 0, 1) := by decide +kernel
theorem dX6_least_13 : decode cX6_least 13 = .ok (.getfield 12, 3) := by decide +kernel
theorem dX6_least_16 : decode cX6_least 16 = .ok (.getfield 88, 3) := by decide +kernel
theorem dX6_least_19 : decode cX6_least 19 = .ok (.invokevirtual 91, 3) := by decide +kernel
theorem dX6_least_22 : decode cX6_least 22 = .ok (.aload_n 0, 1) := by decide +kernel
theorem dX6_least_23 : decode cX6_least 23 = .ok (.getfield 50, 3) := by decide +kernel
theorem dX6_least_26 : decode cX6_least 26 = .ok (.invokevirtual 160, 3) := by decide +kernel
theorem dX6_least_29 : decode cX6_least 29 = .ok (.istore_n 2, 1) := by decide +kernel
theorem dX6_least_30 : decode cX6_least 30 = .ok (.iload_n 2, 1) := by decide +kernel
theorem dX6_least_31 : decode cX6_least 31 = .ok (.sipush 999, 3) := by decide +kernel
theorem dX6_least_34 : decode cX6_least 34 = .ok (.if_icmp .le 6, 3) := by decide +kernel
theorem dX6_least_37 : decode cX6_least 37 = .ok (.bipush (-9), 2) := by decide +kernel
theorem dX6_least_39 : decode cX6_least 39 = .ok (.ireturn, 1) := by decide +kernel
theorem dX6_least_40 : decode cX6_least 40 = .ok (.iload_n 1, 1) := by decide +kernel
theorem dX6_least_41 : decode cX6_least 41 = .ok (.ifCond .ne 5, 3) := by decide +kernel
theorem dX6_least_44 : decode cX6_least 44 = .ok (.iload_n 2, 1) := by decide +kernel
theorem dX6_least_45 : decode cX6_least 45 = .ok (.ireturn, 1) := by decide +kernel
theorem dX6_least_46 : decode cX6_least 46 = .ok (.iload_n 1, 1) := by decide +kernel
theorem dX6_least_47 : decode cX6_least 47 = .ok (.iconst 1, 1) := by decide +kernel
theorem dX6_least_48 : decode cX6_least 48 = .ok (.if_icmp .ne 12, 3) := by decide +kernel
theorem dX6_least_51 : decode cX6_least 51 = .ok (.aload_n 0, 1) := by decide +kernel
theorem dX6_least_52 : decode cX6_least 52 = .ok (.getfield 50, 3) := by decide +kernel
theorem dX6_least_55 : decode cX6_least 55 = .ok (.iload_n 2, 1) := by decide +kernel
theorem dX6_least_56 : decode cX6_least 56 = .ok (.invokevirtual 163, 3) := by decide +kernel
theorem dX6_least_59 : decode cX6_least 59 = .ok (.ireturn, 1) := by decide +kernel
theorem dX6_least_60 : decode cX6_least 60 = .ok (.aload_n 0, 1) := by decide +kernel
theorem dX6_least_61 : decode cX6_least 61 = .ok (.getfield 12, 3) := by decide +kernel
theorem dX6_least_64 : decode cX6_least 64 = .ok (.getfield 88, 3) := by decide +kernel
theorem dX6_least_67 : decode cX6_least 67 = .ok (.invokestatic 99, 3) := by decide +kernel
theorem dX6_least_70 : decode cX6_least 70 = .ok (.aload_n 0, 1) := by decide +kernel
theorem dX6_least_71 : decode cX6_least 71 = .ok (.getfield 50, 3) := by decide +kernel
theorem dX6_least_74 : decode cX6_least 74 = .ok (.iload_n 2, 1) := by decide +kernel
theorem dX6_least_75 : decode cX6_least 75 = .ok (.invokevirtual 95, 3) := by decide +kernel
theorem dX6_least_78 : decode cX6_least 78 = .ok (.invokestatic 99, 3) := by decide +kernel
theorem dX6_least_81 : decode cX6_least 81 = .ok (.isub, 1) := by decide +kernel
theorem dX6_least_82 : decode cX6_least 82 = .ok (.ireturn, 1) := by decide +kernel
set_option maxRecDepth 20000 in
theorem ggX6_knee_X6_stackAll : GoodIn wsX6_knee wsX6_stackAll := goodIn_r _ [7, 2, 1, 8, 9, 10, 11, 12, 13, 14, 15, 16, 17, 18, 6, 19, 20, 21, 22, 23, 24, 25, 26, 27, 28, 29, 30, 31, 32, 33, 34, 45, 46, 47, 48, 49, 50, 51, 52, 53, 54, 55, 56, 57, 58, 59, 60, 61, 62, 63] (by decide +kernel) (by decide +kernel)
set_option maxRecDepth 20000 in
theorem gX6_knee_X6_stackAll : GoodIn wsX6_knee (wsV RX6 91 RX6 yX6_stackAll wsX6_stackAll) := goodIn_app (goodIn_of _ (by decide +kernel)) ggX6_knee_X6_stackAll
set_option maxRecDepth 20000 in
theorem ggX6_knee_X2_isWhole : GoodIn wsX6_knee wsX2_isWhole := goodIn_r _ [38, 39, 18, 6, 19, 53, 54, 55] (by decide +kernel) (by decide +kernel)
set_option maxRecDepth 20000 in
theorem gX6_knee_X2_isWhole : GoodIn wsX6_knee (wsV RX6 107 RX2 yX2_isWhole wsX2_isWhole) := goodIn_app (goodIn_of _ (by decide +kernel)) ggX6_knee_X2_isWhole
set_option maxRecDepth 20000 in
theorem ggX6_knee_X3_loadAt : GoodIn wsX6_knee wsX3_loadAt := goodIn_r _ [43, 13, 14, 16, 15, 44, 26, 27, 28, 18, 6, 19, 56, 57, 58, 59, 60, 61, 62, 63] (by decide +kernel) (by decide +kernel)
set_option maxRecDepth 20000 in
theorem gX6_knee_X3_loadAt : GoodIn wsX6_knee (wsV RX6 166 RX3 yX3_loadAt wsX3_loadAt) := goodIn_app (goodIn_of _ (by decide +kernel)) ggX6_knee_X3_loadAt
theorem dX6_knee_0 : decode cX6_knee 0 = .ok (.iload_n 1, 1) := by decide +kernel
theorem dX6_knee_1 : decode cX6_knee 1 = .ok (.iconst (-1), 1) := by decide +kernel
theorem dX6_knee_2 : decode cX6_knee 2 = .ok (.if_icmp .ge 5, 3) := by decide +kernel
theorem dX6_knee_5 : decode cX6_knee 5 = .ok (.iconst (-1), 1) := by decide +kernel
theorem dX6_knee_6 : decode cX6_knee 6 = .ok (.ireturn, 1) := by decide +kernel
theorem dX6_knee_7 : decode cX6_knee 7 = .ok (.aload_n 0, 1) := by decide +kernel
theorem dX6_knee_8 : decode cX6_knee 8 = .ok (.aload_n 0, 1) := by decide +kernel
theorem dX6_knee_9 : decode cX6_knee 9 = .ok (.getfield 12, 3) := by decide +kernel
theorem dX6_knee_12 : decode cX6_knee 12 = .ok (.getfield 88, 3) := by decide +kernel
theorem dX6_knee_15 : decode cX6_knee 15 = .ok (.invokevirtual 91, 3) := by decide +kernel
theorem dX6_knee_18 : decode cX6_knee 18 = .ok (.iconst 0, 1) := by decide +kernel
theorem dX6_knee_19 : decode cX6_knee 19 = .ok (.istore_n 2, 1) := by decide +kernel
theorem dX6_knee_20 : decode cX6_knee 20 = .ok (.iconst 0, 1) := by decide +kernel
theorem dX6_knee_21 : decode cX6_knee 21 = .ok (.istore_n 3, 1) := by decide +kernel
theorem dX6_knee_22 : decode cX6_knee 22 = .ok (.iconst 0, 1) := by decide +kernel
theorem dX6_knee_23 : decode cX6_knee 23 = .ok (.istore 4, 2) := by decide +kernel
theorem dX6_knee_25 : decode cX6_knee 25 = .ok (.iload 4, 2) := by decide +kernel
theorem dX6_knee_27 : decode cX6_knee 27 = .ok (.aload_n 0, 1) := by decide +kernel
theorem dX6_knee_28 : decode cX6_knee 28 = .ok (.getfield 12, 3) := by decide +kernel
theorem dX6_knee_31 : decode cX6_knee 31 = .ok (.getfield 84, 3) := by decide +kernel
theorem dX6_knee_34 : decode cX6_knee 34 = .ok (.if_icmp .ge 64, 3) := by decide +kernel
theorem dX6_knee_37 : decode cX6_knee 37 = .ok (.aload_n 0, 1) := by decide +kernel
theorem dX6_knee_38 : decode cX6_knee 38 = .ok (.getfield 12, 3) := by decide +kernel
theorem dX6_knee_41 : decode cX6_knee 41 = .ok (.iload 4, 2) := by decide +kernel
theorem dX6_knee_43 : decode cX6_knee 43 = .ok (.invokevirtual 107, 3) := by decide +kernel
theorem dX6_knee_46 : decode cX6_knee 46 = .ok (.ifCond .eq 23, 3) := by decide +kernel
theorem dX6_knee_49 : decode cX6_knee 49 = .ok (.aload_n 0, 1) := by decide +kernel
theorem dX6_knee_50 : decode cX6_knee 50 = .ok (.getfield 50, 3) := by decide +kernel
theorem dX6_knee_53 : decode cX6_knee 53 = .ok (.aload_n 0, 1) := by decide +kernel
theorem dX6_knee_54 : decode cX6_knee 54 = .ok (.getfield 50, 3) := by decide +kernel
theorem dX6_knee_57 : decode cX6_knee 57 = .ok (.getfield 132, 3) := by decide +kernel
theorem dX6_knee_60 : decode cX6_knee 60 = .ok (.iload 4, 2) := by decide +kernel
theorem dX6_knee_62 : decode cX6_knee 62 = .ok (.iaload, 1) := by decide +kernel
theorem dX6_knee_63 : decode cX6_knee 63 = .ok (.invokevirtual 166, 3) := by decide +kernel
theorem dX6_knee_66 : decode cX6_knee 66 = .ok (.goto 4, 3) := by decide +kernel
theorem dX6_knee_69 : decode cX6_knee 69 = .ok (.iconst 0, 1) := by decide +kernel
theorem dX6_knee_70 : decode cX6_knee 70 = .ok (.istore 5, 2) := by decide +kernel
theorem dX6_knee_72 : decode cX6_knee 72 = .ok (.iload 5, 2) := by decide +kernel
theorem dX6_knee_74 : decode cX6_knee 74 = .ok (.iload_n 3, 1) := by decide +kernel
theorem dX6_knee_75 : decode cX6_knee 75 = .ok (.if_icmp .le 17, 3) := by decide +kernel
theorem dX6_knee_78 : decode cX6_knee 78 = .ok (.iload_n 2, 1) := by decide +kernel
theorem dX6_knee_79 : decode cX6_knee 79 = .ok (.iload_n 1, 1) := by decide +kernel
theorem dX6_knee_80 : decode cX6_knee 80 = .ok (.if_icmp .ne 6, 3) := by decide +kernel
theorem dX6_knee_83 : decode cX6_knee 83 = .ok (.iload 5, 2) := by decide +kernel
theorem dX6_knee_85 : decode cX6_knee 85 = .ok (.ireturn, 1) := by decide +kernel
theorem dX6_knee_86 : decode cX6_knee 86 = .ok (.iinc 2 1, 3) := by decide +kernel
theorem dX6_knee_89 : decode cX6_knee 89 = .ok (.iload 5, 2) := by decide +kernel
theorem dX6_knee_91 : decode cX6_knee 91 = .ok (.istore_n 3, 1) := by decide +kernel
theorem dX6_knee_92 : decode cX6_knee 92 = .ok (.iinc 4 1, 3) := by decide +kernel
theorem dX6_knee_95 : decode cX6_knee 95 = .ok (.goto (-70), 3) := by decide +kernel
theorem dX6_knee_98 : decode cX6_knee 98 = .ok (.iload_n 1, 1) := by decide +kernel
theorem dX6_knee_99 : decode cX6_knee 99 = .ok (.iconst (-1), 1) := by decide +kernel
theorem dX6_knee_100 : decode cX6_knee 100 = .ok (.if_icmp .ne 7, 3) := by decide +kernel
theorem dX6_knee_103 : decode cX6_knee 103 = .ok (.iload_n 2, 1) := by decide +kernel
theorem dX6_knee_104 : decode cX6_knee 104 = .ok (.goto 5, 3) := by decide +kernel
theorem dX6_knee_107 : decode cX6_knee 107 = .ok (.bipush (-9), 2) := by decide +kernel
theorem dX6_knee_109 : decode cX6_knee 109 = .ok (.ireturn, 1) := by decide +kernel
set_option maxRecDepth 20000 in
theorem ggX6_chosen_X6_isLoad : GoodIn wsX6_chosen wsX6_isLoad := goodIn_r _ [4] (by decide +kernel) (by decide +kernel)
set_option maxRecDepth 20000 in
theorem gX6_chosen_X6_isLoad : GoodIn wsX6_chosen (va_wsS RX6 85 yX6_isLoad wsX6_isLoad) := goodIn_app (goodIn_of _ (by decide +kernel)) ggX6_chosen_X6_isLoad
set_option maxRecDepth 20000 in
theorem ggX6_chosen_X6_fewestThatHold : GoodIn wsX6_chosen wsX6_fewestThatHold := goodIn_r _ [8, 9, 10, 11, 12, 13, 14, 15, 16, 17, 18, 19, 20, 21, 22, 23, 24, 25, 26, 27, 28, 3, 29, 30, 31, 32, 33, 34, 35, 36, 37, 38, 39, 40, 41, 42, 43, 44, 45, 46, 47, 48, 49, 50, 51, 52, 53, 54, 55, 56, 57, 58, 59, 60, 61, 62, 63, 64, 65, 66, 67, 68, 69, 70, 71, 72, 73, 74, 75, 76, 77, 78, 79, 80, 81, 82, 83, 84, 85, 86, 87] (by decide +kernel) (by decide +kernel)
set_option maxRecDepth 20000 in
theorem gX6_chosen_X6_fewestThatHold : GoodIn wsX6_chosen (wsV RX6 169 RX6 yX6_fewestThatHold wsX6_fewestThatHold) := goodIn_app (goodIn_of _ (by decide +kernel)) ggX6_chosen_X6_fewestThatHold
set_option maxRecDepth 20000 in
theorem ggX6_chosen_J6_bitCount_0f7a4 : GoodIn wsX6_chosen wsJ6_bitCount_0f7a4 := goodIn_r _ [14, 15, 16, 17] (by decide +kernel) (by decide +kernel)
set_option maxRecDepth 20000 in
theorem gX6_chosen_J6_bitCount_0f7a4 : GoodIn wsX6_chosen (va_wsS RX6 99 yJ6_bitCount_0f7a4 wsJ6_bitCount_0f7a4) := goodIn_app (goodIn_of _ (by decide +kernel)) ggX6_chosen_J6_bitCount_0f7a4
theorem dX6_chosen_0 : decode cX6_chosen 0 = .ok (.iload_n 1, 1) := by decide +kernel
theorem dX6_chosen_1 : decode cX6_chosen 1 = .ok (.invokestatic 85, 3) := by decide +kernel
theorem dX6_chosen_4 : decode cX6_chosen 4 = .ok (.ifCond .eq 22, 3) := by decide +kernel
theorem dX6_chosen_7 : decode cX6_chosen 7 = .ok (.iload_n 2, 1) := by decide +kernel
theorem dX6_chosen_8 : decode cX6_chosen 8 = .ok (.ifCond .lt 18, 3) := by decide +kernel
theorem dX6_chosen_11 : decode cX6_chosen 11 = .ok (.iload_n 2, 1) := by decide +kernel
theorem dX6_chosen_12 : decode cX6_chosen 12 = .ok (.bipush 99, 2) := by decide +kernel
theorem dX6_chosen_14 : decode cX6_chosen 14 = .ok (.if_icmp .gt 12, 3) := by decide +kernel
theorem dX6_chosen_17 : decode cX6_chosen 17 = .ok (.iload_n 3, 1) := by decide +kernel
theorem dX6_chosen_18 : decode cX6_chosen 18 = .ok (.ifCond .lt 8, 3) := by decide +kernel
theorem dX6_chosen_21 : decode cX6_chosen 21 = .ok (.iload_n 3, 1) := by decide +kernel
theorem dX6_chosen_22 : decode cX6_chosen 22 = .ok (.iconst 1, 1) := by decide +kernel
theorem dX6_chosen_23 : decode cX6_chosen 23 = .ok (.if_icmp .le 5, 3) := by decide +kernel
theorem dX6_chosen_26 : decode cX6_chosen 26 = .ok (.iconst (-1), 1) := by decide +kernel
theorem dX6_chosen_27 : decode cX6_chosen 27 = .ok (.ireturn, 1) := by decide +kernel
theorem dX6_chosen_28 : decode cX6_chosen 28 = .ok (.aload_n 0, 1) := by decide +kernel
theorem dX6_chosen_29 : decode cX6_chosen 29 = .ok (.iload_n 1, 1) := by decide +kernel
theorem dX6_chosen_30 : decode cX6_chosen 30 = .ok (.iload_n 2, 1) := by decide +kernel
theorem dX6_chosen_31 : decode cX6_chosen 31 = .ok (.invokevirtual 169, 3) := by decide +kernel
theorem dX6_chosen_34 : decode cX6_chosen 34 = .ok (.istore 4, 2) := by decide +kernel
theorem dX6_chosen_36 : decode cX6_chosen 36 = .ok (.iload 4, 2) := by decide +kernel
theorem dX6_chosen_38 : decode cX6_chosen 38 = .ok (.ifCond .ne 6, 3) := by decide +kernel
theorem dX6_chosen_41 : decode cX6_chosen 41 = .ok (.bipush (-9), 2) := by decide +kernel
theorem dX6_chosen_43 : decode cX6_chosen 43 = .ok (.ireturn, 1) := by decide +kernel
theorem dX6_chosen_44 : decode cX6_chosen 44 = .ok (.iload_n 3, 1) := by decide +kernel
theorem dX6_chosen_45 : decode cX6_chosen 45 = .ok (.ifCond .ne 11, 3) := by decide +kernel
theorem dX6_chosen_48 : decode cX6_chosen 48 = .ok (.iload 4, 2) := by decide +kernel
theorem dX6_chosen_50 : decode cX6_chosen 50 = .ok (.invokestatic 99, 3) := by decide +kernel
theorem dX6_chosen_53 : decode cX6_chosen 53 = .ok (.goto 5, 3) := by decide +kernel
theorem dX6_chosen_56 : decode cX6_chosen 56 = .ok (.iload 4, 2) := by decide +kernel
theorem dX6_chosen_58 : decode cX6_chosen 58 = .ok (.ireturn, 1) := by decide +kernel
set_option maxRecDepth 20000 in
theorem ggX6_sees_X6_isLoad : GoodIn wsX6_sees wsX6_isLoad := goodIn_r _ [5] (by decide +kernel) (by decide +kernel)
set_option maxRecDepth 20000 in
theorem gX6_sees_X6_isLoad : GoodIn wsX6_sees (va_wsS RX6 85 yX6_isLoad wsX6_isLoad) := goodIn_app (goodIn_of _ (by decide +kernel)) ggX6_sees_X6_isLoad
set_option maxRecDepth 20000 in
theorem ggX6_sees_X4_append : GoodIn wsX6_sees wsX4_append := goodIn_r _ [10, 11, 12, 13, 22, 23, 24] (by decide +kernel) (by decide +kernel)
set_option maxRecDepth 20000 in
theorem gX6_sees_X4_append : GoodIn wsX6_sees (wsV RX6 172 RX4 yX4_append wsX4_append) := goodIn_app (goodIn_of _ (by decide +kernel)) ggX6_sees_X4_append
theorem dX6_sees_0 : decode cX6_sees 0 = .ok (.iload_n 1, 1) := by decide +kernel
theorem dX6_sees_1 : decode cX6_sees 1 = .ok (.invokestatic 85, 3) := by decide +kernel
theorem dX6_sees_4 : decode cX6_sees 4 = .ok (.ifCond .eq 20, 3) := by decide +kernel
theorem dX6_sees_7 : decode cX6_sees 7 = .ok (.iload_n 2, 1) := by decide +kernel
theorem dX6_sees_8 : decode cX6_sees 8 = .ok (.bipush (-9), 2) := by decide +kernel
theorem dX6_sees_10 : decode cX6_sees 10 = .ok (.if_icmp .eq 16, 3) := by decide +kernel
theorem dX6_sees_13 : decode cX6_sees 13 = .ok (.iload_n 2, 1) := by decide +kernel
theorem dX6_sees_14 : decode cX6_sees 14 = .ok (.ifCond .lt 10, 3) := by decide +kernel
theorem dX6_sees_17 : decode cX6_sees 17 = .ok (.iload_n 2, 1) := by decide +kernel
theorem dX6_sees_18 : decode cX6_sees 18 = .ok (.sipush 9999, 3) := by decide +kernel
theorem dX6_sees_21 : decode cX6_sees 21 = .ok (.if_icmp .le 5, 3) := by decide +kernel
theorem dX6_sees_24 : decode cX6_sees 24 = .ok (.iconst (-1), 1) := by decide +kernel
theorem dX6_sees_25 : decode cX6_sees 25 = .ok (.ireturn, 1) := by decide +kernel
theorem dX6_sees_26 : decode cX6_sees 26 = .ok (.aload_n 0, 1) := by decide +kernel
theorem dX6_sees_27 : decode cX6_sees 27 = .ok (.getfield 43, 3) := by decide +kernel
theorem dX6_sees_30 : decode cX6_sees 30 = .ok (.iload_n 1, 1) := by decide +kernel
theorem dX6_sees_31 : decode cX6_sees 31 = .ok (.iload_n 2, 1) := by decide +kernel
theorem dX6_sees_32 : decode cX6_sees 32 = .ok (.invokevirtual 172, 3) := by decide +kernel
theorem dX6_sees_35 : decode cX6_sees 35 = .ok (.ifCond .eq 13, 3) := by decide +kernel
theorem dX6_sees_38 : decode cX6_sees 38 = .ok (.aload_n 0, 1) := by decide +kernel
theorem dX6_sees_39 : decode cX6_sees 39 = .ok (.getfield 43, 3) := by decide +kernel
theorem dX6_sees_42 : decode cX6_sees 42 = .ok (.getfield 175, 3) := by decide +kernel
theorem dX6_sees_45 : decode cX6_sees 45 = .ok (.goto 5, 3) := by decide +kernel
theorem dX6_sees_48 : decode cX6_sees 48 = .ok (.bipush (-3), 2) := by decide +kernel
theorem dX6_sees_50 : decode cX6_sees 50 = .ok (.ireturn, 1) := by decide +kernel
set_option maxRecDepth 20000 in
theorem ggX6_forget_X4_empty : GoodIn wsX6_forget wsX4_empty := goodIn_r _ [6, 7, 16, 17, 18] (by decide +kernel) (by decide +kernel)
set_option maxRecDepth 20000 in
theorem gX6_forget_X4_empty : GoodIn wsX6_forget (wsV RX6 81 RX4 yX4_empty wsX4_empty) := goodIn_app (goodIn_of _ (by decide +kernel)) ggX6_forget_X4_empty
theorem dX6_forget_0 : decode cX6_forget 0 = .ok (.aload_n 0, 1) := by decide +kernel
theorem dX6_forget_1 : decode cX6_forget 1 = .ok (.getfield 43, 3) := by decide +kernel
theorem dX6_forget_4 : decode cX6_forget 4 = .ok (.invokevirtual 81, 3) := by decide +kernel
theorem dX6_forget_7 : decode cX6_forget 7 = .ok (.ireturn, 1) := by decide +kernel
set_option maxRecDepth 20000 in
theorem ggX6_which_X6_suspects : GoodIn wsX6_which wsX6_suspects := goodIn_r _ [8, 2, 9, 10, 11, 12, 13, 14, 15, 16, 17, 7, 18, 19, 20, 21, 22, 23, 24, 25, 26, 27, 28, 29, 30, 31, 32, 33, 34, 35, 36, 37, 38, 39, 40, 41, 42, 43, 44, 45, 46, 47, 48, 49, 50, 51, 52, 53, 54, 55, 56, 57, 58, 59, 60, 61, 62, 63, 64, 65, 66, 67, 68, 69, 70, 71, 72, 73, 82, 83, 84, 85, 86, 87, 88, 89, 90, 91, 92, 93, 94, 95, 96, 97, 98, 99, 100, 101, 102, 103] (by decide +kernel) (by decide +kernel)
set_option maxRecDepth 20000 in
theorem gX6_which_X6_suspects : GoodIn wsX6_which (wsV RX6 177 RX6 yX6_suspects wsX6_suspects) := goodIn_app (goodIn_of _ (by decide +kernel)) ggX6_which_X6_suspects
set_option maxRecDepth 20000 in
theorem ggX6_which_J6_bitCount_0f7a4 : GoodIn wsX6_which wsJ6_bitCount_0f7a4 := goodIn_r _ [77, 78, 79, 80] (by decide +kernel) (by decide +kernel)
set_option maxRecDepth 20000 in
theorem gX6_which_J6_bitCount_0f7a4 : GoodIn wsX6_which (va_wsS RX6 99 yJ6_bitCount_0f7a4 wsJ6_bitCount_0f7a4) := goodIn_app (goodIn_of _ (by decide +kernel)) ggX6_which_J6_bitCount_0f7a4
set_option maxRecDepth 20000 in
theorem ggX6_which_X6_holds : GoodIn wsX6_which wsX6_holds := goodIn_r _ [18] (by decide +kernel) (by decide +kernel)
set_option maxRecDepth 20000 in
theorem gX6_which_X6_holds : GoodIn wsX6_which (va_wsS RX6 180 yX6_holds wsX6_holds) := goodIn_app (goodIn_of _ (by decide +kernel)) ggX6_which_X6_holds
theorem dX6_which_0 : decode cX6_which 0 = .ok (.iload_n 1, 1) := by decide +kernel
theorem dX6_which_1 : decode cX6_which 1 = .ok (.ifCond .lt 8, 3) := by decide +kernel
theorem dX6_which_4 : decode cX6_which 4 = .ok (.iload_n 1, 1) := by decide +kernel
theorem dX6_which_5 : decode cX6_which 5 = .ok (.iconst 1, 1) := by decide +kernel
theorem dX6_which_6 : decode cX6_which 6 = .ok (.if_icmp .le 6, 3) := by decide +kernel
theorem dX6_which_9 : decode cX6_which 9 = .ok (.ldc 176, 2) := by decide +kernel
theorem dX6_which_11 : decode cX6_which 11 = .ok (.ireturn, 1) := by decide +kernel
theorem dX6_which_12 : decode cX6_which 12 = .ok (.aload_n 0, 1) := by decide +kernel
theorem dX6_which_13 : decode cX6_which 13 = .ok (.invokevirtual 177, 3) := by decide +kernel
theorem dX6_which_16 : decode cX6_which 16 = .ok (.istore_n 2, 1) := by decide +kernel
theorem dX6_which_17 : decode cX6_which 17 = .ok (.iload_n 1, 1) := by decide +kernel
theorem dX6_which_18 : decode cX6_which 18 = .ok (.ifCond .ne 8, 3) := by decide +kernel
theorem dX6_which_21 : decode cX6_which 21 = .ok (.iload_n 2, 1) := by decide +kernel
theorem dX6_which_22 : decode cX6_which 22 = .ok (.invokestatic 99, 3) := by decide +kernel
theorem dX6_which_25 : decode cX6_which 25 = .ok (.ireturn, 1) := by decide +kernel
theorem dX6_which_26 : decode cX6_which 26 = .ok (.iconst 0, 1) := by decide +kernel
theorem dX6_which_27 : decode cX6_which 27 = .ok (.istore_n 3, 1) := by decide +kernel
theorem dX6_which_28 : decode cX6_which 28 = .ok (.iload_n 3, 1) := by decide +kernel
theorem dX6_which_29 : decode cX6_which 29 = .ok (.aload_n 0, 1) := by decide +kernel
theorem dX6_which_30 : decode cX6_which 30 = .ok (.getfield 12, 3) := by decide +kernel
theorem dX6_which_33 : decode cX6_which 33 = .ok (.getfield 84, 3) := by decide +kernel
theorem dX6_which_36 : decode cX6_which 36 = .ok (.if_icmp .gt 21, 3) := by decide +kernel
theorem dX6_which_39 : decode cX6_which 39 = .ok (.iload_n 2, 1) := by decide +kernel
theorem dX6_which_40 : decode cX6_which 40 = .ok (.iload_n 3, 1) := by decide +kernel
theorem dX6_which_41 : decode cX6_which 41 = .ok (.invokestatic 180, 3) := by decide +kernel
theorem dX6_which_44 : decode cX6_which 44 = .ok (.ifCond .eq 7, 3) := by decide +kernel
theorem dX6_which_47 : decode cX6_which 47 = .ok (.iload_n 3, 1) := by decide +kernel
theorem dX6_which_48 : decode cX6_which 48 = .ok (.iconst 1, 1) := by decide +kernel
theorem dX6_which_49 : decode cX6_which 49 = .ok (.isub, 1) := by decide +kernel
theorem dX6_which_50 : decode cX6_which 50 = .ok (.ireturn, 1) := by decide +kernel
theorem dX6_which_51 : decode cX6_which 51 = .ok (.iinc 3 1, 3) := by decide +kernel
theorem dX6_which_54 : decode cX6_which 54 = .ok (.goto (-26), 3) := by decide +kernel
theorem dX6_which_57 : decode cX6_which 57 = .ok (.ldc 183, 2) := by decide +kernel
theorem dX6_which_59 : decode cX6_which 59 = .ok (.ireturn, 1) := by decide +kernel
set_option maxRecDepth 20000 in
theorem ggX6_ask_X6_suspects : GoodIn wsX6_ask wsX6_suspects := goodIn_r _ [5, 6, 7, 8, 9, 10, 11, 12, 13, 14, 15, 4, 16, 17, 18, 19, 20, 21, 22, 23, 24, 25, 26, 27, 28, 29, 30, 31, 32, 33, 34, 35, 36, 37, 38, 39, 40, 41, 42, 43, 44, 45, 46, 47, 48, 49, 50, 51, 52, 53, 54, 55, 56, 57, 58, 59, 60, 61, 62, 63, 64, 65, 66, 67, 68, 69, 70, 71, 91, 92, 93, 94, 95, 96, 97, 98, 99, 100, 101, 102, 103, 104, 105, 106, 107, 108, 109, 110, 111, 112] (by decide +kernel) (by decide +kernel)
set_option maxRecDepth 20000 in
theorem gX6_ask_X6_suspects : GoodIn wsX6_ask (wsV RX6 177 RX6 yX6_suspects wsX6_suspects) := goodIn_app (goodIn_of _ (by decide +kernel)) ggX6_ask_X6_suspects
set_option maxRecDepth 20000 in
theorem ggX6_ask_J6_bitCount_0f7a4 : GoodIn wsX6_ask wsJ6_bitCount_0f7a4 := goodIn_r _ [75, 76, 77, 78] (by decide +kernel) (by decide +kernel)
set_option maxRecDepth 20000 in
theorem gX6_ask_J6_bitCount_0f7a4 : GoodIn wsX6_ask (va_wsS RX6 99 yJ6_bitCount_0f7a4 wsJ6_bitCount_0f7a4) := goodIn_app (goodIn_of _ (by decide +kernel)) ggX6_ask_J6_bitCount_0f7a4
set_option maxRecDepth 20000 in
theorem ggX6_ask_X6_mostAlike : GoodIn wsX6_ask wsX6_mostAlike := goodIn_r _ [82, 6, 83, 8, 84, 40, 41, 42, 85, 15, 4, 16, 17, 18, 19, 20, 21, 22, 23, 24, 25, 26, 27, 28, 29, 30, 31, 32, 33, 34, 35, 36, 37, 12, 38, 39, 43, 44, 45, 46, 47, 48, 86, 58, 59, 60, 61, 62, 63, 64, 65, 66, 67, 68, 69, 70, 71, 87, 88, 89, 90, 91, 92, 93, 94, 95, 96, 97, 98, 99, 100, 101, 102, 103, 104, 105, 106, 107, 108, 109] (by decide +kernel) (by decide +kernel)
set_option maxRecDepth 20000 in
theorem gX6_ask_X6_mostAlike : GoodIn wsX6_ask (wsV RX6 184 RX6 yX6_mostAlike wsX6_mostAlike) := goodIn_app (goodIn_of _ (by decide +kernel)) ggX6_ask_X6_mostAlike
theorem dX6_ask_0 : decode cX6_ask 0 = .ok (.aload_n 0, 1) := by decide +kernel
theorem dX6_ask_1 : decode cX6_ask 1 = .ok (.invokevirtual 177, 3) := by decide +kernel
theorem dX6_ask_4 : decode cX6_ask 4 = .ok (.istore_n 1, 1) := by decide +kernel
theorem dX6_ask_5 : decode cX6_ask 5 = .ok (.iload_n 1, 1) := by decide +kernel
theorem dX6_ask_6 : decode cX6_ask 6 = .ok (.invokestatic 99, 3) := by decide +kernel
theorem dX6_ask_9 : decode cX6_ask 9 = .ok (.iconst 2, 1) := by decide +kernel
theorem dX6_ask_10 : decode cX6_ask 10 = .ok (.if_icmp .ge 6, 3) := by decide +kernel
theorem dX6_ask_13 : decode cX6_ask 13 = .ok (.bipush (-9), 2) := by decide +kernel
theorem dX6_ask_15 : decode cX6_ask 15 = .ok (.ireturn, 1) := by decide +kernel
theorem dX6_ask_16 : decode cX6_ask 16 = .ok (.bipush (-9), 2) := by decide +kernel
theorem dX6_ask_18 : decode cX6_ask 18 = .ok (.istore_n 2, 1) := by decide +kernel
theorem dX6_ask_19 : decode cX6_ask 19 = .ok (.bipush 10, 2) := by decide +kernel
theorem dX6_ask_21 : decode cX6_ask 21 = .ok (.istore_n 3, 1) := by decide +kernel
theorem dX6_ask_22 : decode cX6_ask 22 = .ok (.bipush 10, 2) := by decide +kernel
theorem dX6_ask_24 : decode cX6_ask 24 = .ok (.istore 4, 2) := by decide +kernel
theorem dX6_ask_26 : decode cX6_ask 26 = .ok (.iload 4, 2) := by decide +kernel
theorem dX6_ask_28 : decode cX6_ask 28 = .ok (.sipush 300, 3) := by decide +kernel
theorem dX6_ask_31 : decode cX6_ask 31 = .ok (.if_icmp .gt 30, 3) := by decide +kernel
theorem dX6_ask_34 : decode cX6_ask 34 = .ok (.aload_n 0, 1) := by decide +kernel
theorem dX6_ask_35 : decode cX6_ask 35 = .ok (.iload_n 1, 1) := by decide +kernel
theorem dX6_ask_36 : decode cX6_ask 36 = .ok (.iload 4, 2) := by decide +kernel
theorem dX6_ask_38 : decode cX6_ask 38 = .ok (.invokevirtual 184, 3) := by decide +kernel
theorem dX6_ask_41 : decode cX6_ask 41 = .ok (.istore 5, 2) := by decide +kernel
theorem dX6_ask_43 : decode cX6_ask 43 = .ok (.iload 5, 2) := by decide +kernel
theorem dX6_ask_45 : decode cX6_ask 45 = .ok (.iload_n 3, 1) := by decide +kernel
theorem dX6_ask_46 : decode cX6_ask 46 = .ok (.if_icmp .ge 9, 3) := by decide +kernel
theorem dX6_ask_49 : decode cX6_ask 49 = .ok (.iload 4, 2) := by decide +kernel
theorem dX6_ask_51 : decode cX6_ask 51 = .ok (.istore_n 2, 1) := by decide +kernel
theorem dX6_ask_52 : decode cX6_ask 52 = .ok (.iload 5, 2) := by decide +kernel
theorem dX6_ask_54 : decode cX6_ask 54 = .ok (.istore_n 3, 1) := by decide +kernel
theorem dX6_ask_55 : decode cX6_ask 55 = .ok (.iinc 4 10, 3) := by decide +kernel
theorem dX6_ask_58 : decode cX6_ask 58 = .ok (.goto (-32), 3) := by decide +kernel
theorem dX6_ask_61 : decode cX6_ask 61 = .ok (.iload_n 2, 1) := by decide +kernel
theorem dX6_ask_62 : decode cX6_ask 62 = .ok (.ireturn, 1) := by decide +kernel
set_option maxRecDepth 20000 in
theorem ggX6_keep_X1_put : GoodIn wsX6_keep wsX1_put := goodIn_r _ [7, 8, 9, 10, 11, 12, 13, 14, 15, 16, 17, 18, 19, 20, 21, 33, 34, 30, 31, 32] (by decide +kernel) (by decide +kernel)
set_option maxRecDepth 20000 in
theorem gX6_keep_X1_put : GoodIn wsX6_keep (wsV RX6 187 RX1 yX1_put wsX1_put) := goodIn_app (goodIn_of _ (by decide +kernel)) ggX6_keep_X1_put
theorem dX6_keep_0 : decode cX6_keep 0 = .ok (.iload_n 1, 1) := by decide +kernel
theorem dX6_keep_1 : decode cX6_keep 1 = .ok (.ifCond .lt 8, 3) := by decide +kernel
theorem dX6_keep_4 : decode cX6_keep 4 = .ok (.iload_n 1, 1) := by decide +kernel
theorem dX6_keep_5 : decode cX6_keep 5 = .ok (.iconst 2, 1) := by decide +kernel
theorem dX6_keep_6 : decode cX6_keep 6 = .ok (.if_icmp .lt 5, 3) := by decide +kernel
theorem dX6_keep_9 : decode cX6_keep 9 = .ok (.iconst (-1), 1) := by decide +kernel
theorem dX6_keep_10 : decode cX6_keep 10 = .ok (.ireturn, 1) := by decide +kernel
theorem dX6_keep_11 : decode cX6_keep 11 = .ok (.aload_n 0, 1) := by decide +kernel
theorem dX6_keep_12 : decode cX6_keep 12 = .ok (.getfield 36, 3) := by decide +kernel
theorem dX6_keep_15 : decode cX6_keep 15 = .ok (.iload_n 1, 1) := by decide +kernel
theorem dX6_keep_16 : decode cX6_keep 16 = .ok (.aload_n 0, 1) := by decide +kernel
theorem dX6_keep_17 : decode cX6_keep 17 = .ok (.getfield 12, 3) := by decide +kernel
theorem dX6_keep_20 : decode cX6_keep 20 = .ok (.invokevirtual 187, 3) := by decide +kernel
theorem dX6_keep_23 : decode cX6_keep 23 = .ok (.aload_n 0, 1) := by decide +kernel
theorem dX6_keep_24 : decode cX6_keep 24 = .ok (.getfield 12, 3) := by decide +kernel
theorem dX6_keep_27 : decode cX6_keep 27 = .ok (.getfield 84, 3) := by decide +kernel
theorem dX6_keep_30 : decode cX6_keep 30 = .ok (.ireturn, 1) := by decide +kernel
set_option maxRecDepth 20000 in
theorem ggX6_back_X1_getInto : GoodIn wsX6_back wsX1_getInto := goodIn_r _ [8, 9, 10, 11, 12, 13, 14, 15, 16, 17, 18, 19, 20, 21, 22, 23, 24, 25, 43, 44, 40, 41, 42] (by decide +kernel) (by decide +kernel)
set_option maxRecDepth 20000 in
theorem gX6_back_X1_getInto : GoodIn wsX6_back (wsV RX6 190 RX1 yX1_getInto wsX1_getInto) := goodIn_app (goodIn_of _ (by decide +kernel)) ggX6_back_X1_getInto
set_option maxRecDepth 20000 in
theorem ggX6_back_X0_empty : GoodIn wsX6_back wsX0_empty := goodIn_r _ [30, 31, 45, 46, 47] (by decide +kernel) (by decide +kernel)
set_option maxRecDepth 20000 in
theorem gX6_back_X0_empty : GoodIn wsX6_back (wsV RX6 194 RX0 yX0_empty wsX0_empty) := goodIn_app (goodIn_of _ (by decide +kernel)) ggX6_back_X0_empty
theorem dX6_back_0 : decode cX6_back 0 = .ok (.iload_n 1, 1) := by decide +kernel
theorem dX6_back_1 : decode cX6_back 1 = .ok (.ifCond .lt 8, 3) := by decide +kernel
theorem dX6_back_4 : decode cX6_back 4 = .ok (.iload_n 1, 1) := by decide +kernel
theorem dX6_back_5 : decode cX6_back 5 = .ok (.iconst 2, 1) := by decide +kernel
theorem dX6_back_6 : decode cX6_back 6 = .ok (.if_icmp .lt 5, 3) := by decide +kernel
theorem dX6_back_9 : decode cX6_back 9 = .ok (.iconst (-1), 1) := by decide +kernel
theorem dX6_back_10 : decode cX6_back 10 = .ok (.ireturn, 1) := by decide +kernel
theorem dX6_back_11 : decode cX6_back 11 = .ok (.aload_n 0, 1) := by decide +kernel
theorem dX6_back_12 : decode cX6_back 12 = .ok (.getfield 36, 3) := by decide +kernel
theorem dX6_back_15 : decode cX6_back 15 = .ok (.iload_n 1, 1) := by decide +kernel
theorem dX6_back_16 : decode cX6_back 16 = .ok (.aload_n 0, 1) := by decide +kernel
theorem dX6_back_17 : decode cX6_back 17 = .ok (.getfield 12, 3) := by decide +kernel
theorem dX6_back_20 : decode cX6_back 20 = .ok (.invokevirtual 190, 3) := by decide +kernel
theorem dX6_back_23 : decode cX6_back 23 = .ok (.ifCond .ne 6, 3) := by decide +kernel
theorem dX6_back_26 : decode cX6_back 26 = .ok (.bipush (-2), 2) := by decide +kernel
theorem dX6_back_28 : decode cX6_back 28 = .ok (.ireturn, 1) := by decide +kernel
theorem dX6_back_29 : decode cX6_back 29 = .ok (.aload_n 0, 1) := by decide +kernel
theorem dX6_back_30 : decode cX6_back 30 = .ok (.getfield 29, 3) := by decide +kernel
theorem dX6_back_33 : decode cX6_back 33 = .ok (.invokevirtual 194, 3) := by decide +kernel
theorem dX6_back_36 : decode cX6_back 36 = .ok (.aload_n 0, 1) := by decide +kernel
theorem dX6_back_37 : decode cX6_back 37 = .ok (.getfield 12, 3) := by decide +kernel
theorem dX6_back_40 : decode cX6_back 40 = .ok (.getfield 84, 3) := by decide +kernel
theorem dX6_back_43 : decode cX6_back 43 = .ok (.ireturn, 1) := by decide +kernel
set_option maxRecDepth 20000 in
theorem ggX6_count_J6_bitCount_0f7a4 : GoodIn wsX6_count wsJ6_bitCount_0f7a4 := goodIn_r _ [8, 9, 10, 11] (by decide +kernel) (by decide +kernel)
set_option maxRecDepth 20000 in
theorem gX6_count_J6_bitCount_0f7a4 : GoodIn wsX6_count (va_wsS RX6 99 yJ6_bitCount_0f7a4 wsJ6_bitCount_0f7a4) := goodIn_app (goodIn_of _ (by decide +kernel)) ggX6_count_J6_bitCount_0f7a4
set_option maxRecDepth 20000 in
theorem ggX6_count_X2_sum : GoodIn wsX6_count wsX2_sum := goodIn_r _ [16, 17, 18, 19, 20, 21, 22, 23, 15, 24, 25, 73, 74, 75] (by decide +kernel) (by decide +kernel)
set_option maxRecDepth 20000 in
theorem gX6_count_X2_sum : GoodIn wsX6_count (wsV RX6 195 RX2 yX2_sum wsX2_sum) := goodIn_app (goodIn_of _ (by decide +kernel)) ggX6_count_X2_sum
set_option maxRecDepth 20000 in
theorem ggX6_count_X6_leaf : GoodIn wsX6_count wsX6_leaf := goodIn_r _ [29, 1, 30, 31, 32, 33, 15, 34, 17, 35, 22, 23, 24, 25, 36, 37, 38, 39, 40, 18, 19, 20, 41, 42, 43, 44, 45, 46, 47, 48, 21, 49, 50, 51, 52, 53, 54, 55, 56, 57, 58, 59, 60, 61, 62, 63, 64, 65, 66, 67, 68, 69, 70, 71, 72, 73, 74, 75, 84, 85, 86, 87, 88, 89, 90, 91] (by decide +kernel) (by decide +kernel)
set_option maxRecDepth 20000 in
theorem gX6_count_X6_leaf : GoodIn wsX6_count (wsV RX6 198 RX6 yX6_leaf wsX6_leaf) := goodIn_app (goodIn_of _ (by decide +kernel)) ggX6_count_X6_leaf
theorem dX6_count_0 : decode cX6_count 0 = .ok (.iload_n 1, 1) := by decide +kernel
theorem dX6_count_1 : decode cX6_count 1 = .ok (.tableswitch 134 0 7 #[47, 55, 66, 82, 94, 110, 118, 126], 47) := by decide +kernel
theorem dX6_count_48 : decode cX6_count 48 = .ok (.aload_n 0, 1) := by decide +kernel
theorem dX6_count_49 : decode cX6_count 49 = .ok (.getfield 12, 3) := by decide +kernel
theorem dX6_count_52 : decode cX6_count 52 = .ok (.getfield 84, 3) := by decide +kernel
theorem dX6_count_55 : decode cX6_count 55 = .ok (.ireturn, 1) := by decide +kernel
theorem dX6_count_56 : decode cX6_count 56 = .ok (.aload_n 0, 1) := by decide +kernel
theorem dX6_count_57 : decode cX6_count 57 = .ok (.getfield 12, 3) := by decide +kernel
theorem dX6_count_60 : decode cX6_count 60 = .ok (.getfield 88, 3) := by decide +kernel
theorem dX6_count_63 : decode cX6_count 63 = .ok (.invokestatic 99, 3) := by decide +kernel
theorem dX6_count_66 : decode cX6_count 66 = .ok (.ireturn, 1) := by decide +kernel
theorem dX6_count_67 : decode cX6_count 67 = .ok (.aload_n 0, 1) := by decide +kernel
theorem dX6_count_68 : decode cX6_count 68 = .ok (.getfield 12, 3) := by decide +kernel
theorem dX6_count_71 : decode cX6_count 71 = .ok (.iconst 1, 1) := by decide +kernel
theorem dX6_count_72 : decode cX6_count 72 = .ok (.aload_n 0, 1) := by decide +kernel
theorem dX6_count_73 : decode cX6_count 73 = .ok (.getfield 12, 3) := by decide +kernel
theorem dX6_count_76 : decode cX6_count 76 = .ok (.getfield 88, 3) := by decide +kernel
theorem dX6_count_79 : decode cX6_count 79 = .ok (.invokevirtual 195, 3) := by decide +kernel
theorem dX6_count_82 : decode cX6_count 82 = .ok (.ireturn, 1) := by decide +kernel
theorem dX6_count_83 : decode cX6_count 83 = .ok (.aload_n 0, 1) := by decide +kernel
theorem dX6_count_84 : decode cX6_count 84 = .ok (.getfield 12, 3) := by decide +kernel
theorem dX6_count_87 : decode cX6_count 87 = .ok (.iconst 0, 1) := by decide +kernel
theorem dX6_count_88 : decode cX6_count 88 = .ok (.sipush 255, 3) := by decide +kernel
theorem dX6_count_91 : decode cX6_count 91 = .ok (.invokevirtual 195, 3) := by decide +kernel
theorem dX6_count_94 : decode cX6_count 94 = .ok (.ireturn, 1) := by decide +kernel
theorem dX6_count_95 : decode cX6_count 95 = .ok (.aload_n 0, 1) := by decide +kernel
theorem dX6_count_96 : decode cX6_count 96 = .ok (.aload_n 0, 1) := by decide +kernel
theorem dX6_count_97 : decode cX6_count 97 = .ok (.getfield 12, 3) := by decide +kernel
theorem dX6_count_100 : decode cX6_count 100 = .ok (.getfield 84, 3) := by decide +kernel
theorem dX6_count_103 : decode cX6_count 103 = .ok (.iconst 1, 1) := by decide +kernel
theorem dX6_count_104 : decode cX6_count 104 = .ok (.isub, 1) := by decide +kernel
theorem dX6_count_105 : decode cX6_count 105 = .ok (.bipush 6, 2) := by decide +kernel
theorem dX6_count_107 : decode cX6_count 107 = .ok (.invokevirtual 198, 3) := by decide +kernel
theorem dX6_count_110 : decode cX6_count 110 = .ok (.ireturn, 1) := by decide +kernel
theorem dX6_count_111 : decode cX6_count 111 = .ok (.aload_n 0, 1) := by decide +kernel
theorem dX6_count_112 : decode cX6_count 112 = .ok (.getfield 43, 3) := by decide +kernel
theorem dX6_count_115 : decode cX6_count 115 = .ok (.getfield 175, 3) := by decide +kernel
theorem dX6_count_118 : decode cX6_count 118 = .ok (.ireturn, 1) := by decide +kernel
theorem dX6_count_119 : decode cX6_count 119 = .ok (.aload_n 0, 1) := by decide +kernel
theorem dX6_count_120 : decode cX6_count 120 = .ok (.getfield 22, 3) := by decide +kernel
theorem dX6_count_123 : decode cX6_count 123 = .ok (.getfield 62, 3) := by decide +kernel
theorem dX6_count_126 : decode cX6_count 126 = .ok (.ireturn, 1) := by decide +kernel
theorem dX6_count_127 : decode cX6_count 127 = .ok (.aload_n 0, 1) := by decide +kernel
theorem dX6_count_128 : decode cX6_count 128 = .ok (.getfield 29, 3) := by decide +kernel
theorem dX6_count_131 : decode cX6_count 131 = .ok (.getfield 128, 3) := by decide +kernel
theorem dX6_count_134 : decode cX6_count 134 = .ok (.ireturn, 1) := by decide +kernel
theorem dX6_count_135 : decode cX6_count 135 = .ok (.iconst (-1), 1) := by decide +kernel
theorem dX6_count_136 : decode cX6_count 136 = .ok (.ireturn, 1) := by decide +kernel
theorem dX6_isLoad_0 : decode cX6_isLoad 0 = .ok (.iload_n 0, 1) := by decide +kernel
theorem dX6_isLoad_1 : decode cX6_isLoad 1 = .ok (.ifCond .lt 14, 3) := by decide +kernel
theorem dX6_isLoad_4 : decode cX6_isLoad 4 = .ok (.iload_n 0, 1) := by decide +kernel
theorem dX6_isLoad_5 : decode cX6_isLoad 5 = .ok (.sipush 999, 3) := by decide +kernel
theorem dX6_isLoad_8 : decode cX6_isLoad 8 = .ok (.if_icmp .gt 7, 3) := by decide +kernel
theorem dX6_isLoad_11 : decode cX6_isLoad 11 = .ok (.iconst 1, 1) := by decide +kernel
theorem dX6_isLoad_12 : decode cX6_isLoad 12 = .ok (.goto 4, 3) := by decide +kernel
theorem dX6_isLoad_15 : decode cX6_isLoad 15 = .ok (.iconst 0, 1) := by decide +kernel
theorem dX6_isLoad_16 : decode cX6_isLoad 16 = .ok (.ireturn, 1) := by decide +kernel
theorem dX6_holds_0 : decode cX6_holds 0 = .ok (.iload_n 0, 1) := by decide +kernel
theorem dX6_holds_1 : decode cX6_holds 1 = .ok (.iload_n 1, 1) := by decide +kernel
theorem dX6_holds_2 : decode cX6_holds 2 = .ok (.ishr, 1) := by decide +kernel
theorem dX6_holds_3 : decode cX6_holds 3 = .ok (.iconst 1, 1) := by decide +kernel
theorem dX6_holds_4 : decode cX6_holds 4 = .ok (.iand, 1) := by decide +kernel
theorem dX6_holds_5 : decode cX6_holds 5 = .ok (.ifCond .eq 7, 3) := by decide +kernel
theorem dX6_holds_8 : decode cX6_holds 8 = .ok (.iconst 1, 1) := by decide +kernel
theorem dX6_holds_9 : decode cX6_holds 9 = .ok (.goto 4, 3) := by decide +kernel
theorem dX6_holds_12 : decode cX6_holds 12 = .ok (.iconst 0, 1) := by decide +kernel
theorem dX6_holds_13 : decode cX6_holds 13 = .ok (.ireturn, 1) := by decide +kernel
set_option maxRecDepth 20000 in
theorem ggX6_stackAll_X3_stack : GoodIn wsX6_stackAll wsX3_stack := goodIn_r _ [7, 8, 9, 10, 11, 12, 13, 14, 15, 16, 17, 18, 19, 20, 21, 22, 23, 24, 25, 26, 27, 28, 29, 30, 39, 40, 41, 42, 43, 44, 45, 46, 47, 48, 49] (by decide +kernel) (by decide +kernel)
set_option maxRecDepth 20000 in
theorem gX6_stackAll_X3_stack : GoodIn wsX6_stackAll (wsV RX6 201 RX3 yX3_stack wsX3_stack) := goodIn_app (goodIn_of _ (by decide +kernel)) ggX6_stackAll_X3_stack
theorem dX6_stackAll_0 : decode cX6_stackAll 0 = .ok (.aload_n 0, 1) := by decide +kernel
theorem dX6_stackAll_1 : decode cX6_stackAll 1 = .ok (.getfield 50, 3) := by decide +kernel
theorem dX6_stackAll_4 : decode cX6_stackAll 4 = .ok (.aload_n 0, 1) := by decide +kernel
theorem dX6_stackAll_5 : decode cX6_stackAll 5 = .ok (.getfield 12, 3) := by decide +kernel
theorem dX6_stackAll_8 : decode cX6_stackAll 8 = .ok (.sipush 255, 3) := by decide +kernel
theorem dX6_stackAll_11 : decode cX6_stackAll 11 = .ok (.iload_n 1, 1) := by decide +kernel
theorem dX6_stackAll_12 : decode cX6_stackAll 12 = .ok (.invokevirtual 201, 3) := by decide +kernel
theorem dX6_stackAll_15 : decode cX6_stackAll 15 = .ok (.return_, 1) := by decide +kernel
set_option maxRecDepth 20000 in
theorem ggX6_partInLowestTerms_X6_greatestDivisor : GoodIn wsX6_partInLowestTerms wsX6_greatestDivisor := goodIn_r _ [4, 5, 6, 7, 8] (by decide +kernel) (by decide +kernel)
set_option maxRecDepth 20000 in
theorem gX6_partInLowestTerms_X6_greatestDivisor : GoodIn wsX6_partInLowestTerms (va_wsS RX6 205 yX6_greatestDivisor wsX6_greatestDivisor) := goodIn_app (goodIn_of _ (by decide +kernel)) ggX6_partInLowestTerms_X6_greatestDivisor
theorem dX6_partInLowestTerms_0 : decode cX6_partInLowestTerms 0 = .ok (.iload_n 0, 1) := by decide +kernel
theorem dX6_partInLowestTerms_1 : decode cX6_partInLowestTerms 1 = .ok (.iload_n 1, 1) := by decide +kernel
theorem dX6_partInLowestTerms_2 : decode cX6_partInLowestTerms 2 = .ok (.invokestatic 205, 3) := by decide +kernel
theorem dX6_partInLowestTerms_5 : decode cX6_partInLowestTerms 5 = .ok (.istore_n 3, 1) := by decide +kernel
theorem dX6_partInLowestTerms_6 : decode cX6_partInLowestTerms 6 = .ok (.iload_n 2, 1) := by decide +kernel
theorem dX6_partInLowestTerms_7 : decode cX6_partInLowestTerms 7 = .ok (.ifCond .ne 7, 3) := by decide +kernel
theorem dX6_partInLowestTerms_10 : decode cX6_partInLowestTerms 10 = .ok (.iload_n 0, 1) := by decide +kernel
theorem dX6_partInLowestTerms_11 : decode cX6_partInLowestTerms 11 = .ok (.goto 4, 3) := by decide +kernel
theorem dX6_partInLowestTerms_14 : decode cX6_partInLowestTerms 14 = .ok (.iload_n 1, 1) := by decide +kernel
theorem dX6_partInLowestTerms_15 : decode cX6_partInLowestTerms 15 = .ok (.iload_n 3, 1) := by decide +kernel
theorem dX6_partInLowestTerms_16 : decode cX6_partInLowestTerms 16 = .ok (.idiv, 1) := by decide +kernel
theorem dX6_partInLowestTerms_17 : decode cX6_partInLowestTerms 17 = .ok (.ireturn, 1) := by decide +kernel
theorem dX6_greatestDivisor_0 : decode cX6_greatestDivisor 0 = .ok (.iload_n 0, 1) := by decide +kernel
theorem dX6_greatestDivisor_1 : decode cX6_greatestDivisor 1 = .ok (.istore_n 2, 1) := by decide +kernel
theorem dX6_greatestDivisor_2 : decode cX6_greatestDivisor 2 = .ok (.iload_n 1, 1) := by decide +kernel
theorem dX6_greatestDivisor_3 : decode cX6_greatestDivisor 3 = .ok (.istore_n 3, 1) := by decide +kernel
theorem dX6_greatestDivisor_4 : decode cX6_greatestDivisor 4 = .ok (.iconst 0, 1) := by decide +kernel
theorem dX6_greatestDivisor_5 : decode cX6_greatestDivisor 5 = .ok (.istore 4, 2) := by decide +kernel
theorem dX6_greatestDivisor_7 : decode cX6_greatestDivisor 7 = .ok (.iload_n 3, 1) := by decide +kernel
theorem dX6_greatestDivisor_8 : decode cX6_greatestDivisor 8 = .ok (.ifCond .le 27, 3) := by decide +kernel
theorem dX6_greatestDivisor_11 : decode cX6_greatestDivisor 11 = .ok (.iload 4, 2) := by decide +kernel
theorem dX6_greatestDivisor_13 : decode cX6_greatestDivisor 13 = .ok (.sipush 1000, 3) := by decide +kernel
theorem dX6_greatestDivisor_16 : decode cX6_greatestDivisor 16 = .ok (.if_icmp .ge 19, 3) := by decide +kernel
theorem dX6_greatestDivisor_19 : decode cX6_greatestDivisor 19 = .ok (.iload_n 2, 1) := by decide +kernel
theorem dX6_greatestDivisor_20 : decode cX6_greatestDivisor 20 = .ok (.iload_n 3, 1) := by decide +kernel
theorem dX6_greatestDivisor_21 : decode cX6_greatestDivisor 21 = .ok (.irem, 1) := by decide +kernel
theorem dX6_greatestDivisor_22 : decode cX6_greatestDivisor 22 = .ok (.istore 5, 2) := by decide +kernel
theorem dX6_greatestDivisor_24 : decode cX6_greatestDivisor 24 = .ok (.iload_n 3, 1) := by decide +kernel
theorem dX6_greatestDivisor_25 : decode cX6_greatestDivisor 25 = .ok (.istore_n 2, 1) := by decide +kernel
theorem dX6_greatestDivisor_26 : decode cX6_greatestDivisor 26 = .ok (.iload 5, 2) := by decide +kernel
theorem dX6_greatestDivisor_28 : decode cX6_greatestDivisor 28 = .ok (.istore_n 3, 1) := by decide +kernel
theorem dX6_greatestDivisor_29 : decode cX6_greatestDivisor 29 = .ok (.iinc 4 1, 3) := by decide +kernel
theorem dX6_greatestDivisor_32 : decode cX6_greatestDivisor 32 = .ok (.goto (-25), 3) := by decide +kernel
theorem dX6_greatestDivisor_35 : decode cX6_greatestDivisor 35 = .ok (.iconst 1, 1) := by decide +kernel
theorem dX6_greatestDivisor_36 : decode cX6_greatestDivisor 36 = .ok (.iload_n 2, 1) := by decide +kernel
theorem dX6_greatestDivisor_37 : decode cX6_greatestDivisor 37 = .ok (.invokestatic 208, 3) := by decide +kernel
theorem dX6_greatestDivisor_40 : decode cX6_greatestDivisor 40 = .ok (.ireturn, 1) := by decide +kernel
set_option maxRecDepth 20000 in
theorem ggX6_fewestThatHold_J6_bitCount_0f7a4 : GoodIn wsX6_fewestThatHold wsJ6_bitCount_0f7a4 := goodIn_r _ [6, 7, 8, 9] (by decide +kernel) (by decide +kernel)
set_option maxRecDepth 20000 in
theorem gX6_fewestThatHold_J6_bitCount_0f7a4 : GoodIn wsX6_fewestThatHold (va_wsS RX6 99 yJ6_bitCount_0f7a4 wsJ6_bitCount_0f7a4) := goodIn_app (goodIn_of _ (by decide +kernel)) ggX6_fewestThatHold_J6_bitCount_0f7a4
set_option maxRecDepth 20000 in
theorem ggX6_fewestThatHold_X3_stack : GoodIn wsX6_fewestThatHold wsX3_stack := goodIn_r _ [14, 15, 16, 17, 18, 19, 20, 21, 22, 23, 24, 25, 26, 27, 28, 29, 30, 31, 32, 33, 34, 35, 36, 37, 70, 71, 72, 73, 74, 75, 76, 77, 78, 79, 80] (by decide +kernel) (by decide +kernel)
set_option maxRecDepth 20000 in
theorem gX6_fewestThatHold_X3_stack : GoodIn wsX6_fewestThatHold (wsV RX6 201 RX3 yX3_stack wsX3_stack) := goodIn_app (goodIn_of _ (by decide +kernel)) ggX6_fewestThatHold_X3_stack
set_option maxRecDepth 20000 in
theorem ggX6_fewestThatHold_X3_bearsWithin : GoodIn wsX6_fewestThatHold wsX3_bearsWithin := goodIn_r _ [41, 42, 43, 44, 45, 46, 13, 47, 15, 16, 17, 18, 48, 20, 21, 22, 49, 50, 51, 52, 53, 54, 55, 56, 19, 57, 58, 59, 60, 61, 29, 30, 31, 73, 74, 75, 76, 77, 78, 79, 80] (by decide +kernel) (by decide +kernel)
set_option maxRecDepth 20000 in
theorem gX6_fewestThatHold_X3_bearsWithin : GoodIn wsX6_fewestThatHold (wsV RX6 213 RX3 yX3_bearsWithin wsX3_bearsWithin) := goodIn_app (goodIn_of _ (by decide +kernel)) ggX6_fewestThatHold_X3_bearsWithin
theorem dX6_fewestThatHold_0 : decode cX6_fewestThatHold 0 = .ok (.aload_n 0, 1) := by decide +kernel
theorem dX6_fewestThatHold_1 : decode cX6_fewestThatHold 1 = .ok (.getfield 12, 3) := by decide +kernel
theorem dX6_fewestThatHold_4 : decode cX6_fewestThatHold 4 = .ok (.getfield 88, 3) := by decide +kernel
theorem dX6_fewestThatHold_7 : decode cX6_fewestThatHold 7 = .ok (.aload_n 0, 1) := by decide +kernel
theorem dX6_fewestThatHold_8 : decode cX6_fewestThatHold 8 = .ok (.getfield 12, 3) := by decide +kernel
theorem dX6_fewestThatHold_11 : decode cX6_fewestThatHold 11 = .ok (.getfield 88, 3) := by decide +kernel
theorem dX6_fewestThatHold_14 : decode cX6_fewestThatHold 14 = .ok (.ineg, 1) := by decide +kernel
theorem dX6_fewestThatHold_15 : decode cX6_fewestThatHold 15 = .ok (.iand, 1) := by decide +kernel
theorem dX6_fewestThatHold_16 : decode cX6_fewestThatHold 16 = .ok (.istore_n 3, 1) := by decide +kernel
theorem dX6_fewestThatHold_17 : decode cX6_fewestThatHold 17 = .ok (.iconst 0, 1) := by decide +kernel
theorem dX6_fewestThatHold_18 : decode cX6_fewestThatHold 18 = .ok (.istore 4, 2) := by decide +kernel
theorem dX6_fewestThatHold_20 : decode cX6_fewestThatHold 20 = .ok (.iconst 1, 1) := by decide +kernel
theorem dX6_fewestThatHold_21 : decode cX6_fewestThatHold 21 = .ok (.istore 5, 2) := by decide +kernel
theorem dX6_fewestThatHold_23 : decode cX6_fewestThatHold 23 = .ok (.iload 5, 2) := by decide +kernel
theorem dX6_fewestThatHold_25 : decode cX6_fewestThatHold 25 = .ok (.sipush 255, 3) := by decide +kernel
theorem dX6_fewestThatHold_28 : decode cX6_fewestThatHold 28 = .ok (.if_icmp .gt 92, 3) := by decide +kernel
theorem dX6_fewestThatHold_31 : decode cX6_fewestThatHold 31 = .ok (.iload 5, 2) := by decide +kernel
theorem dX6_fewestThatHold_33 : decode cX6_fewestThatHold 33 = .ok (.aload_n 0, 1) := by decide +kernel
theorem dX6_fewestThatHold_34 : decode cX6_fewestThatHold 34 = .ok (.getfield 12, 3) := by decide +kernel
theorem dX6_fewestThatHold_37 : decode cX6_fewestThatHold 37 = .ok (.getfield 88, 3) := by decide +kernel
theorem dX6_fewestThatHold_40 : decode cX6_fewestThatHold 40 = .ok (.iconst (-1), 1) := by decide +kernel
theorem dX6_fewestThatHold_41 : decode cX6_fewestThatHold 41 = .ok (.ixor, 1) := by decide +kernel
theorem dX6_fewestThatHold_42 : decode cX6_fewestThatHold 42 = .ok (.iand, 1) := by decide +kernel
theorem dX6_fewestThatHold_43 : decode cX6_fewestThatHold 43 = .ok (.ifCond .ne 14, 3) := by decide +kernel
theorem dX6_fewestThatHold_46 : decode cX6_fewestThatHold 46 = .ok (.iload 5, 2) := by decide +kernel
theorem dX6_fewestThatHold_48 : decode cX6_fewestThatHold 48 = .ok (.iload_n 3, 1) := by decide +kernel
theorem dX6_fewestThatHold_49 : decode cX6_fewestThatHold 49 = .ok (.iand, 1) := by decide +kernel
theorem dX6_fewestThatHold_50 : decode cX6_fewestThatHold 50 = .ok (.ifCond .eq 7, 3) := by decide +kernel
theorem dX6_fewestThatHold_53 : decode cX6_fewestThatHold 53 = .ok (.iconst 1, 1) := by decide +kernel
theorem dX6_fewestThatHold_54 : decode cX6_fewestThatHold 54 = .ok (.goto 4, 3) := by decide +kernel
theorem dX6_fewestThatHold_57 : decode cX6_fewestThatHold 57 = .ok (.iconst 0, 1) := by decide +kernel
theorem dX6_fewestThatHold_58 : decode cX6_fewestThatHold 58 = .ok (.istore 6, 2) := by decide +kernel
theorem dX6_fewestThatHold_60 : decode cX6_fewestThatHold 60 = .ok (.iload 6, 2) := by decide +kernel
theorem dX6_fewestThatHold_62 : decode cX6_fewestThatHold 62 = .ok (.ifCond .eq 52, 3) := by decide +kernel
theorem dX6_fewestThatHold_65 : decode cX6_fewestThatHold 65 = .ok (.iload 4, 2) := by decide +kernel
theorem dX6_fewestThatHold_67 : decode cX6_fewestThatHold 67 = .ok (.ifCond .eq 16, 3) := by decide +kernel
theorem dX6_fewestThatHold_70 : decode cX6_fewestThatHold 70 = .ok (.iload 5, 2) := by decide +kernel
theorem dX6_fewestThatHold_72 : decode cX6_fewestThatHold 72 = .ok (.invokestatic 99, 3) := by decide +kernel
theorem dX6_fewestThatHold_75 : decode cX6_fewestThatHold 75 = .ok (.iload 4, 2) := by decide +kernel
theorem dX6_fewestThatHold_77 : decode cX6_fewestThatHold 77 = .ok (.invokestatic 99, 3) := by decide +kernel
theorem dX6_fewestThatHold_80 : decode cX6_fewestThatHold 80 = .ok (.if_icmp .ge 34, 3) := by decide +kernel
theorem dX6_fewestThatHold_83 : decode cX6_fewestThatHold 83 = .ok (.aload_n 0, 1) := by decide +kernel
theorem dX6_fewestThatHold_84 : decode cX6_fewestThatHold 84 = .ok (.getfield 50, 3) := by decide +kernel
theorem dX6_fewestThatHold_87 : decode cX6_fewestThatHold 87 = .ok (.aload_n 0, 1) := by decide +kernel
theorem dX6_fewestThatHold_88 : decode cX6_fewestThatHold 88 = .ok (.getfield 12, 3) := by decide +kernel
theorem dX6_fewestThatHold_91 : decode cX6_fewestThatHold 91 = .ok (.iload 5, 2) := by decide +kernel
theorem dX6_fewestThatHold_93 : decode cX6_fewestThatHold 93 = .ok (.iload 5, 2) := by decide +kernel
theorem dX6_fewestThatHold_95 : decode cX6_fewestThatHold 95 = .ok (.invokevirtual 201, 3) := by decide +kernel
theorem dX6_fewestThatHold_98 : decode cX6_fewestThatHold 98 = .ok (.aload_n 0, 1) := by decide +kernel
theorem dX6_fewestThatHold_99 : decode cX6_fewestThatHold 99 = .ok (.getfield 50, 3) := by decide +kernel
theorem dX6_fewestThatHold_102 : decode cX6_fewestThatHold 102 = .ok (.iload_n 1, 1) := by decide +kernel
theorem dX6_fewestThatHold_103 : decode cX6_fewestThatHold 103 = .ok (.iload_n 2, 1) := by decide +kernel
theorem dX6_fewestThatHold_104 : decode cX6_fewestThatHold 104 = .ok (.invokevirtual 213, 3) := by decide +kernel
theorem dX6_fewestThatHold_107 : decode cX6_fewestThatHold 107 = .ok (.ifCond .eq 7, 3) := by decide +kernel
theorem dX6_fewestThatHold_110 : decode cX6_fewestThatHold 110 = .ok (.iload 5, 2) := by decide +kernel
theorem dX6_fewestThatHold_112 : decode cX6_fewestThatHold 112 = .ok (.istore 4, 2) := by decide +kernel
theorem dX6_fewestThatHold_114 : decode cX6_fewestThatHold 114 = .ok (.iinc 5 1, 3) := by decide +kernel
theorem dX6_fewestThatHold_117 : decode cX6_fewestThatHold 117 = .ok (.goto (-94), 3) := by decide +kernel
theorem dX6_fewestThatHold_120 : decode cX6_fewestThatHold 120 = .ok (.iload 4, 2) := by decide +kernel
theorem dX6_fewestThatHold_122 : decode cX6_fewestThatHold 122 = .ok (.ireturn, 1) := by decide +kernel
set_option maxRecDepth 20000 in
theorem ggX6_suspects_X2_isWhole : GoodIn wsX6_suspects wsX2_isWhole := goodIn_r _ [8, 9, 10, 11, 12, 76, 77, 78] (by decide +kernel) (by decide +kernel)
set_option maxRecDepth 20000 in
theorem gX6_suspects_X2_isWhole : GoodIn wsX6_suspects (wsV RX6 107 RX2 yX2_isWhole wsX2_isWhole) := goodIn_app (goodIn_of _ (by decide +kernel)) ggX6_suspects_X2_isWhole
set_option maxRecDepth 20000 in
theorem ggX6_suspects_X6_stackSuspect : GoodIn wsX6_suspects wsX6_stackSuspect := goodIn_r _ [16, 1, 17, 18, 19, 11, 20, 3, 21, 22, 23, 24, 25, 26, 27, 28, 29, 30, 10, 12, 31, 32, 33, 7, 34, 35, 36, 37, 38, 39, 40, 41, 42, 43, 44, 68, 69, 70, 71, 72, 73, 74, 75, 76, 77, 78, 79, 80, 81, 82, 83, 84, 85, 86] (by decide +kernel) (by decide +kernel)
set_option maxRecDepth 20000 in
theorem gX6_suspects_X6_stackSuspect : GoodIn wsX6_suspects (wsV RX6 216 RX6 yX6_stackSuspect wsX6_stackSuspect) := goodIn_app (goodIn_of _ (by decide +kernel)) ggX6_suspects_X6_stackSuspect
set_option maxRecDepth 20000 in
theorem ggX6_suspects_X4_agreeWith : GoodIn wsX6_suspects wsX4_agreeWith := goodIn_r _ [49, 50, 51, 52, 53, 54, 55, 24, 56, 57, 58, 59, 60, 26, 27, 28, 29, 61, 62, 63, 10, 11, 12, 64, 65, 66, 67, 87, 88, 89, 79, 80, 81, 82, 83, 84, 85, 86] (by decide +kernel) (by decide +kernel)
set_option maxRecDepth 20000 in
theorem gX6_suspects_X4_agreeWith : GoodIn wsX6_suspects (wsV RX6 219 RX4 yX4_agreeWith wsX4_agreeWith) := goodIn_app (goodIn_of _ (by decide +kernel)) ggX6_suspects_X4_agreeWith
theorem dX6_suspects_0 : decode cX6_suspects 0 = .ok (.iconst 0, 1) := by decide +kernel
theorem dX6_suspects_1 : decode cX6_suspects 1 = .ok (.istore_n 1, 1) := by decide +kernel
theorem dX6_suspects_2 : decode cX6_suspects 2 = .ok (.iconst 0, 1) := by decide +kernel
theorem dX6_suspects_3 : decode cX6_suspects 3 = .ok (.istore_n 2, 1) := by decide +kernel
theorem dX6_suspects_4 : decode cX6_suspects 4 = .ok (.iload_n 2, 1) := by decide +kernel
theorem dX6_suspects_5 : decode cX6_suspects 5 = .ok (.aload_n 0, 1) := by decide +kernel
theorem dX6_suspects_6 : decode cX6_suspects 6 = .ok (.getfield 12, 3) := by decide +kernel
theorem dX6_suspects_9 : decode cX6_suspects 9 = .ok (.getfield 84, 3) := by decide +kernel
theorem dX6_suspects_12 : decode cX6_suspects 12 = .ok (.if_icmp .gt 51, 3) := by decide +kernel
theorem dX6_suspects_15 : decode cX6_suspects 15 = .ok (.iload_n 2, 1) := by decide +kernel
theorem dX6_suspects_16 : decode cX6_suspects 16 = .ok (.ifCond .eq 16, 3) := by decide +kernel
theorem dX6_suspects_19 : decode cX6_suspects 19 = .ok (.aload_n 0, 1) := by decide +kernel
theorem dX6_suspects_20 : decode cX6_suspects 20 = .ok (.getfield 12, 3) := by decide +kernel
theorem dX6_suspects_23 : decode cX6_suspects 23 = .ok (.iload_n 2, 1) := by decide +kernel
theorem dX6_suspects_24 : decode cX6_suspects 24 = .ok (.iconst 1, 1) := by decide +kernel
theorem dX6_suspects_25 : decode cX6_suspects 25 = .ok (.isub, 1) := by decide +kernel
theorem dX6_suspects_26 : decode cX6_suspects 26 = .ok (.invokevirtual 107, 3) := by decide +kernel
theorem dX6_suspects_29 : decode cX6_suspects 29 = .ok (.ifCond .eq 28, 3) := by decide +kernel
theorem dX6_suspects_32 : decode cX6_suspects 32 = .ok (.aload_n 0, 1) := by decide +kernel
theorem dX6_suspects_33 : decode cX6_suspects 33 = .ok (.iload_n 2, 1) := by decide +kernel
theorem dX6_suspects_34 : decode cX6_suspects 34 = .ok (.invokevirtual 216, 3) := by decide +kernel
theorem dX6_suspects_37 : decode cX6_suspects 37 = .ok (.aload_n 0, 1) := by decide +kernel
theorem dX6_suspects_38 : decode cX6_suspects 38 = .ok (.getfield 43, 3) := by decide +kernel
theorem dX6_suspects_41 : decode cX6_suspects 41 = .ok (.aload_n 0, 1) := by decide +kernel
theorem dX6_suspects_42 : decode cX6_suspects 42 = .ok (.getfield 50, 3) := by decide +kernel
theorem dX6_suspects_45 : decode cX6_suspects 45 = .ok (.invokevirtual 219, 3) := by decide +kernel
theorem dX6_suspects_48 : decode cX6_suspects 48 = .ok (.ifCond .eq 9, 3) := by decide +kernel
theorem dX6_suspects_51 : decode cX6_suspects 51 = .ok (.iload_n 1, 1) := by decide +kernel
theorem dX6_suspects_52 : decode cX6_suspects 52 = .ok (.iconst 1, 1) := by decide +kernel
theorem dX6_suspects_53 : decode cX6_suspects 53 = .ok (.iload_n 2, 1) := by decide +kernel
theorem dX6_suspects_54 : decode cX6_suspects 54 = .ok (.ishl, 1) := by decide +kernel
theorem dX6_suspects_55 : decode cX6_suspects 55 = .ok (.ior, 1) := by decide +kernel
theorem dX6_suspects_56 : decode cX6_suspects 56 = .ok (.istore_n 1, 1) := by decide +kernel
theorem dX6_suspects_57 : decode cX6_suspects 57 = .ok (.iinc 2 1, 3) := by decide +kernel
theorem dX6_suspects_60 : decode cX6_suspects 60 = .ok (.goto (-56), 3) := by decide +kernel
theorem dX6_suspects_63 : decode cX6_suspects 63 = .ok (.iload_n 1, 1) := by decide +kernel
theorem dX6_suspects_64 : decode cX6_suspects 64 = .ok (.ireturn, 1) := by decide +kernel
set_option maxRecDepth 20000 in
theorem ggX6_stackSuspect_X6_stackAll : GoodIn wsX6_stackSuspect wsX6_stackAll := goodIn_r _ [6, 7, 1, 8, 9, 10, 11, 12, 13, 14, 15, 16, 17, 18, 5, 19, 20, 21, 22, 23, 24, 25, 26, 27, 28, 29, 30, 31, 32, 33, 34, 35, 36, 37, 38, 39, 40, 41, 42, 43, 44, 45, 46, 47, 48, 49, 50, 51, 52, 53] (by decide +kernel) (by decide +kernel)
set_option maxRecDepth 20000 in
theorem gX6_stackSuspect_X6_stackAll : GoodIn wsX6_stackSuspect (wsV RX6 91 RX6 yX6_stackAll wsX6_stackAll) := goodIn_app (goodIn_of _ (by decide +kernel)) ggX6_stackSuspect_X6_stackAll
theorem dX6_stackSuspect_0 : decode cX6_stackSuspect 0 = .ok (.iload_n 1, 1) := by decide +kernel
theorem dX6_stackSuspect_1 : decode cX6_stackSuspect 1 = .ok (.ifCond .ne 7, 3) := by decide +kernel
theorem dX6_stackSuspect_4 : decode cX6_stackSuspect 4 = .ok (.iconst 0, 1) := by decide +kernel
theorem dX6_stackSuspect_5 : decode cX6_stackSuspect 5 = .ok (.goto 8, 3) := by decide +kernel
theorem dX6_stackSuspect_8 : decode cX6_stackSuspect 8 = .ok (.iconst 1, 1) := by decide +kernel
theorem dX6_stackSuspect_9 : decode cX6_stackSuspect 9 = .ok (.iload_n 1, 1) := by decide +kernel
theorem dX6_stackSuspect_10 : decode cX6_stackSuspect 10 = .ok (.iconst 1, 1) := by decide +kernel
theorem dX6_stackSuspect_11 : decode cX6_stackSuspect 11 = .ok (.isub, 1) := by decide +kernel
theorem dX6_stackSuspect_12 : decode cX6_stackSuspect 12 = .ok (.ishl, 1) := by decide +kernel
theorem dX6_stackSuspect_13 : decode cX6_stackSuspect 13 = .ok (.istore_n 2, 1) := by decide +kernel
theorem dX6_stackSuspect_14 : decode cX6_stackSuspect 14 = .ok (.aload_n 0, 1) := by decide +kernel
theorem dX6_stackSuspect_15 : decode cX6_stackSuspect 15 = .ok (.aload_n 0, 1) := by decide +kernel
theorem dX6_stackSuspect_16 : decode cX6_stackSuspect 16 = .ok (.getfield 12, 3) := by decide +kernel
theorem dX6_stackSuspect_19 : decode cX6_stackSuspect 19 = .ok (.getfield 88, 3) := by decide +kernel
theorem dX6_stackSuspect_22 : decode cX6_stackSuspect 22 = .ok (.iload_n 2, 1) := by decide +kernel
theorem dX6_stackSuspect_23 : decode cX6_stackSuspect 23 = .ok (.iconst (-1), 1) := by decide +kernel
theorem dX6_stackSuspect_24 : decode cX6_stackSuspect 24 = .ok (.ixor, 1) := by decide +kernel
theorem dX6_stackSuspect_25 : decode cX6_stackSuspect 25 = .ok (.iand, 1) := by decide +kernel
theorem dX6_stackSuspect_26 : decode cX6_stackSuspect 26 = .ok (.invokevirtual 91, 3) := by decide +kernel
theorem dX6_stackSuspect_29 : decode cX6_stackSuspect 29 = .ok (.return_, 1) := by decide +kernel
set_option maxRecDepth 20000 in
theorem ggX6_mostAlike_X6_holds : GoodIn wsX6_mostAlike wsX6_holds := goodIn_r _ [11] (by decide +kernel) (by decide +kernel)
set_option maxRecDepth 20000 in
theorem gX6_mostAlike_X6_holds : GoodIn wsX6_mostAlike (va_wsS RX6 180 yX6_holds wsX6_holds) := goodIn_app (goodIn_of _ (by decide +kernel)) ggX6_mostAlike_X6_holds
set_option maxRecDepth 20000 in
theorem ggX6_mostAlike_X6_stackSuspect : GoodIn wsX6_mostAlike wsX6_stackSuspect := goodIn_r _ [15, 1, 16, 17, 18, 10, 19, 3, 20, 21, 22, 23, 24, 25, 26, 27, 28, 29, 9, 11, 30, 31, 32, 33, 34, 35, 5, 6, 7, 36, 37, 38, 39, 40, 41, 61, 62, 63, 64, 65, 66, 67, 68, 69, 70, 71, 72, 73, 74, 75, 76, 77, 78, 79] (by decide +kernel) (by decide +kernel)
set_option maxRecDepth 20000 in
theorem gX6_mostAlike_X6_stackSuspect : GoodIn wsX6_mostAlike (wsV RX6 216 RX6 yX6_stackSuspect wsX6_stackSuspect) := goodIn_app (goodIn_of _ (by decide +kernel)) ggX6_mostAlike_X6_stackSuspect
set_option maxRecDepth 20000 in
theorem ggX6_mostAlike_X3_cutBy : GoodIn wsX6_mostAlike wsX3_cutBy := goodIn_r _ [45, 46, 47, 48, 23, 49, 25, 26, 27, 28, 50, 51, 52, 9, 10, 11, 53, 54, 55, 56, 72, 73, 74, 75, 76, 77, 78, 79] (by decide +kernel) (by decide +kernel)
set_option maxRecDepth 20000 in
theorem gX6_mostAlike_X3_cutBy : GoodIn wsX6_mostAlike (wsV RX6 223 RX3 yX3_cutBy wsX3_cutBy) := goodIn_app (goodIn_of _ (by decide +kernel)) ggX6_mostAlike_X3_cutBy
set_option maxRecDepth 20000 in
theorem ggX6_mostAlike_X6_alikeUpTo : GoodIn wsX6_mostAlike wsX6_alikeUpTo := goodIn_r _ [60, 2, 8, 9, 10, 11, 61, 62, 63, 64, 65, 66, 67, 68] (by decide +kernel) (by decide +kernel)
set_option maxRecDepth 20000 in
theorem gX6_mostAlike_X6_alikeUpTo : GoodIn wsX6_mostAlike (wsV RX6 226 RX6 yX6_alikeUpTo wsX6_alikeUpTo) := goodIn_app (goodIn_of _ (by decide +kernel)) ggX6_mostAlike_X6_alikeUpTo
theorem dX6_mostAlike_0 : decode cX6_mostAlike 0 = .ok (.iconst 0, 1) := by decide +kernel
theorem dX6_mostAlike_1 : decode cX6_mostAlike 1 = .ok (.istore_n 3, 1) := by decide +kernel
theorem dX6_mostAlike_2 : decode cX6_mostAlike 2 = .ok (.iconst 0, 1) := by decide +kernel
theorem dX6_mostAlike_3 : decode cX6_mostAlike 3 = .ok (.istore 4, 2) := by decide +kernel
theorem dX6_mostAlike_5 : decode cX6_mostAlike 5 = .ok (.iload 4, 2) := by decide +kernel
theorem dX6_mostAlike_7 : decode cX6_mostAlike 7 = .ok (.aload_n 0, 1) := by decide +kernel
theorem dX6_mostAlike_8 : decode cX6_mostAlike 8 = .ok (.getfield 12, 3) := by decide +kernel
theorem dX6_mostAlike_11 : decode cX6_mostAlike 11 = .ok (.getfield 84, 3) := by decide +kernel
theorem dX6_mostAlike_14 : decode cX6_mostAlike 14 = .ok (.if_icmp .gt 51, 3) := by decide +kernel
theorem dX6_mostAlike_17 : decode cX6_mostAlike 17 = .ok (.iload_n 1, 1) := by decide +kernel
theorem dX6_mostAlike_18 : decode cX6_mostAlike 18 = .ok (.iload 4, 2) := by decide +kernel
theorem dX6_mostAlike_20 : decode cX6_mostAlike 20 = .ok (.invokestatic 180, 3) := by decide +kernel
theorem dX6_mostAlike_23 : decode cX6_mostAlike 23 = .ok (.ifCond .eq 36, 3) := by decide +kernel
theorem dX6_mostAlike_26 : decode cX6_mostAlike 26 = .ok (.aload_n 0, 1) := by decide +kernel
theorem dX6_mostAlike_27 : decode cX6_mostAlike 27 = .ok (.iload 4, 2) := by decide +kernel
theorem dX6_mostAlike_29 : decode cX6_mostAlike 29 = .ok (.invokevirtual 216, 3) := by decide +kernel
theorem dX6_mostAlike_32 : decode cX6_mostAlike 32 = .ok (.aload_n 0, 1) := by decide +kernel
theorem dX6_mostAlike_33 : decode cX6_mostAlike 33 = .ok (.getfield 54, 3) := by decide +kernel
theorem dX6_mostAlike_36 : decode cX6_mostAlike 36 = .ok (.iload 4, 2) := by decide +kernel
theorem dX6_mostAlike_38 : decode cX6_mostAlike 38 = .ok (.aload_n 0, 1) := by decide +kernel
theorem dX6_mostAlike_39 : decode cX6_mostAlike 39 = .ok (.getfield 50, 3) := by decide +kernel
theorem dX6_mostAlike_42 : decode cX6_mostAlike 42 = .ok (.iload_n 2, 1) := by decide +kernel
theorem dX6_mostAlike_43 : decode cX6_mostAlike 43 = .ok (.invokevirtual 223, 3) := by decide +kernel
theorem dX6_mostAlike_46 : decode cX6_mostAlike 46 = .ok (.iastore, 1) := by decide +kernel
theorem dX6_mostAlike_47 : decode cX6_mostAlike 47 = .ok (.iload_n 3, 1) := by decide +kernel
theorem dX6_mostAlike_48 : decode cX6_mostAlike 48 = .ok (.aload_n 0, 1) := by decide +kernel
theorem dX6_mostAlike_49 : decode cX6_mostAlike 49 = .ok (.iload_n 1, 1) := by decide +kernel
theorem dX6_mostAlike_50 : decode cX6_mostAlike 50 = .ok (.iload 4, 2) := by decide +kernel
theorem dX6_mostAlike_52 : decode cX6_mostAlike 52 = .ok (.invokevirtual 226, 3) := by decide +kernel
theorem dX6_mostAlike_55 : decode cX6_mostAlike 55 = .ok (.invokestatic 208, 3) := by decide +kernel
theorem dX6_mostAlike_58 : decode cX6_mostAlike 58 = .ok (.istore_n 3, 1) := by decide +kernel
theorem dX6_mostAlike_59 : decode cX6_mostAlike 59 = .ok (.iinc 4 1, 3) := by decide +kernel
theorem dX6_mostAlike_62 : decode cX6_mostAlike 62 = .ok (.goto (-57), 3) := by decide +kernel
theorem dX6_mostAlike_65 : decode cX6_mostAlike 65 = .ok (.iload_n 3, 1) := by decide +kernel
theorem dX6_mostAlike_66 : decode cX6_mostAlike 66 = .ok (.ireturn, 1) := by decide +kernel
set_option maxRecDepth 20000 in
theorem ggX6_alikeUpTo_X6_holds : GoodIn wsX6_alikeUpTo wsX6_holds := goodIn_r _ [5] (by decide +kernel) (by decide +kernel)
set_option maxRecDepth 20000 in
theorem gX6_alikeUpTo_X6_holds : GoodIn wsX6_alikeUpTo (va_wsS RX6 180 yX6_holds wsX6_holds) := goodIn_app (goodIn_of _ (by decide +kernel)) ggX6_alikeUpTo_X6_holds
theorem dX6_alikeUpTo_0 : decode cX6_alikeUpTo 0 = .ok (.iconst 0, 1) := by decide +kernel
theorem dX6_alikeUpTo_1 : decode cX6_alikeUpTo 1 = .ok (.istore_n 3, 1) := by decide +kernel
theorem dX6_alikeUpTo_2 : decode cX6_alikeUpTo 2 = .ok (.iconst 0, 1) := by decide +kernel
theorem dX6_alikeUpTo_3 : decode cX6_alikeUpTo 3 = .ok (.istore 4, 2) := by decide +kernel
theorem dX6_alikeUpTo_5 : decode cX6_alikeUpTo 5 = .ok (.iload 4, 2) := by decide +kernel
theorem dX6_alikeUpTo_7 : decode cX6_alikeUpTo 7 = .ok (.iload_n 2, 1) := by decide +kernel
theorem dX6_alikeUpTo_8 : decode cX6_alikeUpTo 8 = .ok (.if_icmp .gt 37, 3) := by decide +kernel
theorem dX6_alikeUpTo_11 : decode cX6_alikeUpTo 11 = .ok (.iload_n 1, 1) := by decide +kernel
theorem dX6_alikeUpTo_12 : decode cX6_alikeUpTo 12 = .ok (.iload 4, 2) := by decide +kernel
theorem dX6_alikeUpTo_14 : decode cX6_alikeUpTo 14 = .ok (.invokestatic 180, 3) := by decide +kernel
theorem dX6_alikeUpTo_17 : decode cX6_alikeUpTo 17 = .ok (.ifCond .eq 22, 3) := by decide +kernel
theorem dX6_alikeUpTo_20 : decode cX6_alikeUpTo 20 = .ok (.aload_n 0, 1) := by decide +kernel
theorem dX6_alikeUpTo_21 : decode cX6_alikeUpTo 21 = .ok (.getfield 54, 3) := by decide +kernel
theorem dX6_alikeUpTo_24 : decode cX6_alikeUpTo 24 = .ok (.iload 4, 2) := by decide +kernel
theorem dX6_alikeUpTo_26 : decode cX6_alikeUpTo 26 = .ok (.iaload, 1) := by decide +kernel
theorem dX6_alikeUpTo_27 : decode cX6_alikeUpTo 27 = .ok (.aload_n 0, 1) := by decide +kernel
theorem dX6_alikeUpTo_28 : decode cX6_alikeUpTo 28 = .ok (.getfield 54, 3) := by decide +kernel
theorem dX6_alikeUpTo_31 : decode cX6_alikeUpTo 31 = .ok (.iload_n 2, 1) := by decide +kernel
theorem dX6_alikeUpTo_32 : decode cX6_alikeUpTo 32 = .ok (.iaload, 1) := by decide +kernel
theorem dX6_alikeUpTo_33 : decode cX6_alikeUpTo 33 = .ok (.if_icmp .ne 6, 3) := by decide +kernel
theorem dX6_alikeUpTo_36 : decode cX6_alikeUpTo 36 = .ok (.iinc 3 1, 3) := by decide +kernel
theorem dX6_alikeUpTo_39 : decode cX6_alikeUpTo 39 = .ok (.iinc 4 1, 3) := by decide +kernel
theorem dX6_alikeUpTo_42 : decode cX6_alikeUpTo 42 = .ok (.goto (-37), 3) := by decide +kernel
theorem dX6_alikeUpTo_45 : decode cX6_alikeUpTo 45 = .ok (.iload_n 3, 1) := by decide +kernel
theorem dX6_alikeUpTo_46 : decode cX6_alikeUpTo 46 = .ok (.ireturn, 1) := by decide +kernel
