set_option maxRecDepth 20000 in
theorem ggX0_init_X2_init : GoodIn wsX0_init wsX2_init := goodIn_r _ [10, 11, 2, 3, 12, 13, 14, 15, 19, 20, 21] (by decide +kernel) (by decide +kernel)
set_option maxRecDepth 20000 in
theorem gX0_init_X2_init : GoodIn wsX0_init (wsX2_init) := ggX0_init_X2_init
theorem dX0_init_0 : decode cX0_init 0 = .ok (.aload_n 0, 1) := by decide +kernel
theorem dX0_init_1 : decode cX0_init 1 = .ok (.invokespecial 3, 3) := by decide +kernel
theorem dX0_init_4 : decode cX0_init 4 = .ok (.aload_n 0, 1) := by decide +kernel
theorem dX0_init_5 : decode cX0_init 5 = .ok (.bipush 6, 2) := by decide +kernel
theorem dX0_init_7 : decode cX0_init 7 = .ok (.anewarray 9, 3) := by decide +kernel
theorem dX0_init_10 : decode cX0_init 10 = .ok (.putfield 11, 3) := by decide +kernel
theorem dX0_init_13 : decode cX0_init 13 = .ok (.iconst 0, 1) := by decide +kernel
theorem dX0_init_14 : decode cX0_init 14 = .ok (.istore_n 1, 1) := by decide +kernel
theorem dX0_init_15 : decode cX0_init 15 = .ok (.iload_n 1, 1) := by decide +kernel
theorem dX0_init_16 : decode cX0_init 16 = .ok (.bipush 6, 2) := by decide +kernel
theorem dX0_init_18 : decode cX0_init 18 = .ok (.if_icmp .ge 22, 3) := by decide +kernel
theorem dX0_init_21 : decode cX0_init 21 = .ok (.aload_n 0, 1) := by decide +kernel
theorem dX0_init_22 : decode cX0_init 22 = .ok (.getfield 11, 3) := by decide +kernel
theorem dX0_init_25 : decode cX0_init 25 = .ok (.iload_n 1, 1) := by decide +kernel
theorem dX0_init_26 : decode cX0_init 26 = .ok (.new 9, 3) := by decide +kernel
theorem dX0_init_29 : decode cX0_init 29 = .ok (.dup, 1) := by decide +kernel
theorem dX0_init_30 : decode cX0_init 30 = .ok (.invokespecial 17, 3) := by decide +kernel
theorem dX0_init_33 : decode cX0_init 33 = .ok (.aastore, 1) := by decide +kernel
theorem dX0_init_34 : decode cX0_init 34 = .ok (.iinc 1 1, 3) := by decide +kernel
theorem dX0_init_37 : decode cX0_init 37 = .ok (.goto (-22), 3) := by decide +kernel
theorem dX0_init_40 : decode cX0_init 40 = .ok (.return_, 1) := by decide +kernel
set_option maxRecDepth 20000 in
theorem ggX0_push_X2_become : GoodIn wsX0_push wsX2_become := goodIn_r _ [12, 13, 14, 15, 16, 17, 18, 19, 23, 24, 25] (by decide +kernel) (by decide +kernel)
set_option maxRecDepth 20000 in
theorem gX0_push_X2_become : GoodIn wsX0_push (wsV RX0 22 RX2 yX2_become wsX2_become) := goodIn_app (goodIn_of _ (by decide +kernel)) ggX0_push_X2_become
theorem dX0_push_0 : decode cX0_push 0 = .ok (.aload_n 0, 1) := by decide +kernel
theorem dX0_push_1 : decode cX0_push 1 = .ok (.getfield 11, 3) := by decide +kernel
theorem dX0_push_4 : decode cX0_push 4 = .ok (.aload_n 0, 1) := by decide +kernel
theorem dX0_push_5 : decode cX0_push 5 = .ok (.getfield 18, 3) := by decide +kernel
theorem dX0_push_8 : decode cX0_push 8 = .ok (.aaload, 1) := by decide +kernel
theorem dX0_push_9 : decode cX0_push 9 = .ok (.aload_n 1, 1) := by decide +kernel
theorem dX0_push_10 : decode cX0_push 10 = .ok (.invokevirtual 22, 3) := by decide +kernel
theorem dX0_push_13 : decode cX0_push 13 = .ok (.aload_n 0, 1) := by decide +kernel
theorem dX0_push_14 : decode cX0_push 14 = .ok (.aload_n 0, 1) := by decide +kernel
theorem dX0_push_15 : decode cX0_push 15 = .ok (.getfield 18, 3) := by decide +kernel
theorem dX0_push_18 : decode cX0_push 18 = .ok (.iconst 5, 1) := by decide +kernel
theorem dX0_push_19 : decode cX0_push 19 = .ok (.if_icmp .ne 7, 3) := by decide +kernel
theorem dX0_push_22 : decode cX0_push 22 = .ok (.iconst 0, 1) := by decide +kernel
theorem dX0_push_23 : decode cX0_push 23 = .ok (.goto 9, 3) := by decide +kernel
theorem dX0_push_26 : decode cX0_push 26 = .ok (.aload_n 0, 1) := by decide +kernel
theorem dX0_push_27 : decode cX0_push 27 = .ok (.getfield 18, 3) := by decide +kernel
theorem dX0_push_30 : decode cX0_push 30 = .ok (.iconst 1, 1) := by decide +kernel
theorem dX0_push_31 : decode cX0_push 31 = .ok (.iadd, 1) := by decide +kernel
theorem dX0_push_32 : decode cX0_push 32 = .ok (.putfield 18, 3) := by decide +kernel
theorem dX0_push_35 : decode cX0_push 35 = .ok (.aload_n 0, 1) := by decide +kernel
theorem dX0_push_36 : decode cX0_push 36 = .ok (.aload_n 0, 1) := by decide +kernel
theorem dX0_push_37 : decode cX0_push 37 = .ok (.getfield 26, 3) := by decide +kernel
theorem dX0_push_40 : decode cX0_push 40 = .ok (.iconst 1, 1) := by decide +kernel
theorem dX0_push_41 : decode cX0_push 41 = .ok (.iadd, 1) := by decide +kernel
theorem dX0_push_42 : decode cX0_push 42 = .ok (.bipush 6, 2) := by decide +kernel
theorem dX0_push_44 : decode cX0_push 44 = .ok (.invokestatic 29, 3) := by decide +kernel
theorem dX0_push_47 : decode cX0_push 47 = .ok (.putfield 26, 3) := by decide +kernel
theorem dX0_push_50 : decode cX0_push 50 = .ok (.return_, 1) := by decide +kernel
set_option maxRecDepth 20000 in
theorem ggX0_popInto_X2_become : GoodIn wsX0_popInto wsX2_become := goodIn_r _ [8, 9, 10, 11, 12, 13, 14, 15, 19, 20, 21] (by decide +kernel) (by decide +kernel)
set_option maxRecDepth 20000 in
theorem gX0_popInto_X2_become : GoodIn wsX0_popInto (wsV RX0 22 RX2 yX2_become wsX2_become) := goodIn_app (goodIn_of _ (by decide +kernel)) ggX0_popInto_X2_become
theorem dX0_popInto_0 : decode cX0_popInto 0 = .ok (.aload_n 0, 1) := by decide +kernel
theorem dX0_popInto_1 : decode cX0_popInto 1 = .ok (.getfield 26, 3) := by decide +kernel
theorem dX0_popInto_4 : decode cX0_popInto 4 = .ok (.ifCond .ne 5, 3) := by decide +kernel
theorem dX0_popInto_7 : decode cX0_popInto 7 = .ok (.iconst 0, 1) := by decide +kernel
theorem dX0_popInto_8 : decode cX0_popInto 8 = .ok (.ireturn, 1) := by decide +kernel
theorem dX0_popInto_9 : decode cX0_popInto 9 = .ok (.aload_n 0, 1) := by decide +kernel
theorem dX0_popInto_10 : decode cX0_popInto 10 = .ok (.aload_n 0, 1) := by decide +kernel
theorem dX0_popInto_11 : decode cX0_popInto 11 = .ok (.getfield 18, 3) := by decide +kernel
theorem dX0_popInto_14 : decode cX0_popInto 14 = .ok (.ifCond .ne 7, 3) := by decide +kernel
theorem dX0_popInto_17 : decode cX0_popInto 17 = .ok (.iconst 5, 1) := by decide +kernel
theorem dX0_popInto_18 : decode cX0_popInto 18 = .ok (.goto 9, 3) := by decide +kernel
theorem dX0_popInto_21 : decode cX0_popInto 21 = .ok (.aload_n 0, 1) := by decide +kernel
theorem dX0_popInto_22 : decode cX0_popInto 22 = .ok (.getfield 18, 3) := by decide +kernel
theorem dX0_popInto_25 : decode cX0_popInto 25 = .ok (.iconst 1, 1) := by decide +kernel
theorem dX0_popInto_26 : decode cX0_popInto 26 = .ok (.isub, 1) := by decide +kernel
theorem dX0_popInto_27 : decode cX0_popInto 27 = .ok (.putfield 18, 3) := by decide +kernel
theorem dX0_popInto_30 : decode cX0_popInto 30 = .ok (.aload_n 0, 1) := by decide +kernel
theorem dX0_popInto_31 : decode cX0_popInto 31 = .ok (.dup, 1) := by decide +kernel
theorem dX0_popInto_32 : decode cX0_popInto 32 = .ok (.getfield 26, 3) := by decide +kernel
theorem dX0_popInto_35 : decode cX0_popInto 35 = .ok (.iconst 1, 1) := by decide +kernel
theorem dX0_popInto_36 : decode cX0_popInto 36 = .ok (.isub, 1) := by decide +kernel
theorem dX0_popInto_37 : decode cX0_popInto 37 = .ok (.putfield 26, 3) := by decide +kernel
theorem dX0_popInto_40 : decode cX0_popInto 40 = .ok (.aload_n 1, 1) := by decide +kernel
theorem dX0_popInto_41 : decode cX0_popInto 41 = .ok (.aload_n 0, 1) := by decide +kernel
theorem dX0_popInto_42 : decode cX0_popInto 42 = .ok (.getfield 11, 3) := by decide +kernel
theorem dX0_popInto_45 : decode cX0_popInto 45 = .ok (.aload_n 0, 1) := by decide +kernel
theorem dX0_popInto_46 : decode cX0_popInto 46 = .ok (.getfield 18, 3) := by decide +kernel
theorem dX0_popInto_49 : decode cX0_popInto 49 = .ok (.aaload, 1) := by decide +kernel
theorem dX0_popInto_50 : decode cX0_popInto 50 = .ok (.invokevirtual 22, 3) := by decide +kernel
theorem dX0_popInto_53 : decode cX0_popInto 53 = .ok (.iconst 1, 1) := by decide +kernel
theorem dX0_popInto_54 : decode cX0_popInto 54 = .ok (.ireturn, 1) := by decide +kernel
theorem dX0_empty_0 : decode cX0_empty 0 = .ok (.aload_n 0, 1) := by decide +kernel
theorem dX0_empty_1 : decode cX0_empty 1 = .ok (.iconst 0, 1) := by decide +kernel
theorem dX0_empty_2 : decode cX0_empty 2 = .ok (.putfield 26, 3) := by decide +kernel
theorem dX0_empty_5 : decode cX0_empty 5 = .ok (.return_, 1) := by decide +kernel
set_option maxRecDepth 20000 in
theorem ggX1_init_X2_init : GoodIn wsX1_init wsX2_init := goodIn_r _ [10, 11, 2, 3, 12, 13, 14, 15, 18, 19, 20] (by decide +kernel) (by decide +kernel)
set_option maxRecDepth 20000 in
theorem gX1_init_X2_init : GoodIn wsX1_init (wsX2_init) := ggX1_init_X2_init
theorem dX1_init_0 : decode cX1_init 0 = .ok (.aload_n 0, 1) := by decide +kernel
theorem dX1_init_1 : decode cX1_init 1 = .ok (.invokespecial 3, 3) := by decide +kernel
theorem dX1_init_4 : decode cX1_init 4 = .ok (.aload_n 0, 1) := by decide +kernel
theorem dX1_init_5 : decode cX1_init 5 = .ok (.iconst 2, 1) := by decide +kernel
theorem dX1_init_6 : decode cX1_init 6 = .ok (.anewarray 9, 3) := by decide +kernel
theorem dX1_init_9 : decode cX1_init 9 = .ok (.putfield 11, 3) := by decide +kernel
theorem dX1_init_12 : decode cX1_init 12 = .ok (.iconst 0, 1) := by decide +kernel
theorem dX1_init_13 : decode cX1_init 13 = .ok (.istore_n 1, 1) := by decide +kernel
theorem dX1_init_14 : decode cX1_init 14 = .ok (.iload_n 1, 1) := by decide +kernel
theorem dX1_init_15 : decode cX1_init 15 = .ok (.iconst 2, 1) := by decide +kernel
theorem dX1_init_16 : decode cX1_init 16 = .ok (.if_icmp .ge 22, 3) := by decide +kernel
theorem dX1_init_19 : decode cX1_init 19 = .ok (.aload_n 0, 1) := by decide +kernel
theorem dX1_init_20 : decode cX1_init 20 = .ok (.getfield 11, 3) := by decide +kernel
theorem dX1_init_23 : decode cX1_init 23 = .ok (.iload_n 1, 1) := by decide +kernel
theorem dX1_init_24 : decode cX1_init 24 = .ok (.new 9, 3) := by decide +kernel
theorem dX1_init_27 : decode cX1_init 27 = .ok (.dup, 1) := by decide +kernel
theorem dX1_init_28 : decode cX1_init 28 = .ok (.invokespecial 17, 3) := by decide +kernel
theorem dX1_init_31 : decode cX1_init 31 = .ok (.aastore, 1) := by decide +kernel
theorem dX1_init_32 : decode cX1_init 32 = .ok (.iinc 1 1, 3) := by decide +kernel
theorem dX1_init_35 : decode cX1_init 35 = .ok (.goto (-21), 3) := by decide +kernel
theorem dX1_init_38 : decode cX1_init 38 = .ok (.return_, 1) := by decide +kernel
set_option maxRecDepth 20000 in
theorem ggX1_put_X2_become : GoodIn wsX1_put wsX2_become := goodIn_r _ [7, 8, 9, 10, 11, 12, 13, 14, 17, 18, 19] (by decide +kernel) (by decide +kernel)
set_option maxRecDepth 20000 in
theorem gX1_put_X2_become : GoodIn wsX1_put (wsV RX1 18 RX2 yX2_become wsX2_become) := goodIn_app (goodIn_of _ (by decide +kernel)) ggX1_put_X2_become
theorem dX1_put_0 : decode cX1_put 0 = .ok (.aload_n 0, 1) := by decide +kernel
theorem dX1_put_1 : decode cX1_put 1 = .ok (.getfield 11, 3) := by decide +kernel
theorem dX1_put_4 : decode cX1_put 4 = .ok (.iload_n 1, 1) := by decide +kernel
theorem dX1_put_5 : decode cX1_put 5 = .ok (.aaload, 1) := by decide +kernel
theorem dX1_put_6 : decode cX1_put 6 = .ok (.aload_n 2, 1) := by decide +kernel
theorem dX1_put_7 : decode cX1_put 7 = .ok (.invokevirtual 18, 3) := by decide +kernel
theorem dX1_put_10 : decode cX1_put 10 = .ok (.aload_n 0, 1) := by decide +kernel
theorem dX1_put_11 : decode cX1_put 11 = .ok (.dup, 1) := by decide +kernel
theorem dX1_put_12 : decode cX1_put 12 = .ok (.getfield 22, 3) := by decide +kernel
theorem dX1_put_15 : decode cX1_put 15 = .ok (.iconst 1, 1) := by decide +kernel
theorem dX1_put_16 : decode cX1_put 16 = .ok (.iload_n 1, 1) := by decide +kernel
theorem dX1_put_17 : decode cX1_put 17 = .ok (.ishl, 1) := by decide +kernel
theorem dX1_put_18 : decode cX1_put 18 = .ok (.ior, 1) := by decide +kernel
theorem dX1_put_19 : decode cX1_put 19 = .ok (.putfield 22, 3) := by decide +kernel
theorem dX1_put_22 : decode cX1_put 22 = .ok (.return_, 1) := by decide +kernel
set_option maxRecDepth 20000 in
theorem ggX1_getInto_X6_holds : GoodIn wsX1_getInto wsX6_holds := goodIn_r _ [5] (by decide +kernel) (by decide +kernel)
set_option maxRecDepth 20000 in
theorem gX1_getInto_X6_holds_n26 : GoodIn wsX1_getInto (wsX6_holds) := ggX1_getInto_X6_holds
set_option maxRecDepth 20000 in
theorem ggX1_getInto_X2_become : GoodIn wsX1_getInto wsX2_become := goodIn_r _ [10, 11, 12, 13, 14, 15, 16, 17, 20, 21, 22] (by decide +kernel) (by decide +kernel)
set_option maxRecDepth 20000 in
theorem gX1_getInto_X2_become : GoodIn wsX1_getInto (wsV RX1 18 RX2 yX2_become wsX2_become) := goodIn_app (goodIn_of _ (by decide +kernel)) ggX1_getInto_X2_become
theorem dX1_getInto_0 : decode cX1_getInto 0 = .ok (.aload_n 0, 1) := by decide +kernel
theorem dX1_getInto_1 : decode cX1_getInto 1 = .ok (.getfield 22, 3) := by decide +kernel
theorem dX1_getInto_4 : decode cX1_getInto 4 = .ok (.iload_n 1, 1) := by decide +kernel
theorem dX1_getInto_5 : decode cX1_getInto 5 = .ok (.invokestatic 26, 3) := by decide +kernel
theorem dX1_getInto_8 : decode cX1_getInto 8 = .ok (.ifCond .ne 5, 3) := by decide +kernel
theorem dX1_getInto_11 : decode cX1_getInto 11 = .ok (.iconst 0, 1) := by decide +kernel
theorem dX1_getInto_12 : decode cX1_getInto 12 = .ok (.ireturn, 1) := by decide +kernel
theorem dX1_getInto_13 : decode cX1_getInto 13 = .ok (.aload_n 2, 1) := by decide +kernel
theorem dX1_getInto_14 : decode cX1_getInto 14 = .ok (.aload_n 0, 1) := by decide +kernel
theorem dX1_getInto_15 : decode cX1_getInto 15 = .ok (.getfield 11, 3) := by decide +kernel
theorem dX1_getInto_18 : decode cX1_getInto 18 = .ok (.iload_n 1, 1) := by decide +kernel
theorem dX1_getInto_19 : decode cX1_getInto 19 = .ok (.aaload, 1) := by decide +kernel
theorem dX1_getInto_20 : decode cX1_getInto 20 = .ok (.invokevirtual 18, 3) := by decide +kernel
theorem dX1_getInto_23 : decode cX1_getInto 23 = .ok (.iconst 1, 1) := by decide +kernel
theorem dX1_getInto_24 : decode cX1_getInto 24 = .ok (.ireturn, 1) := by decide +kernel
theorem dX1_empty_0 : decode cX1_empty 0 = .ok (.aload_n 0, 1) := by decide +kernel
theorem dX1_empty_1 : decode cX1_empty 1 = .ok (.iconst 0, 1) := by decide +kernel
theorem dX1_empty_2 : decode cX1_empty 2 = .ok (.putfield 22, 3) := by decide +kernel
theorem dX1_empty_5 : decode cX1_empty 5 = .ok (.return_, 1) := by decide +kernel
theorem dX2_init_0 : decode cX2_init 0 = .ok (.aload_n 0, 1) := by decide +kernel
theorem dX2_init_1 : decode cX2_init 1 = .ok (.invokespecial 3, 3) := by decide +kernel
theorem dX2_init_4 : decode cX2_init 4 = .ok (.aload_n 0, 1) := by decide +kernel
theorem dX2_init_5 : decode cX2_init 5 = .ok (.bipush 32, 2) := by decide +kernel
theorem dX2_init_7 : decode cX2_init 7 = .ok (.newarray .int, 2) := by decide +kernel
theorem dX2_init_9 : decode cX2_init 9 = .ok (.putfield 9, 3) := by decide +kernel
theorem dX2_init_12 : decode cX2_init 12 = .ok (.aload_n 0, 1) := by decide +kernel
theorem dX2_init_13 : decode cX2_init 13 = .ok (.iconst 1, 1) := by decide +kernel
theorem dX2_init_14 : decode cX2_init 14 = .ok (.putfield 15, 3) := by decide +kernel
theorem dX2_init_17 : decode cX2_init 17 = .ok (.aload_n 0, 1) := by decide +kernel
theorem dX2_init_18 : decode cX2_init 18 = .ok (.iconst 1, 1) := by decide +kernel
theorem dX2_init_19 : decode cX2_init 19 = .ok (.putfield 19, 3) := by decide +kernel
theorem dX2_init_22 : decode cX2_init 22 = .ok (.aload_n 0, 1) := by decide +kernel
theorem dX2_init_23 : decode cX2_init 23 = .ok (.getfield 9, 3) := by decide +kernel
theorem dX2_init_26 : decode cX2_init 26 = .ok (.iconst 0, 1) := by decide +kernel
theorem dX2_init_27 : decode cX2_init 27 = .ok (.iconst 1, 1) := by decide +kernel
theorem dX2_init_28 : decode cX2_init 28 = .ok (.iastore, 1) := by decide +kernel
theorem dX2_init_29 : decode cX2_init 29 = .ok (.aload_n 0, 1) := by decide +kernel
theorem dX2_init_30 : decode cX2_init 30 = .ok (.getfield 9, 3) := by decide +kernel
theorem dX2_init_33 : decode cX2_init 33 = .ok (.bipush 8, 2) := by decide +kernel
theorem dX2_init_35 : decode cX2_init 35 = .ok (.iconst 1, 1) := by decide +kernel
theorem dX2_init_36 : decode cX2_init 36 = .ok (.iastore, 1) := by decide +kernel
theorem dX2_init_37 : decode cX2_init 37 = .ok (.aload_n 0, 1) := by decide +kernel
theorem dX2_init_38 : decode cX2_init 38 = .ok (.getfield 9, 3) := by decide +kernel
theorem dX2_init_41 : decode cX2_init 41 = .ok (.bipush 16, 2) := by decide +kernel
theorem dX2_init_43 : decode cX2_init 43 = .ok (.iconst 0, 1) := by decide +kernel
theorem dX2_init_44 : decode cX2_init 44 = .ok (.iastore, 1) := by decide +kernel
theorem dX2_init_45 : decode cX2_init 45 = .ok (.aload_n 0, 1) := by decide +kernel
theorem dX2_init_46 : decode cX2_init 46 = .ok (.getfield 9, 3) := by decide +kernel
theorem dX2_init_49 : decode cX2_init 49 = .ok (.bipush 24, 2) := by decide +kernel
theorem dX2_init_51 : decode cX2_init 51 = .ok (.bipush 99, 2) := by decide +kernel
theorem dX2_init_53 : decode cX2_init 53 = .ok (.iastore, 1) := by decide +kernel
theorem dX2_init_54 : decode cX2_init 54 = .ok (.return_, 1) := by decide +kernel
theorem dX2_become_0 : decode cX2_become 0 = .ok (.aload_n 1, 1) := by decide +kernel
theorem dX2_become_1 : decode cX2_become 1 = .ok (.getfield 9, 3) := by decide +kernel
theorem dX2_become_4 : decode cX2_become 4 = .ok (.iconst 0, 1) := by decide +kernel
theorem dX2_become_5 : decode cX2_become 5 = .ok (.aload_n 0, 1) := by decide +kernel
theorem dX2_become_6 : decode cX2_become 6 = .ok (.getfield 9, 3) := by decide +kernel
theorem dX2_become_9 : decode cX2_become 9 = .ok (.iconst 0, 1) := by decide +kernel
theorem dX2_become_10 : decode cX2_become 10 = .ok (.bipush 32, 2) := by decide +kernel
theorem dX2_become_12 : decode cX2_become 12 = .ok (.invokestatic 22, 3) := by decide +kernel
theorem dX2_become_15 : decode cX2_become 15 = .ok (.aload_n 0, 1) := by decide +kernel
theorem dX2_become_16 : decode cX2_become 16 = .ok (.aload_n 1, 1) := by decide +kernel
theorem dX2_become_17 : decode cX2_become 17 = .ok (.getfield 15, 3) := by decide +kernel
theorem dX2_become_20 : decode cX2_become 20 = .ok (.putfield 15, 3) := by decide +kernel
theorem dX2_become_23 : decode cX2_become 23 = .ok (.aload_n 0, 1) := by decide +kernel
theorem dX2_become_24 : decode cX2_become 24 = .ok (.aload_n 1, 1) := by decide +kernel
theorem dX2_become_25 : decode cX2_become 25 = .ok (.getfield 19, 3) := by decide +kernel
theorem dX2_become_28 : decode cX2_become 28 = .ok (.putfield 19, 3) := by decide +kernel
theorem dX2_become_31 : decode cX2_become 31 = .ok (.return_, 1) := by decide +kernel
theorem dX2_empty_0 : decode cX2_empty 0 = .ok (.aload_n 0, 1) := by decide +kernel
theorem dX2_empty_1 : decode cX2_empty 1 = .ok (.iconst 0, 1) := by decide +kernel
theorem dX2_empty_2 : decode cX2_empty 2 = .ok (.putfield 15, 3) := by decide +kernel
theorem dX2_empty_5 : decode cX2_empty 5 = .ok (.aload_n 0, 1) := by decide +kernel
theorem dX2_empty_6 : decode cX2_empty 6 = .ok (.iconst 0, 1) := by decide +kernel
theorem dX2_empty_7 : decode cX2_empty 7 = .ok (.putfield 19, 3) := by decide +kernel
theorem dX2_empty_10 : decode cX2_empty 10 = .ok (.return_, 1) := by decide +kernel
theorem dX2_appendWhole_0 : decode cX2_appendWhole 0 = .ok (.aload_n 0, 1) := by decide +kernel
theorem dX2_appendWhole_1 : decode cX2_appendWhole 1 = .ok (.getfield 15, 3) := by decide +kernel
theorem dX2_appendWhole_4 : decode cX2_appendWhole 4 = .ok (.bipush 8, 2) := by decide +kernel
theorem dX2_appendWhole_6 : decode cX2_appendWhole 6 = .ok (.if_icmp .ge 28, 3) := by decide +kernel
theorem dX2_appendWhole_9 : decode cX2_appendWhole 9 = .ok (.aload_n 0, 1) := by decide +kernel
theorem dX2_appendWhole_10 : decode cX2_appendWhole 10 = .ok (.dup, 1) := by decide +kernel
theorem dX2_appendWhole_11 : decode cX2_appendWhole 11 = .ok (.getfield 19, 3) := by decide +kernel
theorem dX2_appendWhole_14 : decode cX2_appendWhole 14 = .ok (.iconst 1, 1) := by decide +kernel
theorem dX2_appendWhole_15 : decode cX2_appendWhole 15 = .ok (.aload_n 0, 1) := by decide +kernel
theorem dX2_appendWhole_16 : decode cX2_appendWhole 16 = .ok (.getfield 15, 3) := by decide +kernel
theorem dX2_appendWhole_19 : decode cX2_appendWhole 19 = .ok (.ishl, 1) := by decide +kernel
theorem dX2_appendWhole_20 : decode cX2_appendWhole 20 = .ok (.ior, 1) := by decide +kernel
theorem dX2_appendWhole_21 : decode cX2_appendWhole 21 = .ok (.putfield 19, 3) := by decide +kernel
theorem dX2_appendWhole_24 : decode cX2_appendWhole 24 = .ok (.aload_n 0, 1) := by decide +kernel
theorem dX2_appendWhole_25 : decode cX2_appendWhole 25 = .ok (.dup, 1) := by decide +kernel
theorem dX2_appendWhole_26 : decode cX2_appendWhole 26 = .ok (.getfield 15, 3) := by decide +kernel
theorem dX2_appendWhole_29 : decode cX2_appendWhole 29 = .ok (.iconst 1, 1) := by decide +kernel
theorem dX2_appendWhole_30 : decode cX2_appendWhole 30 = .ok (.iadd, 1) := by decide +kernel
theorem dX2_appendWhole_31 : decode cX2_appendWhole 31 = .ok (.putfield 15, 3) := by decide +kernel
theorem dX2_appendWhole_34 : decode cX2_appendWhole 34 = .ok (.return_, 1) := by decide +kernel
theorem dX2_exists_0 : decode cX2_exists 0 = .ok (.iload_n 1, 1) := by decide +kernel
theorem dX2_exists_1 : decode cX2_exists 1 = .ok (.ifCond .lt 15, 3) := by decide +kernel
theorem dX2_exists_4 : decode cX2_exists 4 = .ok (.iload_n 1, 1) := by decide +kernel
theorem dX2_exists_5 : decode cX2_exists 5 = .ok (.aload_n 0, 1) := by decide +kernel
theorem dX2_exists_6 : decode cX2_exists 6 = .ok (.getfield 15, 3) := by decide +kernel
theorem dX2_exists_9 : decode cX2_exists 9 = .ok (.if_icmp .ge 7, 3) := by decide +kernel
theorem dX2_exists_12 : decode cX2_exists 12 = .ok (.iconst 1, 1) := by decide +kernel
theorem dX2_exists_13 : decode cX2_exists 13 = .ok (.goto 4, 3) := by decide +kernel
theorem dX2_exists_16 : decode cX2_exists 16 = .ok (.iconst 0, 1) := by decide +kernel
theorem dX2_exists_17 : decode cX2_exists 17 = .ok (.ireturn, 1) := by decide +kernel
set_option maxRecDepth 20000 in
theorem ggX2_isWhole_X6_holds : GoodIn wsX2_isWhole wsX6_holds := goodIn_r _ [4] (by decide +kernel) (by decide +kernel)
set_option maxRecDepth 20000 in
theorem gX2_isWhole_X6_holds_n28 : GoodIn wsX2_isWhole (wsX6_holds) := ggX2_isWhole_X6_holds
theorem dX2_isWhole_0 : decode cX2_isWhole 0 = .ok (.aload_n 0, 1) := by decide +kernel
theorem dX2_isWhole_1 : decode cX2_isWhole 1 = .ok (.getfield 19, 3) := by decide +kernel
theorem dX2_isWhole_4 : decode cX2_isWhole 4 = .ok (.iload_n 1, 1) := by decide +kernel
theorem dX2_isWhole_5 : decode cX2_isWhole 5 = .ok (.invokestatic 28, 3) := by decide +kernel
theorem dX2_isWhole_8 : decode cX2_isWhole 8 = .ok (.ireturn, 1) := by decide +kernel
theorem dX2_number_0 : decode cX2_number 0 = .ok (.aload_n 0, 1) := by decide +kernel
theorem dX2_number_1 : decode cX2_number 1 = .ok (.getfield 9, 3) := by decide +kernel
theorem dX2_number_4 : decode cX2_number 4 = .ok (.iload_n 1, 1) := by decide +kernel
theorem dX2_number_5 : decode cX2_number 5 = .ok (.bipush 8, 2) := by decide +kernel
theorem dX2_number_7 : decode cX2_number 7 = .ok (.imul, 1) := by decide +kernel
theorem dX2_number_8 : decode cX2_number 8 = .ok (.iload_n 2, 1) := by decide +kernel
theorem dX2_number_9 : decode cX2_number 9 = .ok (.iadd, 1) := by decide +kernel
theorem dX2_number_10 : decode cX2_number 10 = .ok (.iaload, 1) := by decide +kernel
theorem dX2_number_11 : decode cX2_number 11 = .ok (.ireturn, 1) := by decide +kernel
theorem dX2_put_0 : decode cX2_put 0 = .ok (.aload_n 0, 1) := by decide +kernel
theorem dX2_put_1 : decode cX2_put 1 = .ok (.getfield 9, 3) := by decide +kernel
theorem dX2_put_4 : decode cX2_put 4 = .ok (.iload_n 1, 1) := by decide +kernel
theorem dX2_put_5 : decode cX2_put 5 = .ok (.bipush 8, 2) := by decide +kernel
theorem dX2_put_7 : decode cX2_put 7 = .ok (.imul, 1) := by decide +kernel
theorem dX2_put_8 : decode cX2_put 8 = .ok (.iload_n 2, 1) := by decide +kernel
theorem dX2_put_9 : decode cX2_put 9 = .ok (.iadd, 1) := by decide +kernel
theorem dX2_put_10 : decode cX2_put 10 = .ok (.iload_n 3, 1) := by decide +kernel
theorem dX2_put_11 : decode cX2_put 11 = .ok (.iastore, 1) := by decide +kernel
theorem dX2_put_12 : decode cX2_put 12 = .ok (.return_, 1) := by decide +kernel
set_option maxRecDepth 20000 in
theorem ggX2_mostOfNext_X2_number : GoodIn wsX2_mostOfNext wsX2_number := goodIn_r _ [6, 7, 8, 9, 10] (by decide +kernel) (by decide +kernel)
set_option maxRecDepth 20000 in
theorem gX2_mostOfNext_X2_number : GoodIn wsX2_mostOfNext (wsV RX2 32 RX2 yX2_number wsX2_number) := goodIn_app (goodIn_of _ (by decide +kernel)) ggX2_mostOfNext_X2_number
theorem dX2_mostOfNext_0 : decode cX2_mostOfNext 0 = .ok (.iload_n 1, 1) := by decide +kernel
theorem dX2_mostOfNext_1 : decode cX2_mostOfNext 1 = .ok (.ifCond .ne 24, 3) := by decide +kernel
theorem dX2_mostOfNext_4 : decode cX2_mostOfNext 4 = .ok (.aload_n 0, 1) := by decide +kernel
theorem dX2_mostOfNext_5 : decode cX2_mostOfNext 5 = .ok (.getfield 15, 3) := by decide +kernel
theorem dX2_mostOfNext_8 : decode cX2_mostOfNext 8 = .ok (.ifCond .le 17, 3) := by decide +kernel
theorem dX2_mostOfNext_11 : decode cX2_mostOfNext 11 = .ok (.aload_n 0, 1) := by decide +kernel
theorem dX2_mostOfNext_12 : decode cX2_mostOfNext 12 = .ok (.iconst 0, 1) := by decide +kernel
theorem dX2_mostOfNext_13 : decode cX2_mostOfNext 13 = .ok (.aload_n 0, 1) := by decide +kernel
theorem dX2_mostOfNext_14 : decode cX2_mostOfNext 14 = .ok (.getfield 15, 3) := by decide +kernel
theorem dX2_mostOfNext_17 : decode cX2_mostOfNext 17 = .ok (.iconst 1, 1) := by decide +kernel
theorem dX2_mostOfNext_18 : decode cX2_mostOfNext 18 = .ok (.isub, 1) := by decide +kernel
theorem dX2_mostOfNext_19 : decode cX2_mostOfNext 19 = .ok (.invokevirtual 32, 3) := by decide +kernel
theorem dX2_mostOfNext_22 : decode cX2_mostOfNext 22 = .ok (.goto 8, 3) := by decide +kernel
theorem dX2_mostOfNext_25 : decode cX2_mostOfNext 25 = .ok (.getstatic 36, 3) := by decide +kernel
theorem dX2_mostOfNext_28 : decode cX2_mostOfNext 28 = .ok (.iload_n 1, 1) := by decide +kernel
theorem dX2_mostOfNext_29 : decode cX2_mostOfNext 29 = .ok (.iaload, 1) := by decide +kernel
theorem dX2_mostOfNext_30 : decode cX2_mostOfNext 30 = .ok (.ireturn, 1) := by decide +kernel
set_option maxRecDepth 20000 in
theorem ggX2_nip_X2_number : GoodIn wsX2_nip wsX2_number := goodIn_r _ [9, 10, 11, 12, 13] (by decide +kernel) (by decide +kernel)
set_option maxRecDepth 20000 in
theorem gX2_nip_X2_number : GoodIn wsX2_nip (wsV RX2 32 RX2 yX2_number wsX2_number) := goodIn_app (goodIn_of _ (by decide +kernel)) ggX2_nip_X2_number
theorem dX2_nip_0 : decode cX2_nip 0 = .ok (.iload_n 1, 1) := by decide +kernel
theorem dX2_nip_1 : decode cX2_nip 1 = .ok (.ifCond .ge 7, 3) := by decide +kernel
theorem dX2_nip_4 : decode cX2_nip 4 = .ok (.iconst 0, 1) := by decide +kernel
theorem dX2_nip_5 : decode cX2_nip 5 = .ok (.goto 20, 3) := by decide +kernel
theorem dX2_nip_8 : decode cX2_nip 8 = .ok (.iconst 0, 1) := by decide +kernel
theorem dX2_nip_9 : decode cX2_nip 9 = .ok (.aload_n 0, 1) := by decide +kernel
theorem dX2_nip_10 : decode cX2_nip 10 = .ok (.iconst 2, 1) := by decide +kernel
theorem dX2_nip_11 : decode cX2_nip 11 = .ok (.iload_n 1, 1) := by decide +kernel
theorem dX2_nip_12 : decode cX2_nip 12 = .ok (.invokevirtual 32, 3) := by decide +kernel
theorem dX2_nip_15 : decode cX2_nip 15 = .ok (.aload_n 0, 1) := by decide +kernel
theorem dX2_nip_16 : decode cX2_nip 16 = .ok (.iconst 2, 1) := by decide +kernel
theorem dX2_nip_17 : decode cX2_nip 17 = .ok (.iload_n 2, 1) := by decide +kernel
theorem dX2_nip_18 : decode cX2_nip 18 = .ok (.invokevirtual 32, 3) := by decide +kernel
theorem dX2_nip_21 : decode cX2_nip 21 = .ok (.isub, 1) := by decide +kernel
theorem dX2_nip_22 : decode cX2_nip 22 = .ok (.invokestatic 39, 3) := by decide +kernel
theorem dX2_nip_25 : decode cX2_nip 25 = .ok (.ireturn, 1) := by decide +kernel
set_option maxRecDepth 20000 in
theorem ggX2_sum_X6_holds : GoodIn wsX2_sum wsX6_holds := goodIn_r _ [4] (by decide +kernel) (by decide +kernel)
set_option maxRecDepth 20000 in
theorem gX2_sum_X6_holds_n28 : GoodIn wsX2_sum (wsX6_holds) := ggX2_sum_X6_holds
set_option maxRecDepth 20000 in
theorem ggX2_sum_X2_number : GoodIn wsX2_sum wsX2_number := goodIn_r _ [9, 10, 11, 12, 13] (by decide +kernel) (by decide +kernel)
set_option maxRecDepth 20000 in
theorem gX2_sum_X2_number : GoodIn wsX2_sum (wsV RX2 32 RX2 yX2_number wsX2_number) := goodIn_app (goodIn_of _ (by decide +kernel)) ggX2_sum_X2_number
theorem dX2_sum_0 : decode cX2_sum 0 = .ok (.iconst 0, 1) := by decide +kernel
theorem dX2_sum_1 : decode cX2_sum 1 = .ok (.istore_n 3, 1) := by decide +kernel
theorem dX2_sum_2 : decode cX2_sum 2 = .ok (.iconst 0, 1) := by decide +kernel
theorem dX2_sum_3 : decode cX2_sum 3 = .ok (.istore 4, 2) := by decide +kernel
theorem dX2_sum_5 : decode cX2_sum 5 = .ok (.iload 4, 2) := by decide +kernel
theorem dX2_sum_7 : decode cX2_sum 7 = .ok (.aload_n 0, 1) := by decide +kernel
theorem dX2_sum_8 : decode cX2_sum 8 = .ok (.getfield 15, 3) := by decide +kernel
theorem dX2_sum_11 : decode cX2_sum 11 = .ok (.if_icmp .ge 28, 3) := by decide +kernel
theorem dX2_sum_14 : decode cX2_sum 14 = .ok (.iload_n 2, 1) := by decide +kernel
theorem dX2_sum_15 : decode cX2_sum 15 = .ok (.iload 4, 2) := by decide +kernel
theorem dX2_sum_17 : decode cX2_sum 17 = .ok (.invokestatic 28, 3) := by decide +kernel
theorem dX2_sum_20 : decode cX2_sum 20 = .ok (.ifCond .eq 13, 3) := by decide +kernel
theorem dX2_sum_23 : decode cX2_sum 23 = .ok (.iload_n 3, 1) := by decide +kernel
theorem dX2_sum_24 : decode cX2_sum 24 = .ok (.aload_n 0, 1) := by decide +kernel
theorem dX2_sum_25 : decode cX2_sum 25 = .ok (.iload_n 1, 1) := by decide +kernel
theorem dX2_sum_26 : decode cX2_sum 26 = .ok (.iload 4, 2) := by decide +kernel
theorem dX2_sum_28 : decode cX2_sum 28 = .ok (.invokevirtual 32, 3) := by decide +kernel
theorem dX2_sum_31 : decode cX2_sum 31 = .ok (.iadd, 1) := by decide +kernel
theorem dX2_sum_32 : decode cX2_sum 32 = .ok (.istore_n 3, 1) := by decide +kernel
theorem dX2_sum_33 : decode cX2_sum 33 = .ok (.iinc 4 1, 3) := by decide +kernel
theorem dX2_sum_36 : decode cX2_sum 36 = .ok (.goto (-31), 3) := by decide +kernel
theorem dX2_sum_39 : decode cX2_sum 39 = .ok (.iload_n 3, 1) := by decide +kernel
theorem dX2_sum_40 : decode cX2_sum 40 = .ok (.ireturn, 1) := by decide +kernel
theorem dX3_init_0 : decode cX3_init 0 = .ok (.aload_n 0, 1) := by decide +kernel
theorem dX3_init_1 : decode cX3_init 1 = .ok (.invokespecial 3, 3) := by decide +kernel
theorem dX3_init_4 : decode cX3_init 4 = .ok (.aload_n 0, 1) := by decide +kernel
theorem dX3_init_5 : decode cX3_init 5 = .ok (.bipush 8, 2) := by decide +kernel
theorem dX3_init_7 : decode cX3_init 7 = .ok (.newarray .int, 2) := by decide +kernel
theorem dX3_init_9 : decode cX3_init 9 = .ok (.putfield 9, 3) := by decide +kernel
theorem dX3_init_12 : decode cX3_init 12 = .ok (.aload_n 0, 1) := by decide +kernel
theorem dX3_init_13 : decode cX3_init 13 = .ok (.bipush 8, 2) := by decide +kernel
theorem dX3_init_15 : decode cX3_init 15 = .ok (.newarray .int, 2) := by decide +kernel
theorem dX3_init_17 : decode cX3_init 17 = .ok (.putfield 15, 3) := by decide +kernel
theorem dX3_init_20 : decode cX3_init 20 = .ok (.aload_n 0, 1) := by decide +kernel
theorem dX3_init_21 : decode cX3_init 21 = .ok (.bipush 8, 2) := by decide +kernel
theorem dX3_init_23 : decode cX3_init 23 = .ok (.newarray .int, 2) := by decide +kernel
theorem dX3_init_25 : decode cX3_init 25 = .ok (.putfield 18, 3) := by decide +kernel
theorem dX3_init_28 : decode cX3_init 28 = .ok (.return_, 1) := by decide +kernel
set_option maxRecDepth 20000 in
theorem ggX3_stack_X6_holds : GoodIn wsX3_stack wsX6_holds := goodIn_r _ [8] (by decide +kernel) (by decide +kernel)
set_option maxRecDepth 20000 in
theorem gX3_stack_X6_holds_n31 : GoodIn wsX3_stack (wsX6_holds) := ggX3_stack_X6_holds
set_option maxRecDepth 20000 in
theorem ggX3_stack_X2_nip : GoodIn wsX3_stack wsX2_nip := goodIn_r _ [13, 14, 15, 16, 17, 18, 19, 20, 12, 21, 22, 24, 25, 26] (by decide +kernel) (by decide +kernel)
set_option maxRecDepth 20000 in
theorem gX3_stack_X2_nip : GoodIn wsX3_stack (wsV RX3 35 RX2 yX2_nip wsX2_nip) := goodIn_app (goodIn_of _ (by decide +kernel)) ggX3_stack_X2_nip
set_option maxRecDepth 20000 in
theorem ggX3_stack_X2_number : GoodIn wsX3_stack wsX2_number := goodIn_r _ [21, 22, 24, 25, 26] (by decide +kernel) (by decide +kernel)
set_option maxRecDepth 20000 in
theorem gX3_stack_X2_number : GoodIn wsX3_stack (wsV RX3 39 RX2 yX2_number wsX2_number) := goodIn_app (goodIn_of _ (by decide +kernel)) ggX3_stack_X2_number
theorem dX3_stack_0 : decode cX3_stack 0 = .ok (.aload_n 0, 1) := by decide +kernel
theorem dX3_stack_1 : decode cX3_stack 1 = .ok (.aload_n 1, 1) := by decide +kernel
theorem dX3_stack_2 : decode cX3_stack 2 = .ok (.getfield 21, 3) := by decide +kernel
theorem dX3_stack_5 : decode cX3_stack 5 = .ok (.putfield 27, 3) := by decide +kernel
theorem dX3_stack_8 : decode cX3_stack 8 = .ok (.aload_n 0, 1) := by decide +kernel
theorem dX3_stack_9 : decode cX3_stack 9 = .ok (.iload_n 2, 1) := by decide +kernel
theorem dX3_stack_10 : decode cX3_stack 10 = .ok (.iload_n 3, 1) := by decide +kernel
theorem dX3_stack_11 : decode cX3_stack 11 = .ok (.iand, 1) := by decide +kernel
theorem dX3_stack_12 : decode cX3_stack 12 = .ok (.putfield 28, 3) := by decide +kernel
theorem dX3_stack_15 : decode cX3_stack 15 = .ok (.iconst (-1), 1) := by decide +kernel
theorem dX3_stack_16 : decode cX3_stack 16 = .ok (.istore 4, 2) := by decide +kernel
theorem dX3_stack_18 : decode cX3_stack 18 = .ok (.iconst 0, 1) := by decide +kernel
theorem dX3_stack_19 : decode cX3_stack 19 = .ok (.istore 5, 2) := by decide +kernel
theorem dX3_stack_21 : decode cX3_stack 21 = .ok (.iconst 0, 1) := by decide +kernel
theorem dX3_stack_22 : decode cX3_stack 22 = .ok (.istore 6, 2) := by decide +kernel
theorem dX3_stack_24 : decode cX3_stack 24 = .ok (.iload 6, 2) := by decide +kernel
theorem dX3_stack_26 : decode cX3_stack 26 = .ok (.aload_n 0, 1) := by decide +kernel
theorem dX3_stack_27 : decode cX3_stack 27 = .ok (.getfield 27, 3) := by decide +kernel
theorem dX3_stack_30 : decode cX3_stack 30 = .ok (.if_icmp .ge 72, 3) := by decide +kernel
theorem dX3_stack_33 : decode cX3_stack 33 = .ok (.iload_n 2, 1) := by decide +kernel
theorem dX3_stack_34 : decode cX3_stack 34 = .ok (.iload 6, 2) := by decide +kernel
theorem dX3_stack_36 : decode cX3_stack 36 = .ok (.invokestatic 31, 3) := by decide +kernel
theorem dX3_stack_39 : decode cX3_stack 39 = .ok (.ifCond .eq 20, 3) := by decide +kernel
theorem dX3_stack_42 : decode cX3_stack 42 = .ok (.iload 5, 2) := by decide +kernel
theorem dX3_stack_44 : decode cX3_stack 44 = .ok (.aload_n 1, 1) := by decide +kernel
theorem dX3_stack_45 : decode cX3_stack 45 = .ok (.iload 4, 2) := by decide +kernel
theorem dX3_stack_47 : decode cX3_stack 47 = .ok (.iload 6, 2) := by decide +kernel
theorem dX3_stack_49 : decode cX3_stack 49 = .ok (.invokevirtual 35, 3) := by decide +kernel
theorem dX3_stack_52 : decode cX3_stack 52 = .ok (.iadd, 1) := by decide +kernel
theorem dX3_stack_53 : decode cX3_stack 53 = .ok (.istore 5, 2) := by decide +kernel
theorem dX3_stack_55 : decode cX3_stack 55 = .ok (.iload 6, 2) := by decide +kernel
theorem dX3_stack_57 : decode cX3_stack 57 = .ok (.istore 4, 2) := by decide +kernel
theorem dX3_stack_59 : decode cX3_stack 59 = .ok (.aload_n 0, 1) := by decide +kernel
theorem dX3_stack_60 : decode cX3_stack 60 = .ok (.getfield 9, 3) := by decide +kernel
theorem dX3_stack_63 : decode cX3_stack 63 = .ok (.iload 6, 2) := by decide +kernel
theorem dX3_stack_65 : decode cX3_stack 65 = .ok (.iload 5, 2) := by decide +kernel
theorem dX3_stack_67 : decode cX3_stack 67 = .ok (.iastore, 1) := by decide +kernel
theorem dX3_stack_68 : decode cX3_stack 68 = .ok (.aload_n 0, 1) := by decide +kernel
theorem dX3_stack_69 : decode cX3_stack 69 = .ok (.getfield 15, 3) := by decide +kernel
theorem dX3_stack_72 : decode cX3_stack 72 = .ok (.iload 6, 2) := by decide +kernel
theorem dX3_stack_74 : decode cX3_stack 74 = .ok (.aload_n 1, 1) := by decide +kernel
theorem dX3_stack_75 : decode cX3_stack 75 = .ok (.iconst 1, 1) := by decide +kernel
theorem dX3_stack_76 : decode cX3_stack 76 = .ok (.iload 6, 2) := by decide +kernel
theorem dX3_stack_78 : decode cX3_stack 78 = .ok (.invokevirtual 39, 3) := by decide +kernel
theorem dX3_stack_81 : decode cX3_stack 81 = .ok (.iastore, 1) := by decide +kernel
theorem dX3_stack_82 : decode cX3_stack 82 = .ok (.aload_n 0, 1) := by decide +kernel
theorem dX3_stack_83 : decode cX3_stack 83 = .ok (.getfield 18, 3) := by decide +kernel
theorem dX3_stack_86 : decode cX3_stack 86 = .ok (.iload 6, 2) := by decide +kernel
theorem dX3_stack_88 : decode cX3_stack 88 = .ok (.aload_n 1, 1) := by decide +kernel
theorem dX3_stack_89 : decode cX3_stack 89 = .ok (.iconst 3, 1) := by decide +kernel
theorem dX3_stack_90 : decode cX3_stack 90 = .ok (.iload 6, 2) := by decide +kernel
theorem dX3_stack_92 : decode cX3_stack 92 = .ok (.invokevirtual 39, 3) := by decide +kernel
theorem dX3_stack_95 : decode cX3_stack 95 = .ok (.iastore, 1) := by decide +kernel
theorem dX3_stack_96 : decode cX3_stack 96 = .ok (.iinc 6 1, 3) := by decide +kernel
theorem dX3_stack_99 : decode cX3_stack 99 = .ok (.goto (-75), 3) := by decide +kernel
theorem dX3_stack_102 : decode cX3_stack 102 = .ok (.return_, 1) := by decide +kernel
set_option maxRecDepth 20000 in
theorem ggX3_press_X6_holds : GoodIn wsX3_press wsX6_holds := goodIn_r _ [10] (by decide +kernel) (by decide +kernel)
set_option maxRecDepth 20000 in
theorem gX3_press_X6_holds_n31 : GoodIn wsX3_press (wsX6_holds) := ggX3_press_X6_holds
theorem dX3_press_0 : decode cX3_press 0 = .ok (.iconst 0, 1) := by decide +kernel
theorem dX3_press_1 : decode cX3_press 1 = .ok (.istore_n 2, 1) := by decide +kernel
theorem dX3_press_2 : decode cX3_press 2 = .ok (.iconst 0, 1) := by decide +kernel
theorem dX3_press_3 : decode cX3_press 3 = .ok (.istore_n 3, 1) := by decide +kernel
theorem dX3_press_4 : decode cX3_press 4 = .ok (.iconst 0, 1) := by decide +kernel
theorem dX3_press_5 : decode cX3_press 5 = .ok (.istore 4, 2) := by decide +kernel
theorem dX3_press_7 : decode cX3_press 7 = .ok (.iload 4, 2) := by decide +kernel
theorem dX3_press_9 : decode cX3_press 9 = .ok (.aload_n 0, 1) := by decide +kernel
theorem dX3_press_10 : decode cX3_press 10 = .ok (.getfield 27, 3) := by decide +kernel
theorem dX3_press_13 : decode cX3_press 13 = .ok (.if_icmp .ge 64, 3) := by decide +kernel
theorem dX3_press_16 : decode cX3_press 16 = .ok (.aload_n 0, 1) := by decide +kernel
theorem dX3_press_17 : decode cX3_press 17 = .ok (.getfield 28, 3) := by decide +kernel
theorem dX3_press_20 : decode cX3_press 20 = .ok (.iload 4, 2) := by decide +kernel
theorem dX3_press_22 : decode cX3_press 22 = .ok (.invokestatic 31, 3) := by decide +kernel
theorem dX3_press_25 : decode cX3_press 25 = .ok (.ifCond .eq 46, 3) := by decide +kernel
theorem dX3_press_28 : decode cX3_press 28 = .ok (.iload_n 2, 1) := by decide +kernel
theorem dX3_press_29 : decode cX3_press 29 = .ok (.aload_n 0, 1) := by decide +kernel
theorem dX3_press_30 : decode cX3_press 30 = .ok (.getfield 9, 3) := by decide +kernel
theorem dX3_press_33 : decode cX3_press 33 = .ok (.iload 4, 2) := by decide +kernel
theorem dX3_press_35 : decode cX3_press 35 = .ok (.iaload, 1) := by decide +kernel
theorem dX3_press_36 : decode cX3_press 36 = .ok (.imul, 1) := by decide +kernel
theorem dX3_press_37 : decode cX3_press 37 = .ok (.iload_n 3, 1) := by decide +kernel
theorem dX3_press_38 : decode cX3_press 38 = .ok (.isub, 1) := by decide +kernel
theorem dX3_press_39 : decode cX3_press 39 = .ok (.iload_n 1, 1) := by decide +kernel
theorem dX3_press_40 : decode cX3_press 40 = .ok (.if_icmp .ge 31, 3) := by decide +kernel
theorem dX3_press_43 : decode cX3_press 43 = .ok (.iload_n 2, 1) := by decide +kernel
theorem dX3_press_44 : decode cX3_press 44 = .ok (.aload_n 0, 1) := by decide +kernel
theorem dX3_press_45 : decode cX3_press 45 = .ok (.getfield 15, 3) := by decide +kernel
theorem dX3_press_48 : decode cX3_press 48 = .ok (.iload 4, 2) := by decide +kernel
theorem dX3_press_50 : decode cX3_press 50 = .ok (.iaload, 1) := by decide +kernel
theorem dX3_press_51 : decode cX3_press 51 = .ok (.iadd, 1) := by decide +kernel
theorem dX3_press_52 : decode cX3_press 52 = .ok (.istore_n 2, 1) := by decide +kernel
theorem dX3_press_53 : decode cX3_press 53 = .ok (.iload_n 3, 1) := by decide +kernel
theorem dX3_press_54 : decode cX3_press 54 = .ok (.aload_n 0, 1) := by decide +kernel
theorem dX3_press_55 : decode cX3_press 55 = .ok (.getfield 15, 3) := by decide +kernel
theorem dX3_press_58 : decode cX3_press 58 = .ok (.iload 4, 2) := by decide +kernel
theorem dX3_press_60 : decode cX3_press 60 = .ok (.iaload, 1) := by decide +kernel
theorem dX3_press_61 : decode cX3_press 61 = .ok (.aload_n 0, 1) := by decide +kernel
theorem dX3_press_62 : decode cX3_press 62 = .ok (.getfield 9, 3) := by decide +kernel
theorem dX3_press_65 : decode cX3_press 65 = .ok (.iload 4, 2) := by decide +kernel
theorem dX3_press_67 : decode cX3_press 67 = .ok (.iaload, 1) := by decide +kernel
theorem dX3_press_68 : decode cX3_press 68 = .ok (.imul, 1) := by decide +kernel
theorem dX3_press_69 : decode cX3_press 69 = .ok (.iadd, 1) := by decide +kernel
theorem dX3_press_70 : decode cX3_press 70 = .ok (.istore_n 3, 1) := by decide +kernel
theorem dX3_press_71 : decode cX3_press 71 = .ok (.iinc 4 1, 3) := by decide +kernel
theorem dX3_press_74 : decode cX3_press 74 = .ok (.goto (-67), 3) := by decide +kernel
theorem dX3_press_77 : decode cX3_press 77 = .ok (.aload_n 0, 1) := by decide +kernel
theorem dX3_press_78 : decode cX3_press 78 = .ok (.iload_n 1, 1) := by decide +kernel
theorem dX3_press_79 : decode cX3_press 79 = .ok (.iload_n 3, 1) := by decide +kernel
theorem dX3_press_80 : decode cX3_press 80 = .ok (.iadd, 1) := by decide +kernel
theorem dX3_press_81 : decode cX3_press 81 = .ok (.putfield 42, 3) := by decide +kernel
theorem dX3_press_84 : decode cX3_press 84 = .ok (.aload_n 0, 1) := by decide +kernel
theorem dX3_press_85 : decode cX3_press 85 = .ok (.iload_n 1, 1) := by decide +kernel
theorem dX3_press_86 : decode cX3_press 86 = .ok (.ifCond .ne 7, 3) := by decide +kernel
theorem dX3_press_89 : decode cX3_press 89 = .ok (.iconst 1, 1) := by decide +kernel
theorem dX3_press_90 : decode cX3_press 90 = .ok (.goto 4, 3) := by decide +kernel
theorem dX3_press_93 : decode cX3_press 93 = .ok (.iload_n 2, 1) := by decide +kernel
theorem dX3_press_94 : decode cX3_press 94 = .ok (.putfield 45, 3) := by decide +kernel
theorem dX3_press_97 : decode cX3_press 97 = .ok (.aload_n 0, 1) := by decide +kernel
theorem dX3_press_98 : decode cX3_press 98 = .ok (.iload_n 2, 1) := by decide +kernel
theorem dX3_press_99 : decode cX3_press 99 = .ok (.putfield 48, 3) := by decide +kernel
theorem dX3_press_102 : decode cX3_press 102 = .ok (.aload_n 0, 1) := by decide +kernel
theorem dX3_press_103 : decode cX3_press 103 = .ok (.getfield 45, 3) := by decide +kernel
theorem dX3_press_106 : decode cX3_press 106 = .ok (.ifCond .le 7, 3) := by decide +kernel
theorem dX3_press_109 : decode cX3_press 109 = .ok (.iconst 1, 1) := by decide +kernel
theorem dX3_press_110 : decode cX3_press 110 = .ok (.goto 4, 3) := by decide +kernel
theorem dX3_press_113 : decode cX3_press 113 = .ok (.iconst 0, 1) := by decide +kernel
theorem dX3_press_114 : decode cX3_press 114 = .ok (.ireturn, 1) := by decide +kernel
theorem dX3_cut_0 : decode cX3_cut 0 = .ok (.aload_n 0, 1) := by decide +kernel
theorem dX3_cut_1 : decode cX3_cut 1 = .ok (.getfield 45, 3) := by decide +kernel
theorem dX3_cut_4 : decode cX3_cut 4 = .ok (.ifCond .le 15, 3) := by decide +kernel
theorem dX3_cut_7 : decode cX3_cut 7 = .ok (.aload_n 0, 1) := by decide +kernel
theorem dX3_cut_8 : decode cX3_cut 8 = .ok (.getfield 42, 3) := by decide +kernel
theorem dX3_cut_11 : decode cX3_cut 11 = .ok (.aload_n 0, 1) := by decide +kernel
theorem dX3_cut_12 : decode cX3_cut 12 = .ok (.getfield 45, 3) := by decide +kernel
theorem dX3_cut_15 : decode cX3_cut 15 = .ok (.idiv, 1) := by decide +kernel
theorem dX3_cut_16 : decode cX3_cut 16 = .ok (.goto 5, 3) := by decide +kernel
theorem dX3_cut_19 : decode cX3_cut 19 = .ok (.bipush (-9), 2) := by decide +kernel
theorem dX3_cut_21 : decode cX3_cut 21 = .ok (.ireturn, 1) := by decide +kernel
set_option maxRecDepth 20000 in
theorem ggX3_cutBy_X3_press : GoodIn wsX3_cutBy wsX3_press := goodIn_r _ [5, 6, 7, 8, 9, 10, 11, 12, 13, 14, 15, 20, 21, 22, 23, 24, 25, 26, 27] (by decide +kernel) (by decide +kernel)
set_option maxRecDepth 20000 in
theorem gX3_cutBy_X3_press : GoodIn wsX3_cutBy (wsV RX3 51 RX3 yX3_press wsX3_press) := goodIn_app (goodIn_of _ (by decide +kernel)) ggX3_cutBy_X3_press
set_option maxRecDepth 20000 in
theorem ggX3_cutBy_X3_cut : GoodIn wsX3_cutBy wsX3_cut := goodIn_r _ [19, 11, 10, 20, 21, 22, 23, 24, 25, 26, 27] (by decide +kernel) (by decide +kernel)
set_option maxRecDepth 20000 in
theorem gX3_cutBy_X3_cut : GoodIn wsX3_cutBy (wsV RX3 55 RX3 yX3_cut wsX3_cut) := goodIn_app (goodIn_of _ (by decide +kernel)) ggX3_cutBy_X3_cut
theorem dX3_cutBy_0 : decode cX3_cutBy 0 = .ok (.aload_n 0, 1) := by decide +kernel
theorem dX3_cutBy_1 : decode cX3_cutBy 1 = .ok (.iload_n 1, 1) := by decide +kernel
theorem dX3_cutBy_2 : decode cX3_cutBy 2 = .ok (.invokevirtual 51, 3) := by decide +kernel
theorem dX3_cutBy_5 : decode cX3_cutBy 5 = .ok (.ifCond .eq 10, 3) := by decide +kernel
theorem dX3_cutBy_8 : decode cX3_cutBy 8 = .ok (.aload_n 0, 1) := by decide +kernel
theorem dX3_cutBy_9 : decode cX3_cutBy 9 = .ok (.invokevirtual 55, 3) := by decide +kernel
theorem dX3_cutBy_12 : decode cX3_cutBy 12 = .ok (.goto 5, 3) := by decide +kernel
theorem dX3_cutBy_15 : decode cX3_cutBy 15 = .ok (.bipush (-9), 2) := by decide +kernel
theorem dX3_cutBy_17 : decode cX3_cutBy 17 = .ok (.ireturn, 1) := by decide +kernel
set_option maxRecDepth 20000 in
theorem ggX3_borne_X6_holds : GoodIn wsX3_borne wsX6_holds := goodIn_r _ [12] (by decide +kernel) (by decide +kernel)
set_option maxRecDepth 20000 in
theorem gX3_borne_X6_holds_n31 : GoodIn wsX3_borne (wsX6_holds) := ggX3_borne_X6_holds
theorem dX3_borne_0 : decode cX3_borne 0 = .ok (.aload_n 0, 1) := by decide +kernel
theorem dX3_borne_1 : decode cX3_borne 1 = .ok (.getfield 28, 3) := by decide +kernel
theorem dX3_borne_4 : decode cX3_borne 4 = .ok (.iload_n 1, 1) := by decide +kernel
theorem dX3_borne_5 : decode cX3_borne 5 = .ok (.invokestatic 31, 3) := by decide +kernel
theorem dX3_borne_8 : decode cX3_borne 8 = .ok (.ifCond .eq 33, 3) := by decide +kernel
theorem dX3_borne_11 : decode cX3_borne 11 = .ok (.aload_n 0, 1) := by decide +kernel
theorem dX3_borne_12 : decode cX3_borne 12 = .ok (.getfield 15, 3) := by decide +kernel
theorem dX3_borne_15 : decode cX3_borne 15 = .ok (.iload_n 1, 1) := by decide +kernel
theorem dX3_borne_16 : decode cX3_borne 16 = .ok (.iaload, 1) := by decide +kernel
theorem dX3_borne_17 : decode cX3_borne 17 = .ok (.iconst 0, 1) := by decide +kernel
theorem dX3_borne_18 : decode cX3_borne 18 = .ok (.aload_n 0, 1) := by decide +kernel
theorem dX3_borne_19 : decode cX3_borne 19 = .ok (.getfield 42, 3) := by decide +kernel
theorem dX3_borne_22 : decode cX3_borne 22 = .ok (.aload_n 0, 1) := by decide +kernel
theorem dX3_borne_23 : decode cX3_borne 23 = .ok (.getfield 9, 3) := by decide +kernel
theorem dX3_borne_26 : decode cX3_borne 26 = .ok (.iload_n 1, 1) := by decide +kernel
theorem dX3_borne_27 : decode cX3_borne 27 = .ok (.iaload, 1) := by decide +kernel
theorem dX3_borne_28 : decode cX3_borne 28 = .ok (.aload_n 0, 1) := by decide +kernel
theorem dX3_borne_29 : decode cX3_borne 29 = .ok (.getfield 45, 3) := by decide +kernel
theorem dX3_borne_32 : decode cX3_borne 32 = .ok (.imul, 1) := by decide +kernel
theorem dX3_borne_33 : decode cX3_borne 33 = .ok (.isub, 1) := by decide +kernel
theorem dX3_borne_34 : decode cX3_borne 34 = .ok (.invokestatic 59, 3) := by decide +kernel
theorem dX3_borne_37 : decode cX3_borne 37 = .ok (.imul, 1) := by decide +kernel
theorem dX3_borne_38 : decode cX3_borne 38 = .ok (.goto 4, 3) := by decide +kernel
theorem dX3_borne_41 : decode cX3_borne 41 = .ok (.iconst 0, 1) := by decide +kernel
theorem dX3_borne_42 : decode cX3_borne 42 = .ok (.ireturn, 1) := by decide +kernel
set_option maxRecDepth 20000 in
theorem ggX3_excess_X3_borne : GoodIn wsX3_excess wsX3_borne := goodIn_r _ [7, 8, 9, 10, 11, 2, 12, 13, 14, 15, 16, 17, 18, 19, 20, 21, 22, 23, 24, 25, 26] (by decide +kernel) (by decide +kernel)
set_option maxRecDepth 20000 in
theorem gX3_excess_X3_borne : GoodIn wsX3_excess (wsV RX3 64 RX3 yX3_borne wsX3_borne) := goodIn_app (goodIn_of _ (by decide +kernel)) ggX3_excess_X3_borne
theorem dX3_excess_0 : decode cX3_excess 0 = .ok (.aload_n 0, 1) := by decide +kernel
theorem dX3_excess_1 : decode cX3_excess 1 = .ok (.iload_n 1, 1) := by decide +kernel
theorem dX3_excess_2 : decode cX3_excess 2 = .ok (.invokevirtual 64, 3) := by decide +kernel
theorem dX3_excess_5 : decode cX3_excess 5 = .ok (.aload_n 0, 1) := by decide +kernel
theorem dX3_excess_6 : decode cX3_excess 6 = .ok (.getfield 18, 3) := by decide +kernel
theorem dX3_excess_9 : decode cX3_excess 9 = .ok (.iload_n 1, 1) := by decide +kernel
theorem dX3_excess_10 : decode cX3_excess 10 = .ok (.iaload, 1) := by decide +kernel
theorem dX3_excess_11 : decode cX3_excess 11 = .ok (.aload_n 0, 1) := by decide +kernel
theorem dX3_excess_12 : decode cX3_excess 12 = .ok (.getfield 45, 3) := by decide +kernel
theorem dX3_excess_15 : decode cX3_excess 15 = .ok (.imul, 1) := by decide +kernel
theorem dX3_excess_16 : decode cX3_excess 16 = .ok (.isub, 1) := by decide +kernel
theorem dX3_excess_17 : decode cX3_excess 17 = .ok (.ireturn, 1) := by decide +kernel
set_option maxRecDepth 20000 in
theorem ggX3_firstToBreak_X3_press : GoodIn wsX3_firstToBreak wsX3_press := goodIn_r _ [6, 1, 7, 8, 9, 10, 11, 12, 13, 14, 15, 29, 30, 31, 32, 33, 34, 35, 36] (by decide +kernel) (by decide +kernel)
set_option maxRecDepth 20000 in
theorem gX3_firstToBreak_X3_press : GoodIn wsX3_firstToBreak (wsV RX3 51 RX3 yX3_press wsX3_press) := goodIn_app (goodIn_of _ (by decide +kernel)) ggX3_firstToBreak_X3_press
set_option maxRecDepth 20000 in
theorem ggX3_firstToBreak_X3_excess : GoodIn wsX3_firstToBreak wsX3_excess := goodIn_r _ [19, 20, 11, 21, 22, 23, 5, 24, 7, 9, 10, 8, 25, 26, 27, 28, 13, 14, 15, 29, 30, 31, 32, 33, 34, 35, 36] (by decide +kernel) (by decide +kernel)
set_option maxRecDepth 20000 in
theorem gX3_firstToBreak_X3_excess : GoodIn wsX3_firstToBreak (wsV RX3 68 RX3 yX3_excess wsX3_excess) := goodIn_app (goodIn_of _ (by decide +kernel)) ggX3_firstToBreak_X3_excess
theorem dX3_firstToBreak_0 : decode cX3_firstToBreak 0 = .ok (.aload_n 0, 1) := by decide +kernel
theorem dX3_firstToBreak_1 : decode cX3_firstToBreak 1 = .ok (.iload_n 1, 1) := by decide +kernel
theorem dX3_firstToBreak_2 : decode cX3_firstToBreak 2 = .ok (.invokevirtual 51, 3) := by decide +kernel
theorem dX3_firstToBreak_5 : decode cX3_firstToBreak 5 = .ok (.ifCond .ne 5, 3) := by decide +kernel
theorem dX3_firstToBreak_8 : decode cX3_firstToBreak 8 = .ok (.iconst (-1), 1) := by decide +kernel
theorem dX3_firstToBreak_9 : decode cX3_firstToBreak 9 = .ok (.ireturn, 1) := by decide +kernel
theorem dX3_firstToBreak_10 : decode cX3_firstToBreak 10 = .ok (.iconst (-1), 1) := by decide +kernel
theorem dX3_firstToBreak_11 : decode cX3_firstToBreak 11 = .ok (.istore_n 2, 1) := by decide +kernel
theorem dX3_firstToBreak_12 : decode cX3_firstToBreak 12 = .ok (.iconst 0, 1) := by decide +kernel
theorem dX3_firstToBreak_13 : decode cX3_firstToBreak 13 = .ok (.istore_n 3, 1) := by decide +kernel
theorem dX3_firstToBreak_14 : decode cX3_firstToBreak 14 = .ok (.iconst 0, 1) := by decide +kernel
theorem dX3_firstToBreak_15 : decode cX3_firstToBreak 15 = .ok (.istore 4, 2) := by decide +kernel
theorem dX3_firstToBreak_17 : decode cX3_firstToBreak 17 = .ok (.iload 4, 2) := by decide +kernel
theorem dX3_firstToBreak_19 : decode cX3_firstToBreak 19 = .ok (.aload_n 0, 1) := by decide +kernel
theorem dX3_firstToBreak_20 : decode cX3_firstToBreak 20 = .ok (.getfield 27, 3) := by decide +kernel
theorem dX3_firstToBreak_23 : decode cX3_firstToBreak 23 = .ok (.if_icmp .ge 29, 3) := by decide +kernel
theorem dX3_firstToBreak_26 : decode cX3_firstToBreak 26 = .ok (.aload_n 0, 1) := by decide +kernel
theorem dX3_firstToBreak_27 : decode cX3_firstToBreak 27 = .ok (.iload 4, 2) := by decide +kernel
theorem dX3_firstToBreak_29 : decode cX3_firstToBreak 29 = .ok (.invokevirtual 68, 3) := by decide +kernel
theorem dX3_firstToBreak_32 : decode cX3_firstToBreak 32 = .ok (.iload_n 3, 1) := by decide +kernel
theorem dX3_firstToBreak_33 : decode cX3_firstToBreak 33 = .ok (.if_icmp .le 13, 3) := by decide +kernel
theorem dX3_firstToBreak_36 : decode cX3_firstToBreak 36 = .ok (.iload 4, 2) := by decide +kernel
theorem dX3_firstToBreak_38 : decode cX3_firstToBreak 38 = .ok (.istore_n 2, 1) := by decide +kernel
theorem dX3_firstToBreak_39 : decode cX3_firstToBreak 39 = .ok (.aload_n 0, 1) := by decide +kernel
theorem dX3_firstToBreak_40 : decode cX3_firstToBreak 40 = .ok (.iload 4, 2) := by decide +kernel
theorem dX3_firstToBreak_42 : decode cX3_firstToBreak 42 = .ok (.invokevirtual 68, 3) := by decide +kernel
theorem dX3_firstToBreak_45 : decode cX3_firstToBreak 45 = .ok (.istore_n 3, 1) := by decide +kernel
theorem dX3_firstToBreak_46 : decode cX3_firstToBreak 46 = .ok (.iinc 4 1, 3) := by decide +kernel
theorem dX3_firstToBreak_49 : decode cX3_firstToBreak 49 = .ok (.goto (-32), 3) := by decide +kernel
theorem dX3_firstToBreak_52 : decode cX3_firstToBreak 52 = .ok (.iload_n 2, 1) := by decide +kernel
theorem dX3_firstToBreak_53 : decode cX3_firstToBreak 53 = .ok (.ireturn, 1) := by decide +kernel
set_option maxRecDepth 20000 in
theorem ggX3_wholeAfter_X3_firstToBreak : GoodIn wsX3_wholeAfter wsX3_firstToBreak := goodIn_r _ [6, 7, 8, 9, 10, 5, 11, 1, 12, 13, 14, 15, 16, 17, 18, 19, 20, 21, 22, 23, 24, 25, 26, 27, 28, 29, 30, 31, 32, 33, 34, 35, 36, 37, 38, 39, 40] (by decide +kernel) (by decide +kernel)
set_option maxRecDepth 20000 in
theorem gX3_wholeAfter_X3_firstToBreak : GoodIn wsX3_wholeAfter (wsV RX3 71 RX3 yX3_firstToBreak wsX3_firstToBreak) := goodIn_app (goodIn_of _ (by decide +kernel)) ggX3_wholeAfter_X3_firstToBreak
theorem dX3_wholeAfter_0 : decode cX3_wholeAfter 0 = .ok (.aload_n 0, 1) := by decide +kernel
theorem dX3_wholeAfter_1 : decode cX3_wholeAfter 1 = .ok (.iload_n 1, 1) := by decide +kernel
theorem dX3_wholeAfter_2 : decode cX3_wholeAfter 2 = .ok (.invokevirtual 71, 3) := by decide +kernel
theorem dX3_wholeAfter_5 : decode cX3_wholeAfter 5 = .ok (.istore_n 2, 1) := by decide +kernel
theorem dX3_wholeAfter_6 : decode cX3_wholeAfter 6 = .ok (.iconst 0, 1) := by decide +kernel
theorem dX3_wholeAfter_7 : decode cX3_wholeAfter 7 = .ok (.istore_n 3, 1) := by decide +kernel
theorem dX3_wholeAfter_8 : decode cX3_wholeAfter 8 = .ok (.iload_n 2, 1) := by decide +kernel
theorem dX3_wholeAfter_9 : decode cX3_wholeAfter 9 = .ok (.ifCond .lt 35, 3) := by decide +kernel
theorem dX3_wholeAfter_12 : decode cX3_wholeAfter 12 = .ok (.iload_n 3, 1) := by decide +kernel
theorem dX3_wholeAfter_13 : decode cX3_wholeAfter 13 = .ok (.bipush 8, 2) := by decide +kernel
theorem dX3_wholeAfter_15 : decode cX3_wholeAfter 15 = .ok (.if_icmp .ge 29, 3) := by decide +kernel
theorem dX3_wholeAfter_18 : decode cX3_wholeAfter 18 = .ok (.aload_n 0, 1) := by decide +kernel
theorem dX3_wholeAfter_19 : decode cX3_wholeAfter 19 = .ok (.dup, 1) := by decide +kernel
theorem dX3_wholeAfter_20 : decode cX3_wholeAfter 20 = .ok (.getfield 28, 3) := by decide +kernel
theorem dX3_wholeAfter_23 : decode cX3_wholeAfter 23 = .ok (.iconst 1, 1) := by decide +kernel
theorem dX3_wholeAfter_24 : decode cX3_wholeAfter 24 = .ok (.iload_n 2, 1) := by decide +kernel
theorem dX3_wholeAfter_25 : decode cX3_wholeAfter 25 = .ok (.ishl, 1) := by decide +kernel
theorem dX3_wholeAfter_26 : decode cX3_wholeAfter 26 = .ok (.iconst (-1), 1) := by decide +kernel
theorem dX3_wholeAfter_27 : decode cX3_wholeAfter 27 = .ok (.ixor, 1) := by decide +kernel
theorem dX3_wholeAfter_28 : decode cX3_wholeAfter 28 = .ok (.iand, 1) := by decide +kernel
theorem dX3_wholeAfter_29 : decode cX3_wholeAfter 29 = .ok (.putfield 28, 3) := by decide +kernel
theorem dX3_wholeAfter_32 : decode cX3_wholeAfter 32 = .ok (.aload_n 0, 1) := by decide +kernel
theorem dX3_wholeAfter_33 : decode cX3_wholeAfter 33 = .ok (.iload_n 1, 1) := by decide +kernel
theorem dX3_wholeAfter_34 : decode cX3_wholeAfter 34 = .ok (.invokevirtual 71, 3) := by decide +kernel
theorem dX3_wholeAfter_37 : decode cX3_wholeAfter 37 = .ok (.istore_n 2, 1) := by decide +kernel
theorem dX3_wholeAfter_38 : decode cX3_wholeAfter 38 = .ok (.iinc 3 1, 3) := by decide +kernel
theorem dX3_wholeAfter_41 : decode cX3_wholeAfter 41 = .ok (.goto (-33), 3) := by decide +kernel
theorem dX3_wholeAfter_44 : decode cX3_wholeAfter 44 = .ok (.aload_n 0, 1) := by decide +kernel
theorem dX3_wholeAfter_45 : decode cX3_wholeAfter 45 = .ok (.getfield 28, 3) := by decide +kernel
theorem dX3_wholeAfter_48 : decode cX3_wholeAfter 48 = .ok (.ireturn, 1) := by decide +kernel
set_option maxRecDepth 20000 in
theorem ggX3_leastTooMuch_X3_firstToBreak : GoodIn wsX3_leastTooMuch wsX3_firstToBreak := goodIn_r _ [5, 6, 7, 8, 9, 4, 10, 11, 12, 13, 14, 15, 16, 17, 18, 19, 20, 21, 22, 23, 24, 25, 26, 27, 28, 29, 30, 31, 32, 33, 34, 35, 36, 37, 38, 39, 40] (by decide +kernel) (by decide +kernel)
set_option maxRecDepth 20000 in
theorem gX3_leastTooMuch_X3_firstToBreak : GoodIn wsX3_leastTooMuch (wsV RX3 71 RX3 yX3_firstToBreak wsX3_firstToBreak) := goodIn_app (goodIn_of _ (by decide +kernel)) ggX3_leastTooMuch_X3_firstToBreak
theorem dX3_leastTooMuch_0 : decode cX3_leastTooMuch 0 = .ok (.iconst 1, 1) := by decide +kernel
theorem dX3_leastTooMuch_1 : decode cX3_leastTooMuch 1 = .ok (.istore_n 1, 1) := by decide +kernel
theorem dX3_leastTooMuch_2 : decode cX3_leastTooMuch 2 = .ok (.sipush 1000, 3) := by decide +kernel
theorem dX3_leastTooMuch_5 : decode cX3_leastTooMuch 5 = .ok (.istore_n 2, 1) := by decide +kernel
theorem dX3_leastTooMuch_6 : decode cX3_leastTooMuch 6 = .ok (.iconst 0, 1) := by decide +kernel
theorem dX3_leastTooMuch_7 : decode cX3_leastTooMuch 7 = .ok (.istore_n 3, 1) := by decide +kernel
theorem dX3_leastTooMuch_8 : decode cX3_leastTooMuch 8 = .ok (.iload_n 1, 1) := by decide +kernel
theorem dX3_leastTooMuch_9 : decode cX3_leastTooMuch 9 = .ok (.iload_n 2, 1) := by decide +kernel
theorem dX3_leastTooMuch_10 : decode cX3_leastTooMuch 10 = .ok (.if_icmp .ge 43, 3) := by decide +kernel
theorem dX3_leastTooMuch_13 : decode cX3_leastTooMuch 13 = .ok (.iload_n 3, 1) := by decide +kernel
theorem dX3_leastTooMuch_14 : decode cX3_leastTooMuch 14 = .ok (.sipush 1000, 3) := by decide +kernel
theorem dX3_leastTooMuch_17 : decode cX3_leastTooMuch 17 = .ok (.if_icmp .ge 36, 3) := by decide +kernel
theorem dX3_leastTooMuch_20 : decode cX3_leastTooMuch 20 = .ok (.iload_n 1, 1) := by decide +kernel
theorem dX3_leastTooMuch_21 : decode cX3_leastTooMuch 21 = .ok (.iload_n 2, 1) := by decide +kernel
theorem dX3_leastTooMuch_22 : decode cX3_leastTooMuch 22 = .ok (.iadd, 1) := by decide +kernel
theorem dX3_leastTooMuch_23 : decode cX3_leastTooMuch 23 = .ok (.iconst 2, 1) := by decide +kernel
theorem dX3_leastTooMuch_24 : decode cX3_leastTooMuch 24 = .ok (.idiv, 1) := by decide +kernel
theorem dX3_leastTooMuch_25 : decode cX3_leastTooMuch 25 = .ok (.istore 4, 2) := by decide +kernel
theorem dX3_leastTooMuch_27 : decode cX3_leastTooMuch 27 = .ok (.aload_n 0, 1) := by decide +kernel
theorem dX3_leastTooMuch_28 : decode cX3_leastTooMuch 28 = .ok (.iload 4, 2) := by decide +kernel
theorem dX3_leastTooMuch_30 : decode cX3_leastTooMuch 30 = .ok (.invokevirtual 71, 3) := by decide +kernel
theorem dX3_leastTooMuch_33 : decode cX3_leastTooMuch 33 = .ok (.ifCond .lt 9, 3) := by decide +kernel
theorem dX3_leastTooMuch_36 : decode cX3_leastTooMuch 36 = .ok (.iload 4, 2) := by decide +kernel
theorem dX3_leastTooMuch_38 : decode cX3_leastTooMuch 38 = .ok (.istore_n 2, 1) := by decide +kernel
theorem dX3_leastTooMuch_39 : decode cX3_leastTooMuch 39 = .ok (.goto 8, 3) := by decide +kernel
theorem dX3_leastTooMuch_42 : decode cX3_leastTooMuch 42 = .ok (.iload 4, 2) := by decide +kernel
theorem dX3_leastTooMuch_44 : decode cX3_leastTooMuch 44 = .ok (.iconst 1, 1) := by decide +kernel
theorem dX3_leastTooMuch_45 : decode cX3_leastTooMuch 45 = .ok (.iadd, 1) := by decide +kernel
theorem dX3_leastTooMuch_46 : decode cX3_leastTooMuch 46 = .ok (.istore_n 1, 1) := by decide +kernel
theorem dX3_leastTooMuch_47 : decode cX3_leastTooMuch 47 = .ok (.iinc 3 1, 3) := by decide +kernel
theorem dX3_leastTooMuch_50 : decode cX3_leastTooMuch 50 = .ok (.goto (-42), 3) := by decide +kernel
theorem dX3_leastTooMuch_53 : decode cX3_leastTooMuch 53 = .ok (.iload_n 1, 1) := by decide +kernel
theorem dX3_leastTooMuch_54 : decode cX3_leastTooMuch 54 = .ok (.ireturn, 1) := by decide +kernel
set_option maxRecDepth 20000 in
theorem ggX3_loadAt_X6_holds : GoodIn wsX3_loadAt wsX6_holds := goodIn_r _ [11] (by decide +kernel) (by decide +kernel)
set_option maxRecDepth 20000 in
theorem gX3_loadAt_X6_holds_n31 : GoodIn wsX3_loadAt (wsX6_holds) := ggX3_loadAt_X6_holds
theorem dX3_loadAt_0 : decode cX3_loadAt 0 = .ok (.iconst 0, 1) := by decide +kernel
theorem dX3_loadAt_1 : decode cX3_loadAt 1 = .ok (.istore_n 2, 1) := by decide +kernel
theorem dX3_loadAt_2 : decode cX3_loadAt 2 = .ok (.iconst 0, 1) := by decide +kernel
theorem dX3_loadAt_3 : decode cX3_loadAt 3 = .ok (.istore_n 3, 1) := by decide +kernel
theorem dX3_loadAt_4 : decode cX3_loadAt 4 = .ok (.iload_n 3, 1) := by decide +kernel
theorem dX3_loadAt_5 : decode cX3_loadAt 5 = .ok (.aload_n 0, 1) := by decide +kernel
theorem dX3_loadAt_6 : decode cX3_loadAt 6 = .ok (.getfield 27, 3) := by decide +kernel
theorem dX3_loadAt_9 : decode cX3_loadAt 9 = .ok (.if_icmp .ge 42, 3) := by decide +kernel
theorem dX3_loadAt_12 : decode cX3_loadAt 12 = .ok (.aload_n 0, 1) := by decide +kernel
theorem dX3_loadAt_13 : decode cX3_loadAt 13 = .ok (.getfield 28, 3) := by decide +kernel
theorem dX3_loadAt_16 : decode cX3_loadAt 16 = .ok (.iload_n 3, 1) := by decide +kernel
theorem dX3_loadAt_17 : decode cX3_loadAt 17 = .ok (.invokestatic 31, 3) := by decide +kernel
theorem dX3_loadAt_20 : decode cX3_loadAt 20 = .ok (.ifCond .eq 25, 3) := by decide +kernel
theorem dX3_loadAt_23 : decode cX3_loadAt 23 = .ok (.iload_n 2, 1) := by decide +kernel
theorem dX3_loadAt_24 : decode cX3_loadAt 24 = .ok (.aload_n 0, 1) := by decide +kernel
theorem dX3_loadAt_25 : decode cX3_loadAt 25 = .ok (.getfield 15, 3) := by decide +kernel
theorem dX3_loadAt_28 : decode cX3_loadAt 28 = .ok (.iload_n 3, 1) := by decide +kernel
theorem dX3_loadAt_29 : decode cX3_loadAt 29 = .ok (.iaload, 1) := by decide +kernel
theorem dX3_loadAt_30 : decode cX3_loadAt 30 = .ok (.iconst 0, 1) := by decide +kernel
theorem dX3_loadAt_31 : decode cX3_loadAt 31 = .ok (.iload_n 1, 1) := by decide +kernel
theorem dX3_loadAt_32 : decode cX3_loadAt 32 = .ok (.aload_n 0, 1) := by decide +kernel
theorem dX3_loadAt_33 : decode cX3_loadAt 33 = .ok (.getfield 9, 3) := by decide +kernel
theorem dX3_loadAt_36 : decode cX3_loadAt 36 = .ok (.iload_n 3, 1) := by decide +kernel
theorem dX3_loadAt_37 : decode cX3_loadAt 37 = .ok (.iaload, 1) := by decide +kernel
theorem dX3_loadAt_38 : decode cX3_loadAt 38 = .ok (.isub, 1) := by decide +kernel
theorem dX3_loadAt_39 : decode cX3_loadAt 39 = .ok (.invokestatic 59, 3) := by decide +kernel
theorem dX3_loadAt_42 : decode cX3_loadAt 42 = .ok (.imul, 1) := by decide +kernel
theorem dX3_loadAt_43 : decode cX3_loadAt 43 = .ok (.iadd, 1) := by decide +kernel
theorem dX3_loadAt_44 : decode cX3_loadAt 44 = .ok (.istore_n 2, 1) := by decide +kernel
theorem dX3_loadAt_45 : decode cX3_loadAt 45 = .ok (.iinc 3 1, 3) := by decide +kernel
theorem dX3_loadAt_48 : decode cX3_loadAt 48 = .ok (.goto (-44), 3) := by decide +kernel
theorem dX3_loadAt_51 : decode cX3_loadAt 51 = .ok (.iload_n 2, 1) := by decide +kernel
theorem dX3_loadAt_52 : decode cX3_loadAt 52 = .ok (.ireturn, 1) := by decide +kernel
set_option maxRecDepth 20000 in
theorem ggX3_bearsWithin_X3_press : GoodIn wsX3_bearsWithin wsX3_press := goodIn_r _ [7, 8, 9, 10, 11, 1, 2, 12, 13, 14, 15, 33, 34, 35, 36, 37, 38, 39, 40] (by decide +kernel) (by decide +kernel)
set_option maxRecDepth 20000 in
theorem gX3_bearsWithin_X3_press : GoodIn wsX3_bearsWithin (wsV RX3 51 RX3 yX3_press wsX3_press) := goodIn_app (goodIn_of _ (by decide +kernel)) ggX3_bearsWithin_X3_press
set_option maxRecDepth 20000 in
theorem ggX3_bearsWithin_X3_firstToBreak : GoodIn wsX3_bearsWithin wsX3_firstToBreak := goodIn_r _ [19, 8, 3, 4, 5, 6, 7, 9, 10, 11, 1, 2, 12, 13, 14, 15, 20, 21, 22, 23, 24, 25, 26, 27, 28, 29, 30, 31, 32, 33, 34, 35, 36, 37, 38, 39, 40] (by decide +kernel) (by decide +kernel)
set_option maxRecDepth 20000 in
theorem gX3_bearsWithin_X3_firstToBreak : GoodIn wsX3_bearsWithin (wsV RX3 71 RX3 yX3_firstToBreak wsX3_firstToBreak) := goodIn_app (goodIn_of _ (by decide +kernel)) ggX3_bearsWithin_X3_firstToBreak
theorem dX3_bearsWithin_0 : decode cX3_bearsWithin 0 = .ok (.aload_n 0, 1) := by decide +kernel
theorem dX3_bearsWithin_1 : decode cX3_bearsWithin 1 = .ok (.iload_n 1, 1) := by decide +kernel
theorem dX3_bearsWithin_2 : decode cX3_bearsWithin 2 = .ok (.invokevirtual 51, 3) := by decide +kernel
theorem dX3_bearsWithin_5 : decode cX3_bearsWithin 5 = .ok (.ifCond .eq 28, 3) := by decide +kernel
theorem dX3_bearsWithin_8 : decode cX3_bearsWithin 8 = .ok (.aload_n 0, 1) := by decide +kernel
theorem dX3_bearsWithin_9 : decode cX3_bearsWithin 9 = .ok (.getfield 42, 3) := by decide +kernel
theorem dX3_bearsWithin_12 : decode cX3_bearsWithin 12 = .ok (.iload_n 2, 1) := by decide +kernel
theorem dX3_bearsWithin_13 : decode cX3_bearsWithin 13 = .ok (.aload_n 0, 1) := by decide +kernel
theorem dX3_bearsWithin_14 : decode cX3_bearsWithin 14 = .ok (.getfield 45, 3) := by decide +kernel
theorem dX3_bearsWithin_17 : decode cX3_bearsWithin 17 = .ok (.imul, 1) := by decide +kernel
theorem dX3_bearsWithin_18 : decode cX3_bearsWithin 18 = .ok (.if_icmp .gt 15, 3) := by decide +kernel
theorem dX3_bearsWithin_21 : decode cX3_bearsWithin 21 = .ok (.aload_n 0, 1) := by decide +kernel
theorem dX3_bearsWithin_22 : decode cX3_bearsWithin 22 = .ok (.iload_n 1, 1) := by decide +kernel
theorem dX3_bearsWithin_23 : decode cX3_bearsWithin 23 = .ok (.invokevirtual 71, 3) := by decide +kernel
theorem dX3_bearsWithin_26 : decode cX3_bearsWithin 26 = .ok (.ifCond .ge 7, 3) := by decide +kernel
theorem dX3_bearsWithin_29 : decode cX3_bearsWithin 29 = .ok (.iconst 1, 1) := by decide +kernel
theorem dX3_bearsWithin_30 : decode cX3_bearsWithin 30 = .ok (.goto 4, 3) := by decide +kernel
theorem dX3_bearsWithin_33 : decode cX3_bearsWithin 33 = .ok (.iconst 0, 1) := by decide +kernel
theorem dX3_bearsWithin_34 : decode cX3_bearsWithin 34 = .ok (.ireturn, 1) := by decide +kernel
theorem dX4_init_0 : decode cX4_init 0 = .ok (.aload_n 0, 1) := by decide +kernel
theorem dX4_init_1 : decode cX4_init 1 = .ok (.invokespecial 3, 3) := by decide +kernel
theorem dX4_init_4 : decode cX4_init 4 = .ok (.aload_n 0, 1) := by decide +kernel
theorem dX4_init_5 : decode cX4_init 5 = .ok (.bipush 6, 2) := by decide +kernel
theorem dX4_init_7 : decode cX4_init 7 = .ok (.newarray .int, 2) := by decide +kernel
theorem dX4_init_9 : decode cX4_init 9 = .ok (.putfield 9, 3) := by decide +kernel
theorem dX4_init_12 : decode cX4_init 12 = .ok (.aload_n 0, 1) := by decide +kernel
theorem dX4_init_13 : decode cX4_init 13 = .ok (.bipush 6, 2) := by decide +kernel
theorem dX4_init_15 : decode cX4_init 15 = .ok (.newarray .int, 2) := by decide +kernel
theorem dX4_init_17 : decode cX4_init 17 = .ok (.putfield 15, 3) := by decide +kernel
theorem dX4_init_20 : decode cX4_init 20 = .ok (.return_, 1) := by decide +kernel
theorem dX4_append_0 : decode cX4_append 0 = .ok (.aload_n 0, 1) := by decide +kernel
theorem dX4_append_1 : decode cX4_append 1 = .ok (.getfield 18, 3) := by decide +kernel
theorem dX4_append_4 : decode cX4_append 4 = .ok (.bipush 6, 2) := by decide +kernel
theorem dX4_append_6 : decode cX4_append 6 = .ok (.if_icmp .lt 5, 3) := by decide +kernel
theorem dX4_append_9 : decode cX4_append 9 = .ok (.iconst 0, 1) := by decide +kernel
theorem dX4_append_10 : decode cX4_append 10 = .ok (.ireturn, 1) := by decide +kernel
theorem dX4_append_11 : decode cX4_append 11 = .ok (.aload_n 0, 1) := by decide +kernel
theorem dX4_append_12 : decode cX4_append 12 = .ok (.getfield 9, 3) := by decide +kernel
theorem dX4_append_15 : decode cX4_append 15 = .ok (.aload_n 0, 1) := by decide +kernel
theorem dX4_append_16 : decode cX4_append 16 = .ok (.getfield 18, 3) := by decide +kernel
theorem dX4_append_19 : decode cX4_append 19 = .ok (.iload_n 1, 1) := by decide +kernel
theorem dX4_append_20 : decode cX4_append 20 = .ok (.iastore, 1) := by decide +kernel
theorem dX4_append_21 : decode cX4_append 21 = .ok (.aload_n 0, 1) := by decide +kernel
theorem dX4_append_22 : decode cX4_append 22 = .ok (.getfield 15, 3) := by decide +kernel
theorem dX4_append_25 : decode cX4_append 25 = .ok (.aload_n 0, 1) := by decide +kernel
theorem dX4_append_26 : decode cX4_append 26 = .ok (.getfield 18, 3) := by decide +kernel
theorem dX4_append_29 : decode cX4_append 29 = .ok (.iload_n 2, 1) := by decide +kernel
theorem dX4_append_30 : decode cX4_append 30 = .ok (.iastore, 1) := by decide +kernel
theorem dX4_append_31 : decode cX4_append 31 = .ok (.aload_n 0, 1) := by decide +kernel
theorem dX4_append_32 : decode cX4_append 32 = .ok (.dup, 1) := by decide +kernel
theorem dX4_append_33 : decode cX4_append 33 = .ok (.getfield 18, 3) := by decide +kernel
theorem dX4_append_36 : decode cX4_append 36 = .ok (.iconst 1, 1) := by decide +kernel
theorem dX4_append_37 : decode cX4_append 37 = .ok (.iadd, 1) := by decide +kernel
theorem dX4_append_38 : decode cX4_append 38 = .ok (.putfield 18, 3) := by decide +kernel
theorem dX4_append_41 : decode cX4_append 41 = .ok (.iconst 1, 1) := by decide +kernel
theorem dX4_append_42 : decode cX4_append 42 = .ok (.ireturn, 1) := by decide +kernel
theorem dX4_empty_0 : decode cX4_empty 0 = .ok (.aload_n 0, 1) := by decide +kernel
theorem dX4_empty_1 : decode cX4_empty 1 = .ok (.getfield 18, 3) := by decide +kernel
theorem dX4_empty_4 : decode cX4_empty 4 = .ok (.istore_n 1, 1) := by decide +kernel
theorem dX4_empty_5 : decode cX4_empty 5 = .ok (.aload_n 0, 1) := by decide +kernel
theorem dX4_empty_6 : decode cX4_empty 6 = .ok (.iconst 0, 1) := by decide +kernel
theorem dX4_empty_7 : decode cX4_empty 7 = .ok (.putfield 18, 3) := by decide +kernel
theorem dX4_empty_10 : decode cX4_empty 10 = .ok (.iload_n 1, 1) := by decide +kernel
theorem dX4_empty_11 : decode cX4_empty 11 = .ok (.ireturn, 1) := by decide +kernel
set_option maxRecDepth 20000 in
theorem ggX4_agreeWith_X3_cutBy : GoodIn wsX4_agreeWith wsX3_cutBy := goodIn_r _ [8, 9, 10, 11, 7, 12, 13, 14, 15, 16, 17, 18, 19, 20, 21, 22, 23, 24, 25, 26, 30, 31, 32, 33, 34, 35, 36, 37] (by decide +kernel) (by decide +kernel)
set_option maxRecDepth 20000 in
theorem gX4_agreeWith_X3_cutBy : GoodIn wsX4_agreeWith (wsV RX4 22 RX3 yX3_cutBy wsX3_cutBy) := goodIn_app (goodIn_of _ (by decide +kernel)) ggX4_agreeWith_X3_cutBy
theorem dX4_agreeWith_0 : decode cX4_agreeWith 0 = .ok (.iconst 0, 1) := by decide +kernel
theorem dX4_agreeWith_1 : decode cX4_agreeWith 1 = .ok (.istore_n 2, 1) := by decide +kernel
theorem dX4_agreeWith_2 : decode cX4_agreeWith 2 = .ok (.iload_n 2, 1) := by decide +kernel
theorem dX4_agreeWith_3 : decode cX4_agreeWith 3 = .ok (.aload_n 0, 1) := by decide +kernel
theorem dX4_agreeWith_4 : decode cX4_agreeWith 4 = .ok (.getfield 18, 3) := by decide +kernel
theorem dX4_agreeWith_7 : decode cX4_agreeWith 7 = .ok (.if_icmp .ge 30, 3) := by decide +kernel
theorem dX4_agreeWith_10 : decode cX4_agreeWith 10 = .ok (.aload_n 1, 1) := by decide +kernel
theorem dX4_agreeWith_11 : decode cX4_agreeWith 11 = .ok (.aload_n 0, 1) := by decide +kernel
theorem dX4_agreeWith_12 : decode cX4_agreeWith 12 = .ok (.getfield 9, 3) := by decide +kernel
theorem dX4_agreeWith_15 : decode cX4_agreeWith 15 = .ok (.iload_n 2, 1) := by decide +kernel
theorem dX4_agreeWith_16 : decode cX4_agreeWith 16 = .ok (.iaload, 1) := by decide +kernel
theorem dX4_agreeWith_17 : decode cX4_agreeWith 17 = .ok (.invokevirtual 22, 3) := by decide +kernel
theorem dX4_agreeWith_20 : decode cX4_agreeWith 20 = .ok (.aload_n 0, 1) := by decide +kernel
theorem dX4_agreeWith_21 : decode cX4_agreeWith 21 = .ok (.getfield 15, 3) := by decide +kernel
theorem dX4_agreeWith_24 : decode cX4_agreeWith 24 = .ok (.iload_n 2, 1) := by decide +kernel
theorem dX4_agreeWith_25 : decode cX4_agreeWith 25 = .ok (.iaload, 1) := by decide +kernel
theorem dX4_agreeWith_26 : decode cX4_agreeWith 26 = .ok (.if_icmp .eq 5, 3) := by decide +kernel
theorem dX4_agreeWith_29 : decode cX4_agreeWith 29 = .ok (.iconst 0, 1) := by decide +kernel
theorem dX4_agreeWith_30 : decode cX4_agreeWith 30 = .ok (.ireturn, 1) := by decide +kernel
theorem dX4_agreeWith_31 : decode cX4_agreeWith 31 = .ok (.iinc 2 1, 3) := by decide +kernel
theorem dX4_agreeWith_34 : decode cX4_agreeWith 34 = .ok (.goto (-32), 3) := by decide +kernel
theorem dX4_agreeWith_37 : decode cX4_agreeWith 37 = .ok (.iconst 1, 1) := by decide +kernel
theorem dX4_agreeWith_38 : decode cX4_agreeWith 38 = .ok (.ireturn, 1) := by decide +kernel
theorem dX5_init_0 : decode cX5_init 0 = .ok (.aload_n 0, 1) := by decide +kernel
theorem dX5_init_1 : decode cX5_init 1 = .ok (.invokespecial 3, 3) := by decide +kernel
theorem dX5_init_4 : decode cX5_init 4 = .ok (.aload_n 0, 1) := by decide +kernel
theorem dX5_init_5 : decode cX5_init 5 = .ok (.bipush 100, 2) := by decide +kernel
theorem dX5_init_7 : decode cX5_init 7 = .ok (.newarray .char, 2) := by decide +kernel
theorem dX5_init_9 : decode cX5_init 9 = .ok (.putfield 9, 3) := by decide +kernel
theorem dX5_init_12 : decode cX5_init 12 = .ok (.return_, 1) := by decide +kernel
theorem dX5_append_0 : decode cX5_append 0 = .ok (.aload_n 0, 1) := by decide +kernel
theorem dX5_append_1 : decode cX5_append 1 = .ok (.getfield 15, 3) := by decide +kernel
theorem dX5_append_4 : decode cX5_append 4 = .ok (.bipush 100, 2) := by decide +kernel
theorem dX5_append_6 : decode cX5_append 6 = .ok (.if_icmp .lt 5, 3) := by decide +kernel
theorem dX5_append_9 : decode cX5_append 9 = .ok (.iconst 0, 1) := by decide +kernel
theorem dX5_append_10 : decode cX5_append 10 = .ok (.ireturn, 1) := by decide +kernel
theorem dX5_append_11 : decode cX5_append 11 = .ok (.aload_n 0, 1) := by decide +kernel
theorem dX5_append_12 : decode cX5_append 12 = .ok (.getfield 9, 3) := by decide +kernel
theorem dX5_append_15 : decode cX5_append 15 = .ok (.aload_n 0, 1) := by decide +kernel
theorem dX5_append_16 : decode cX5_append 16 = .ok (.getfield 15, 3) := by decide +kernel
theorem dX5_append_19 : decode cX5_append 19 = .ok (.iload_n 1, 1) := by decide +kernel
theorem dX5_append_20 : decode cX5_append 20 = .ok (.i2c, 1) := by decide +kernel
theorem dX5_append_21 : decode cX5_append 21 = .ok (.castore, 1) := by decide +kernel
theorem dX5_append_22 : decode cX5_append 22 = .ok (.aload_n 0, 1) := by decide +kernel
theorem dX5_append_23 : decode cX5_append 23 = .ok (.dup, 1) := by decide +kernel
theorem dX5_append_24 : decode cX5_append 24 = .ok (.getfield 15, 3) := by decide +kernel
theorem dX5_append_27 : decode cX5_append 27 = .ok (.iconst 1, 1) := by decide +kernel
theorem dX5_append_28 : decode cX5_append 28 = .ok (.iadd, 1) := by decide +kernel
theorem dX5_append_29 : decode cX5_append 29 = .ok (.putfield 15, 3) := by decide +kernel
theorem dX5_append_32 : decode cX5_append 32 = .ok (.iconst 1, 1) := by decide +kernel
theorem dX5_append_33 : decode cX5_append 33 = .ok (.ireturn, 1) := by decide +kernel
theorem dX5_empty_0 : decode cX5_empty 0 = .ok (.aload_n 0, 1) := by decide +kernel
theorem dX5_empty_1 : decode cX5_empty 1 = .ok (.getfield 15, 3) := by decide +kernel
theorem dX5_empty_4 : decode cX5_empty 4 = .ok (.istore_n 1, 1) := by decide +kernel
theorem dX5_empty_5 : decode cX5_empty 5 = .ok (.aload_n 0, 1) := by decide +kernel
theorem dX5_empty_6 : decode cX5_empty 6 = .ok (.iconst 0, 1) := by decide +kernel
theorem dX5_empty_7 : decode cX5_empty 7 = .ok (.putfield 15, 3) := by decide +kernel
theorem dX5_empty_10 : decode cX5_empty 10 = .ok (.iload_n 1, 1) := by decide +kernel
theorem dX5_empty_11 : decode cX5_empty 11 = .ok (.ireturn, 1) := by decide +kernel
set_option maxRecDepth 20000 in
theorem ggX5_readInto_X2_empty : GoodIn wsX5_readInto wsX2_empty := goodIn_r _ [6, 7, 8, 50, 51, 52] (by decide +kernel) (by decide +kernel)
set_option maxRecDepth 20000 in
theorem gX5_readInto_X2_empty : GoodIn wsX5_readInto (wsV RX5 19 RX2 yX2_empty wsX2_empty) := goodIn_app (goodIn_of _ (by decide +kernel)) ggX5_readInto_X2_empty
set_option maxRecDepth 20000 in
theorem ggX5_readInto_X5_behindBlanks : GoodIn wsX5_readInto wsX5_behindBlanks := goodIn_r _ [13, 1, 14, 48, 49] (by decide +kernel) (by decide +kernel)
set_option maxRecDepth 20000 in
theorem gX5_readInto_X5_behindBlanks : GoodIn wsX5_readInto (wsV RX5 24 RX5 yX5_behindBlanks wsX5_behindBlanks) := goodIn_app (goodIn_of _ (by decide +kernel)) ggX5_readInto_X5_behindBlanks
set_option maxRecDepth 20000 in
theorem ggX5_readInto_X5_tokenEnd : GoodIn wsX5_readInto wsX5_tokenEnd := goodIn_r _ [18, 1, 19, 20, 21, 12, 22, 14, 48, 49] (by decide +kernel) (by decide +kernel)
set_option maxRecDepth 20000 in
theorem gX5_readInto_X5_tokenEnd : GoodIn wsX5_readInto (wsV RX5 28 RX5 yX5_tokenEnd wsX5_tokenEnd) := goodIn_app (goodIn_of _ (by decide +kernel)) ggX5_readInto_X5_tokenEnd
set_option maxRecDepth 20000 in
theorem ggX5_readInto_X5_takesToken : GoodIn wsX5_readInto wsX5_takesToken := goodIn_r _ [26, 14, 27, 28, 29, 5, 30, 7, 8, 31, 32, 33, 12, 34, 19, 20, 21, 22, 35, 36, 37, 38, 39, 40, 41, 42, 43, 44, 45, 46, 47, 48, 49, 50, 51, 52] (by decide +kernel) (by decide +kernel)
set_option maxRecDepth 20000 in
theorem gX5_readInto_X5_takesToken : GoodIn wsX5_readInto (wsV RX5 31 RX5 yX5_takesToken wsX5_takesToken) := goodIn_app (goodIn_of _ (by decide +kernel)) ggX5_readInto_X5_takesToken
theorem dX5_readInto_0 : decode cX5_readInto 0 = .ok (.aload_n 1, 1) := by decide +kernel
theorem dX5_readInto_1 : decode cX5_readInto 1 = .ok (.invokevirtual 19, 3) := by decide +kernel
theorem dX5_readInto_4 : decode cX5_readInto 4 = .ok (.iconst 0, 1) := by decide +kernel
theorem dX5_readInto_5 : decode cX5_readInto 5 = .ok (.istore_n 2, 1) := by decide +kernel
theorem dX5_readInto_6 : decode cX5_readInto 6 = .ok (.aload_n 0, 1) := by decide +kernel
theorem dX5_readInto_7 : decode cX5_readInto 7 = .ok (.iconst 0, 1) := by decide +kernel
theorem dX5_readInto_8 : decode cX5_readInto 8 = .ok (.invokevirtual 24, 3) := by decide +kernel
theorem dX5_readInto_11 : decode cX5_readInto 11 = .ok (.istore_n 3, 1) := by decide +kernel
theorem dX5_readInto_12 : decode cX5_readInto 12 = .ok (.iconst 0, 1) := by decide +kernel
theorem dX5_readInto_13 : decode cX5_readInto 13 = .ok (.istore 4, 2) := by decide +kernel
theorem dX5_readInto_15 : decode cX5_readInto 15 = .ok (.iload_n 3, 1) := by decide +kernel
theorem dX5_readInto_16 : decode cX5_readInto 16 = .ok (.aload_n 0, 1) := by decide +kernel
theorem dX5_readInto_17 : decode cX5_readInto 17 = .ok (.getfield 15, 3) := by decide +kernel
theorem dX5_readInto_20 : decode cX5_readInto 20 = .ok (.if_icmp .ge 57, 3) := by decide +kernel
theorem dX5_readInto_23 : decode cX5_readInto 23 = .ok (.iload 4, 2) := by decide +kernel
theorem dX5_readInto_25 : decode cX5_readInto 25 = .ok (.bipush 100, 2) := by decide +kernel
theorem dX5_readInto_27 : decode cX5_readInto 27 = .ok (.if_icmp .ge 50, 3) := by decide +kernel
theorem dX5_readInto_30 : decode cX5_readInto 30 = .ok (.aload_n 0, 1) := by decide +kernel
theorem dX5_readInto_31 : decode cX5_readInto 31 = .ok (.iload_n 3, 1) := by decide +kernel
theorem dX5_readInto_32 : decode cX5_readInto 32 = .ok (.invokevirtual 28, 3) := by decide +kernel
theorem dX5_readInto_35 : decode cX5_readInto 35 = .ok (.istore 5, 2) := by decide +kernel
theorem dX5_readInto_37 : decode cX5_readInto 37 = .ok (.aload_n 0, 1) := by decide +kernel
theorem dX5_readInto_38 : decode cX5_readInto 38 = .ok (.aload_n 1, 1) := by decide +kernel
theorem dX5_readInto_39 : decode cX5_readInto 39 = .ok (.iload_n 2, 1) := by decide +kernel
theorem dX5_readInto_40 : decode cX5_readInto 40 = .ok (.iload_n 3, 1) := by decide +kernel
theorem dX5_readInto_41 : decode cX5_readInto 41 = .ok (.iload 5, 2) := by decide +kernel
theorem dX5_readInto_43 : decode cX5_readInto 43 = .ok (.invokevirtual 31, 3) := by decide +kernel
theorem dX5_readInto_46 : decode cX5_readInto 46 = .ok (.ifCond .ne 5, 3) := by decide +kernel
theorem dX5_readInto_49 : decode cX5_readInto 49 = .ok (.iload_n 3, 1) := by decide +kernel
theorem dX5_readInto_50 : decode cX5_readInto 50 = .ok (.ireturn, 1) := by decide +kernel
theorem dX5_readInto_51 : decode cX5_readInto 51 = .ok (.iload_n 2, 1) := by decide +kernel
theorem dX5_readInto_52 : decode cX5_readInto 52 = .ok (.iconst 5, 1) := by decide +kernel
theorem dX5_readInto_53 : decode cX5_readInto 53 = .ok (.if_icmp .ne 7, 3) := by decide +kernel
theorem dX5_readInto_56 : decode cX5_readInto 56 = .ok (.iconst 0, 1) := by decide +kernel
theorem dX5_readInto_57 : decode cX5_readInto 57 = .ok (.goto 6, 3) := by decide +kernel
theorem dX5_readInto_60 : decode cX5_readInto 60 = .ok (.iload_n 2, 1) := by decide +kernel
theorem dX5_readInto_61 : decode cX5_readInto 61 = .ok (.iconst 1, 1) := by decide +kernel
theorem dX5_readInto_62 : decode cX5_readInto 62 = .ok (.iadd, 1) := by decide +kernel
theorem dX5_readInto_63 : decode cX5_readInto 63 = .ok (.istore_n 2, 1) := by decide +kernel
theorem dX5_readInto_64 : decode cX5_readInto 64 = .ok (.aload_n 0, 1) := by decide +kernel
theorem dX5_readInto_65 : decode cX5_readInto 65 = .ok (.iload 5, 2) := by decide +kernel
theorem dX5_readInto_67 : decode cX5_readInto 67 = .ok (.invokevirtual 24, 3) := by decide +kernel
theorem dX5_readInto_70 : decode cX5_readInto 70 = .ok (.istore_n 3, 1) := by decide +kernel
theorem dX5_readInto_71 : decode cX5_readInto 71 = .ok (.iinc 4 1, 3) := by decide +kernel
theorem dX5_readInto_74 : decode cX5_readInto 74 = .ok (.goto (-59), 3) := by decide +kernel
theorem dX5_readInto_77 : decode cX5_readInto 77 = .ok (.iload_n 2, 1) := by decide +kernel
theorem dX5_readInto_78 : decode cX5_readInto 78 = .ok (.ifCond .ne 14, 3) := by decide +kernel
theorem dX5_readInto_81 : decode cX5_readInto 81 = .ok (.aload_n 1, 1) := by decide +kernel
theorem dX5_readInto_82 : decode cX5_readInto 82 = .ok (.getfield 35, 3) := by decide +kernel
theorem dX5_readInto_85 : decode cX5_readInto 85 = .ok (.ifCond .le 7, 3) := by decide +kernel
theorem dX5_readInto_88 : decode cX5_readInto 88 = .ok (.iconst (-1), 1) := by decide +kernel
theorem dX5_readInto_89 : decode cX5_readInto 89 = .ok (.goto 7, 3) := by decide +kernel
theorem dX5_readInto_92 : decode cX5_readInto 92 = .ok (.aload_n 0, 1) := by decide +kernel
theorem dX5_readInto_93 : decode cX5_readInto 93 = .ok (.getfield 15, 3) := by decide +kernel
theorem dX5_readInto_96 : decode cX5_readInto 96 = .ok (.ireturn, 1) := by decide +kernel
theorem dX5_behindBlanks_0 : decode cX5_behindBlanks 0 = .ok (.iload_n 1, 1) := by decide +kernel
theorem dX5_behindBlanks_1 : decode cX5_behindBlanks 1 = .ok (.istore_n 2, 1) := by decide +kernel
theorem dX5_behindBlanks_2 : decode cX5_behindBlanks 2 = .ok (.iload_n 2, 1) := by decide +kernel
theorem dX5_behindBlanks_3 : decode cX5_behindBlanks 3 = .ok (.aload_n 0, 1) := by decide +kernel
theorem dX5_behindBlanks_4 : decode cX5_behindBlanks 4 = .ok (.getfield 15, 3) := by decide +kernel
theorem dX5_behindBlanks_7 : decode cX5_behindBlanks 7 = .ok (.if_icmp .ge 20, 3) := by decide +kernel
theorem dX5_behindBlanks_10 : decode cX5_behindBlanks 10 = .ok (.aload_n 0, 1) := by decide +kernel
theorem dX5_behindBlanks_11 : decode cX5_behindBlanks 11 = .ok (.getfield 9, 3) := by decide +kernel
theorem dX5_behindBlanks_14 : decode cX5_behindBlanks 14 = .ok (.iload_n 2, 1) := by decide +kernel
theorem dX5_behindBlanks_15 : decode cX5_behindBlanks 15 = .ok (.caload, 1) := by decide +kernel
theorem dX5_behindBlanks_16 : decode cX5_behindBlanks 16 = .ok (.bipush 32, 2) := by decide +kernel
theorem dX5_behindBlanks_18 : decode cX5_behindBlanks 18 = .ok (.if_icmp .ne 9, 3) := by decide +kernel
theorem dX5_behindBlanks_21 : decode cX5_behindBlanks 21 = .ok (.iinc 2 1, 3) := by decide +kernel
theorem dX5_behindBlanks_24 : decode cX5_behindBlanks 24 = .ok (.goto (-22), 3) := by decide +kernel
theorem dX5_behindBlanks_27 : decode cX5_behindBlanks 27 = .ok (.iload_n 2, 1) := by decide +kernel
theorem dX5_behindBlanks_28 : decode cX5_behindBlanks 28 = .ok (.ireturn, 1) := by decide +kernel
set_option maxRecDepth 20000 in
theorem ggX5_tokenEnd_X5_isFigure : GoodIn wsX5_tokenEnd wsX5_isFigure := goodIn_r _ [6, 7, 8, 9] (by decide +kernel) (by decide +kernel)
set_option maxRecDepth 20000 in
theorem gX5_tokenEnd_X5_isFigure : GoodIn wsX5_tokenEnd (wsV RX5 36 RX5 yX5_isFigure wsX5_isFigure) := goodIn_app (goodIn_of _ (by decide +kernel)) ggX5_tokenEnd_X5_isFigure
theorem dX5_tokenEnd_0 : decode cX5_tokenEnd 0 = .ok (.iload_n 1, 1) := by decide +kernel
theorem dX5_tokenEnd_1 : decode cX5_tokenEnd 1 = .ok (.iconst 1, 1) := by decide +kernel
theorem dX5_tokenEnd_2 : decode cX5_tokenEnd 2 = .ok (.iadd, 1) := by decide +kernel
theorem dX5_tokenEnd_3 : decode cX5_tokenEnd 3 = .ok (.istore_n 2, 1) := by decide +kernel
theorem dX5_tokenEnd_4 : decode cX5_tokenEnd 4 = .ok (.aload_n 0, 1) := by decide +kernel
theorem dX5_tokenEnd_5 : decode cX5_tokenEnd 5 = .ok (.iload_n 1, 1) := by decide +kernel
theorem dX5_tokenEnd_6 : decode cX5_tokenEnd 6 = .ok (.invokevirtual 36, 3) := by decide +kernel
theorem dX5_tokenEnd_9 : decode cX5_tokenEnd 9 = .ok (.ifCond .eq 25, 3) := by decide +kernel
theorem dX5_tokenEnd_12 : decode cX5_tokenEnd 12 = .ok (.iload_n 2, 1) := by decide +kernel
theorem dX5_tokenEnd_13 : decode cX5_tokenEnd 13 = .ok (.aload_n 0, 1) := by decide +kernel
theorem dX5_tokenEnd_14 : decode cX5_tokenEnd 14 = .ok (.getfield 15, 3) := by decide +kernel
theorem dX5_tokenEnd_17 : decode cX5_tokenEnd 17 = .ok (.if_icmp .ge 17, 3) := by decide +kernel
theorem dX5_tokenEnd_20 : decode cX5_tokenEnd 20 = .ok (.aload_n 0, 1) := by decide +kernel
theorem dX5_tokenEnd_21 : decode cX5_tokenEnd 21 = .ok (.iload_n 2, 1) := by decide +kernel
theorem dX5_tokenEnd_22 : decode cX5_tokenEnd 22 = .ok (.invokevirtual 36, 3) := by decide +kernel
theorem dX5_tokenEnd_25 : decode cX5_tokenEnd 25 = .ok (.ifCond .eq 9, 3) := by decide +kernel
theorem dX5_tokenEnd_28 : decode cX5_tokenEnd 28 = .ok (.iinc 2 1, 3) := by decide +kernel
theorem dX5_tokenEnd_31 : decode cX5_tokenEnd 31 = .ok (.goto (-19), 3) := by decide +kernel
theorem dX5_tokenEnd_34 : decode cX5_tokenEnd 34 = .ok (.iload_n 2, 1) := by decide +kernel
theorem dX5_tokenEnd_35 : decode cX5_tokenEnd 35 = .ok (.ireturn, 1) := by decide +kernel
theorem dX5_isFigure_0 : decode cX5_isFigure 0 = .ok (.aload_n 0, 1) := by decide +kernel
theorem dX5_isFigure_1 : decode cX5_isFigure 1 = .ok (.getfield 9, 3) := by decide +kernel
theorem dX5_isFigure_4 : decode cX5_isFigure 4 = .ok (.iload_n 1, 1) := by decide +kernel
theorem dX5_isFigure_5 : decode cX5_isFigure 5 = .ok (.caload, 1) := by decide +kernel
theorem dX5_isFigure_6 : decode cX5_isFigure 6 = .ok (.bipush 48, 2) := by decide +kernel
theorem dX5_isFigure_8 : decode cX5_isFigure 8 = .ok (.if_icmp .lt 18, 3) := by decide +kernel
theorem dX5_isFigure_11 : decode cX5_isFigure 11 = .ok (.aload_n 0, 1) := by decide +kernel
theorem dX5_isFigure_12 : decode cX5_isFigure 12 = .ok (.getfield 9, 3) := by decide +kernel
theorem dX5_isFigure_15 : decode cX5_isFigure 15 = .ok (.iload_n 1, 1) := by decide +kernel
theorem dX5_isFigure_16 : decode cX5_isFigure 16 = .ok (.caload, 1) := by decide +kernel
theorem dX5_isFigure_17 : decode cX5_isFigure 17 = .ok (.bipush 57, 2) := by decide +kernel
theorem dX5_isFigure_19 : decode cX5_isFigure 19 = .ok (.if_icmp .gt 7, 3) := by decide +kernel
theorem dX5_isFigure_22 : decode cX5_isFigure 22 = .ok (.iconst 1, 1) := by decide +kernel
theorem dX5_isFigure_23 : decode cX5_isFigure 23 = .ok (.goto 4, 3) := by decide +kernel
theorem dX5_isFigure_26 : decode cX5_isFigure 26 = .ok (.iconst 0, 1) := by decide +kernel
theorem dX5_isFigure_27 : decode cX5_isFigure 27 = .ok (.ireturn, 1) := by decide +kernel
set_option maxRecDepth 20000 in
theorem ggX5_takesToken_X2_appendWhole : GoodIn wsX5_takesToken wsX2_appendWhole := goodIn_r _ [6, 7, 8, 33, 34, 35] (by decide +kernel) (by decide +kernel)
set_option maxRecDepth 20000 in
theorem gX5_takesToken_X2_appendWhole : GoodIn wsX5_takesToken (wsV RX5 40 RX2 yX2_appendWhole wsX2_appendWhole) := goodIn_app (goodIn_of _ (by decide +kernel)) ggX5_takesToken_X2_appendWhole
set_option maxRecDepth 20000 in
theorem ggX5_takesToken_X5_numberAt : GoodIn wsX5_takesToken wsX5_numberAt := goodIn_r _ [13, 1, 14, 15, 16, 12, 17, 31, 32] (by decide +kernel) (by decide +kernel)
set_option maxRecDepth 20000 in
theorem gX5_takesToken_X5_numberAt : GoodIn wsX5_takesToken (wsV RX5 43 RX5 yX5_numberAt wsX5_numberAt) := goodIn_app (goodIn_of _ (by decide +kernel)) ggX5_takesToken_X5_numberAt
set_option maxRecDepth 20000 in
theorem ggX5_takesToken_X2_mostOfNext : GoodIn wsX5_takesToken wsX2_mostOfNext := goodIn_r _ [21, 7, 22, 23, 24, 5, 25, 26, 33, 34, 35] (by decide +kernel) (by decide +kernel)
set_option maxRecDepth 20000 in
theorem gX5_takesToken_X2_mostOfNext : GoodIn wsX5_takesToken (wsV RX5 51 RX2 yX2_mostOfNext wsX2_mostOfNext) := goodIn_app (goodIn_of _ (by decide +kernel)) ggX5_takesToken_X2_mostOfNext
set_option maxRecDepth 20000 in
theorem ggX5_takesToken_X2_put : GoodIn wsX5_takesToken wsX2_put := goodIn_r _ [30, 26, 33, 34, 35] (by decide +kernel) (by decide +kernel)
set_option maxRecDepth 20000 in
theorem gX5_takesToken_X2_put : GoodIn wsX5_takesToken (wsV RX5 54 RX2 yX2_put wsX2_put) := goodIn_app (goodIn_of _ (by decide +kernel)) ggX5_takesToken_X2_put
theorem dX5_takesToken_0 : decode cX5_takesToken 0 = .ok (.iload_n 2, 1) := by decide +kernel
theorem dX5_takesToken_1 : decode cX5_takesToken 1 = .ok (.ifCond .ne 29, 3) := by decide +kernel
theorem dX5_takesToken_4 : decode cX5_takesToken 4 = .ok (.aload_n 0, 1) := by decide +kernel
theorem dX5_takesToken_5 : decode cX5_takesToken 5 = .ok (.getfield 9, 3) := by decide +kernel
theorem dX5_takesToken_8 : decode cX5_takesToken 8 = .ok (.iload_n 3, 1) := by decide +kernel
theorem dX5_takesToken_9 : decode cX5_takesToken 9 = .ok (.caload, 1) := by decide +kernel
theorem dX5_takesToken_10 : decode cX5_takesToken 10 = .ok (.bipush 108, 2) := by decide +kernel
theorem dX5_takesToken_12 : decode cX5_takesToken 12 = .ok (.if_icmp .ne 16, 3) := by decide +kernel
theorem dX5_takesToken_15 : decode cX5_takesToken 15 = .ok (.aload_n 1, 1) := by decide +kernel
theorem dX5_takesToken_16 : decode cX5_takesToken 16 = .ok (.getfield 35, 3) := by decide +kernel
theorem dX5_takesToken_19 : decode cX5_takesToken 19 = .ok (.bipush 8, 2) := by decide +kernel
theorem dX5_takesToken_21 : decode cX5_takesToken 21 = .ok (.if_icmp .ge 7, 3) := by decide +kernel
theorem dX5_takesToken_24 : decode cX5_takesToken 24 = .ok (.iconst 1, 1) := by decide +kernel
theorem dX5_takesToken_25 : decode cX5_takesToken 25 = .ok (.goto 4, 3) := by decide +kernel
theorem dX5_takesToken_28 : decode cX5_takesToken 28 = .ok (.iconst 0, 1) := by decide +kernel
theorem dX5_takesToken_29 : decode cX5_takesToken 29 = .ok (.ireturn, 1) := by decide +kernel
theorem dX5_takesToken_30 : decode cX5_takesToken 30 = .ok (.iload_n 2, 1) := by decide +kernel
theorem dX5_takesToken_31 : decode cX5_takesToken 31 = .ok (.iconst 5, 1) := by decide +kernel
theorem dX5_takesToken_32 : decode cX5_takesToken 32 = .ok (.if_icmp .ne 33, 3) := by decide +kernel
theorem dX5_takesToken_35 : decode cX5_takesToken 35 = .ok (.aload_n 0, 1) := by decide +kernel
theorem dX5_takesToken_36 : decode cX5_takesToken 36 = .ok (.getfield 9, 3) := by decide +kernel
theorem dX5_takesToken_39 : decode cX5_takesToken 39 = .ok (.iload_n 3, 1) := by decide +kernel
theorem dX5_takesToken_40 : decode cX5_takesToken 40 = .ok (.caload, 1) := by decide +kernel
theorem dX5_takesToken_41 : decode cX5_takesToken 41 = .ok (.bipush 59, 2) := by decide +kernel
theorem dX5_takesToken_43 : decode cX5_takesToken 43 = .ok (.if_icmp .ne 7, 3) := by decide +kernel
theorem dX5_takesToken_46 : decode cX5_takesToken 46 = .ok (.iconst 1, 1) := by decide +kernel
theorem dX5_takesToken_47 : decode cX5_takesToken 47 = .ok (.goto 4, 3) := by decide +kernel
theorem dX5_takesToken_50 : decode cX5_takesToken 50 = .ok (.iconst 0, 1) := by decide +kernel
theorem dX5_takesToken_51 : decode cX5_takesToken 51 = .ok (.istore 5, 2) := by decide +kernel
theorem dX5_takesToken_53 : decode cX5_takesToken 53 = .ok (.iload 5, 2) := by decide +kernel
theorem dX5_takesToken_55 : decode cX5_takesToken 55 = .ok (.ifCond .eq 7, 3) := by decide +kernel
theorem dX5_takesToken_58 : decode cX5_takesToken 58 = .ok (.aload_n 1, 1) := by decide +kernel
theorem dX5_takesToken_59 : decode cX5_takesToken 59 = .ok (.invokevirtual 40, 3) := by decide +kernel
theorem dX5_takesToken_62 : decode cX5_takesToken 62 = .ok (.iload 5, 2) := by decide +kernel
theorem dX5_takesToken_64 : decode cX5_takesToken 64 = .ok (.ireturn, 1) := by decide +kernel
theorem dX5_takesToken_65 : decode cX5_takesToken 65 = .ok (.iload_n 2, 1) := by decide +kernel
theorem dX5_takesToken_66 : decode cX5_takesToken 66 = .ok (.iconst 1, 1) := by decide +kernel
theorem dX5_takesToken_67 : decode cX5_takesToken 67 = .ok (.isub, 1) := by decide +kernel
theorem dX5_takesToken_68 : decode cX5_takesToken 68 = .ok (.istore 5, 2) := by decide +kernel
theorem dX5_takesToken_70 : decode cX5_takesToken 70 = .ok (.aload_n 0, 1) := by decide +kernel
theorem dX5_takesToken_71 : decode cX5_takesToken 71 = .ok (.iload_n 3, 1) := by decide +kernel
theorem dX5_takesToken_72 : decode cX5_takesToken 72 = .ok (.iload 4, 2) := by decide +kernel
theorem dX5_takesToken_74 : decode cX5_takesToken 74 = .ok (.invokevirtual 43, 3) := by decide +kernel
theorem dX5_takesToken_77 : decode cX5_takesToken 77 = .ok (.istore 6, 2) := by decide +kernel
theorem dX5_takesToken_79 : decode cX5_takesToken 79 = .ok (.iload 6, 2) := by decide +kernel
theorem dX5_takesToken_81 : decode cX5_takesToken 81 = .ok (.getstatic 47, 3) := by decide +kernel
theorem dX5_takesToken_84 : decode cX5_takesToken 84 = .ok (.iload 5, 2) := by decide +kernel
theorem dX5_takesToken_86 : decode cX5_takesToken 86 = .ok (.iaload, 1) := by decide +kernel
theorem dX5_takesToken_87 : decode cX5_takesToken 87 = .ok (.if_icmp .lt 14, 3) := by decide +kernel
theorem dX5_takesToken_90 : decode cX5_takesToken 90 = .ok (.iload 6, 2) := by decide +kernel
theorem dX5_takesToken_92 : decode cX5_takesToken 92 = .ok (.aload_n 1, 1) := by decide +kernel
theorem dX5_takesToken_93 : decode cX5_takesToken 93 = .ok (.iload 5, 2) := by decide +kernel
theorem dX5_takesToken_95 : decode cX5_takesToken 95 = .ok (.invokevirtual 51, 3) := by decide +kernel
theorem dX5_takesToken_98 : decode cX5_takesToken 98 = .ok (.if_icmp .le 5, 3) := by decide +kernel
theorem dX5_takesToken_101 : decode cX5_takesToken 101 = .ok (.iconst 0, 1) := by decide +kernel
theorem dX5_takesToken_102 : decode cX5_takesToken 102 = .ok (.ireturn, 1) := by decide +kernel
theorem dX5_takesToken_103 : decode cX5_takesToken 103 = .ok (.aload_n 1, 1) := by decide +kernel
theorem dX5_takesToken_104 : decode cX5_takesToken 104 = .ok (.iload 5, 2) := by decide +kernel
theorem dX5_takesToken_106 : decode cX5_takesToken 106 = .ok (.aload_n 1, 1) := by decide +kernel
theorem dX5_takesToken_107 : decode cX5_takesToken 107 = .ok (.getfield 35, 3) := by decide +kernel
theorem dX5_takesToken_110 : decode cX5_takesToken 110 = .ok (.iload 6, 2) := by decide +kernel
theorem dX5_takesToken_112 : decode cX5_takesToken 112 = .ok (.invokevirtual 54, 3) := by decide +kernel
theorem dX5_takesToken_115 : decode cX5_takesToken 115 = .ok (.iconst 1, 1) := by decide +kernel
theorem dX5_takesToken_116 : decode cX5_takesToken 116 = .ok (.ireturn, 1) := by decide +kernel
set_option maxRecDepth 20000 in
theorem ggX5_numberAt_X5_isFigure : GoodIn wsX5_numberAt wsX5_isFigure := goodIn_r _ [6, 1, 7, 8] (by decide +kernel) (by decide +kernel)
set_option maxRecDepth 20000 in
theorem gX5_numberAt_X5_isFigure : GoodIn wsX5_numberAt (wsV RX5 36 RX5 yX5_isFigure wsX5_isFigure) := goodIn_app (goodIn_of _ (by decide +kernel)) ggX5_numberAt_X5_isFigure
theorem dX5_numberAt_0 : decode cX5_numberAt 0 = .ok (.iload_n 2, 1) := by decide +kernel
theorem dX5_numberAt_1 : decode cX5_numberAt 1 = .ok (.iload_n 1, 1) := by decide +kernel
theorem dX5_numberAt_2 : decode cX5_numberAt 2 = .ok (.isub, 1) := by decide +kernel
theorem dX5_numberAt_3 : decode cX5_numberAt 3 = .ok (.istore_n 3, 1) := by decide +kernel
theorem dX5_numberAt_4 : decode cX5_numberAt 4 = .ok (.iload_n 3, 1) := by decide +kernel
theorem dX5_numberAt_5 : decode cX5_numberAt 5 = .ok (.iconst 1, 1) := by decide +kernel
theorem dX5_numberAt_6 : decode cX5_numberAt 6 = .ok (.if_icmp .le 18, 3) := by decide +kernel
theorem dX5_numberAt_9 : decode cX5_numberAt 9 = .ok (.aload_n 0, 1) := by decide +kernel
theorem dX5_numberAt_10 : decode cX5_numberAt 10 = .ok (.getfield 9, 3) := by decide +kernel
theorem dX5_numberAt_13 : decode cX5_numberAt 13 = .ok (.iload_n 1, 1) := by decide +kernel
theorem dX5_numberAt_14 : decode cX5_numberAt 14 = .ok (.caload, 1) := by decide +kernel
theorem dX5_numberAt_15 : decode cX5_numberAt 15 = .ok (.bipush 48, 2) := by decide +kernel
theorem dX5_numberAt_17 : decode cX5_numberAt 17 = .ok (.if_icmp .ne 7, 3) := by decide +kernel
theorem dX5_numberAt_20 : decode cX5_numberAt 20 = .ok (.iconst 1, 1) := by decide +kernel
theorem dX5_numberAt_21 : decode cX5_numberAt 21 = .ok (.goto 4, 3) := by decide +kernel
theorem dX5_numberAt_24 : decode cX5_numberAt 24 = .ok (.iconst 0, 1) := by decide +kernel
theorem dX5_numberAt_25 : decode cX5_numberAt 25 = .ok (.istore 4, 2) := by decide +kernel
theorem dX5_numberAt_27 : decode cX5_numberAt 27 = .ok (.aload_n 0, 1) := by decide +kernel
theorem dX5_numberAt_28 : decode cX5_numberAt 28 = .ok (.iload_n 1, 1) := by decide +kernel
theorem dX5_numberAt_29 : decode cX5_numberAt 29 = .ok (.invokevirtual 36, 3) := by decide +kernel
theorem dX5_numberAt_32 : decode cX5_numberAt 32 = .ok (.ifCond .eq 13, 3) := by decide +kernel
theorem dX5_numberAt_35 : decode cX5_numberAt 35 = .ok (.iload 4, 2) := by decide +kernel
theorem dX5_numberAt_37 : decode cX5_numberAt 37 = .ok (.ifCond .ne 8, 3) := by decide +kernel
theorem dX5_numberAt_40 : decode cX5_numberAt 40 = .ok (.iload_n 3, 1) := by decide +kernel
theorem dX5_numberAt_41 : decode cX5_numberAt 41 = .ok (.iconst 2, 1) := by decide +kernel
theorem dX5_numberAt_42 : decode cX5_numberAt 42 = .ok (.if_icmp .le 5, 3) := by decide +kernel
theorem dX5_numberAt_45 : decode cX5_numberAt 45 = .ok (.iconst (-1), 1) := by decide +kernel
theorem dX5_numberAt_46 : decode cX5_numberAt 46 = .ok (.ireturn, 1) := by decide +kernel
theorem dX5_numberAt_47 : decode cX5_numberAt 47 = .ok (.iconst 0, 1) := by decide +kernel
theorem dX5_numberAt_48 : decode cX5_numberAt 48 = .ok (.istore 5, 2) := by decide +kernel
theorem dX5_numberAt_50 : decode cX5_numberAt 50 = .ok (.iload_n 1, 1) := by decide +kernel
theorem dX5_numberAt_51 : decode cX5_numberAt 51 = .ok (.istore 6, 2) := by decide +kernel
theorem dX5_numberAt_53 : decode cX5_numberAt 53 = .ok (.iload 6, 2) := by decide +kernel
theorem dX5_numberAt_55 : decode cX5_numberAt 55 = .ok (.iload_n 2, 1) := by decide +kernel
theorem dX5_numberAt_56 : decode cX5_numberAt 56 = .ok (.if_icmp .ge 27, 3) := by decide +kernel
theorem dX5_numberAt_59 : decode cX5_numberAt 59 = .ok (.iload 5, 2) := by decide +kernel
theorem dX5_numberAt_61 : decode cX5_numberAt 61 = .ok (.bipush 10, 2) := by decide +kernel
theorem dX5_numberAt_63 : decode cX5_numberAt 63 = .ok (.imul, 1) := by decide +kernel
theorem dX5_numberAt_64 : decode cX5_numberAt 64 = .ok (.aload_n 0, 1) := by decide +kernel
theorem dX5_numberAt_65 : decode cX5_numberAt 65 = .ok (.getfield 9, 3) := by decide +kernel
theorem dX5_numberAt_68 : decode cX5_numberAt 68 = .ok (.iload 6, 2) := by decide +kernel
theorem dX5_numberAt_70 : decode cX5_numberAt 70 = .ok (.caload, 1) := by decide +kernel
theorem dX5_numberAt_71 : decode cX5_numberAt 71 = .ok (.bipush 48, 2) := by decide +kernel
theorem dX5_numberAt_73 : decode cX5_numberAt 73 = .ok (.isub, 1) := by decide +kernel
theorem dX5_numberAt_74 : decode cX5_numberAt 74 = .ok (.iadd, 1) := by decide +kernel
theorem dX5_numberAt_75 : decode cX5_numberAt 75 = .ok (.istore 5, 2) := by decide +kernel
theorem dX5_numberAt_77 : decode cX5_numberAt 77 = .ok (.iinc 6 1, 3) := by decide +kernel
theorem dX5_numberAt_80 : decode cX5_numberAt 80 = .ok (.goto (-27), 3) := by decide +kernel
theorem dX5_numberAt_83 : decode cX5_numberAt 83 = .ok (.iload 5, 2) := by decide +kernel
theorem dX5_numberAt_85 : decode cX5_numberAt 85 = .ok (.ireturn, 1) := by decide +kernel
theorem dJ6_bitCount_0f7a4_0 : decode cJ6_bitCount_0f7a4 0 = .ok (.iload_n 0, 1) := by decide +kernel
theorem dJ6_bitCount_0f7a4_1 : decode cJ6_bitCount_0f7a4 1 = .ok (.iload_n 0, 1) := by decide +kernel
theorem dJ6_bitCount_0f7a4_2 : decode cJ6_bitCount_0f7a4 2 = .ok (.iconst 1, 1) := by decide +kernel
theorem dJ6_bitCount_0f7a4_3 : decode cJ6_bitCount_0f7a4 3 = .ok (.iushr, 1) := by decide +kernel
theorem dJ6_bitCount_0f7a4_4 : decode cJ6_bitCount_0f7a4 4 = .ok (.ldc_w 265, 3) := by decide +kernel
theorem dJ6_bitCount_0f7a4_7 : decode cJ6_bitCount_0f7a4 7 = .ok (.iand, 1) := by decide +kernel
theorem dJ6_bitCount_0f7a4_8 : decode cJ6_bitCount_0f7a4 8 = .ok (.isub, 1) := by decide +kernel
theorem dJ6_bitCount_0f7a4_9 : decode cJ6_bitCount_0f7a4 9 = .ok (.istore_n 0, 1) := by decide +kernel
theorem dJ6_bitCount_0f7a4_10 : decode cJ6_bitCount_0f7a4 10 = .ok (.iload_n 0, 1) := by decide +kernel
theorem dJ6_bitCount_0f7a4_11 : decode cJ6_bitCount_0f7a4 11 = .ok (.ldc_w 266, 3) := by decide +kernel
theorem dJ6_bitCount_0f7a4_14 : decode cJ6_bitCount_0f7a4 14 = .ok (.iand, 1) := by decide +kernel
theorem dJ6_bitCount_0f7a4_15 : decode cJ6_bitCount_0f7a4 15 = .ok (.iload_n 0, 1) := by decide +kernel
theorem dJ6_bitCount_0f7a4_16 : decode cJ6_bitCount_0f7a4 16 = .ok (.iconst 2, 1) := by decide +kernel
theorem dJ6_bitCount_0f7a4_17 : decode cJ6_bitCount_0f7a4 17 = .ok (.iushr, 1) := by decide +kernel
theorem dJ6_bitCount_0f7a4_18 : decode cJ6_bitCount_0f7a4 18 = .ok (.ldc_w 266, 3) := by decide +kernel
theorem dJ6_bitCount_0f7a4_21 : decode cJ6_bitCount_0f7a4 21 = .ok (.iand, 1) := by decide +kernel
theorem dJ6_bitCount_0f7a4_22 : decode cJ6_bitCount_0f7a4 22 = .ok (.iadd, 1) := by decide +kernel
theorem dJ6_bitCount_0f7a4_23 : decode cJ6_bitCount_0f7a4 23 = .ok (.istore_n 0, 1) := by decide +kernel
theorem dJ6_bitCount_0f7a4_24 : decode cJ6_bitCount_0f7a4 24 = .ok (.iload_n 0, 1) := by decide +kernel
theorem dJ6_bitCount_0f7a4_25 : decode cJ6_bitCount_0f7a4 25 = .ok (.iload_n 0, 1) := by decide +kernel
theorem dJ6_bitCount_0f7a4_26 : decode cJ6_bitCount_0f7a4 26 = .ok (.iconst 4, 1) := by decide +kernel
theorem dJ6_bitCount_0f7a4_27 : decode cJ6_bitCount_0f7a4 27 = .ok (.iushr, 1) := by decide +kernel
theorem dJ6_bitCount_0f7a4_28 : decode cJ6_bitCount_0f7a4 28 = .ok (.iadd, 1) := by decide +kernel
theorem dJ6_bitCount_0f7a4_29 : decode cJ6_bitCount_0f7a4 29 = .ok (.ldc_w 267, 3) := by decide +kernel
theorem dJ6_bitCount_0f7a4_32 : decode cJ6_bitCount_0f7a4 32 = .ok (.iand, 1) := by decide +kernel
theorem dJ6_bitCount_0f7a4_33 : decode cJ6_bitCount_0f7a4 33 = .ok (.istore_n 0, 1) := by decide +kernel
theorem dJ6_bitCount_0f7a4_34 : decode cJ6_bitCount_0f7a4 34 = .ok (.iload_n 0, 1) := by decide +kernel
theorem dJ6_bitCount_0f7a4_35 : decode cJ6_bitCount_0f7a4 35 = .ok (.iload_n 0, 1) := by decide +kernel
theorem dJ6_bitCount_0f7a4_36 : decode cJ6_bitCount_0f7a4 36 = .ok (.bipush 8, 2) := by decide +kernel
theorem dJ6_bitCount_0f7a4_38 : decode cJ6_bitCount_0f7a4 38 = .ok (.iushr, 1) := by decide +kernel
theorem dJ6_bitCount_0f7a4_39 : decode cJ6_bitCount_0f7a4 39 = .ok (.iadd, 1) := by decide +kernel
theorem dJ6_bitCount_0f7a4_40 : decode cJ6_bitCount_0f7a4 40 = .ok (.istore_n 0, 1) := by decide +kernel
theorem dJ6_bitCount_0f7a4_41 : decode cJ6_bitCount_0f7a4 41 = .ok (.iload_n 0, 1) := by decide +kernel
theorem dJ6_bitCount_0f7a4_42 : decode cJ6_bitCount_0f7a4 42 = .ok (.iload_n 0, 1) := by decide +kernel
theorem dJ6_bitCount_0f7a4_43 : decode cJ6_bitCount_0f7a4 43 = .ok (.bipush 16, 2) := by decide +kernel
theorem dJ6_bitCount_0f7a4_45 : decode cJ6_bitCount_0f7a4 45 = .ok (.iushr, 1) := by decide +kernel
theorem dJ6_bitCount_0f7a4_46 : decode cJ6_bitCount_0f7a4 46 = .ok (.iadd, 1) := by decide +kernel
theorem dJ6_bitCount_0f7a4_47 : decode cJ6_bitCount_0f7a4 47 = .ok (.istore_n 0, 1) := by decide +kernel
theorem dJ6_bitCount_0f7a4_48 : decode cJ6_bitCount_0f7a4 48 = .ok (.iload_n 0, 1) := by decide +kernel
theorem dJ6_bitCount_0f7a4_49 : decode cJ6_bitCount_0f7a4 49 = .ok (.bipush 63, 2) := by decide +kernel
theorem dJ6_bitCount_0f7a4_51 : decode cJ6_bitCount_0f7a4 51 = .ok (.iand, 1) := by decide +kernel
theorem dJ6_bitCount_0f7a4_52 : decode cJ6_bitCount_0f7a4 52 = .ok (.ireturn, 1) := by decide +kernel
theorem dJ9_max_7cf53_0 : decode cJ9_max_7cf53 0 = .ok (.iload_n 0, 1) := by decide +kernel
theorem dJ9_max_7cf53_1 : decode cJ9_max_7cf53 1 = .ok (.iload_n 1, 1) := by decide +kernel
theorem dJ9_max_7cf53_2 : decode cJ9_max_7cf53 2 = .ok (.if_icmp .lt 7, 3) := by decide +kernel
theorem dJ9_max_7cf53_5 : decode cJ9_max_7cf53 5 = .ok (.iload_n 0, 1) := by decide +kernel
theorem dJ9_max_7cf53_6 : decode cJ9_max_7cf53 6 = .ok (.goto 4, 3) := by decide +kernel
theorem dJ9_max_7cf53_9 : decode cJ9_max_7cf53 9 = .ok (.iload_n 1, 1) := by decide +kernel
theorem dJ9_max_7cf53_10 : decode cJ9_max_7cf53 10 = .ok (.ireturn, 1) := by decide +kernel
theorem dJ9_min_7cf53_0 : decode cJ9_min_7cf53 0 = .ok (.iload_n 0, 1) := by decide +kernel
theorem dJ9_min_7cf53_1 : decode cJ9_min_7cf53 1 = .ok (.iload_n 1, 1) := by decide +kernel
theorem dJ9_min_7cf53_2 : decode cJ9_min_7cf53 2 = .ok (.if_icmp .gt 7, 3) := by decide +kernel
theorem dJ9_min_7cf53_5 : decode cJ9_min_7cf53 5 = .ok (.iload_n 0, 1) := by decide +kernel
theorem dJ9_min_7cf53_6 : decode cJ9_min_7cf53 6 = .ok (.goto 4, 3) := by decide +kernel
theorem dJ9_min_7cf53_9 : decode cJ9_min_7cf53 9 = .ok (.iload_n 1, 1) := by decide +kernel
theorem dJ9_min_7cf53_10 : decode cJ9_min_7cf53 10 = .ok (.ireturn, 1) := by decide +kernel
