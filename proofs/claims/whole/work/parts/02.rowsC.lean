set_option maxRecDepth 20000 in
theorem ggX0_init_X6_init : GoodIn wsX0_init wsX6_init := goodIn_r _ [12, 13, 2, 3, 14, 15, 16, 17, 18, 19, 20, 21] rfl (by decide +kernel)
set_option maxRecDepth 20000 in
theorem gX0_init_X6_init : GoodIn wsX0_init (wsX6_init) := ggX0_init_X6_init
theorem dX0_init_0 : decode cX0_init 0 = .ok (.aload_n 0, 1) := by decide +kernel
theorem dX0_init_1 : decode cX0_init 1 = .ok (.invokespecial 3, 3) := by decide +kernel
theorem dX0_init_4 : decode cX0_init 4 = .ok (.aload_n 0, 1) := by decide +kernel
theorem dX0_init_5 : decode cX0_init 5 = .ok (.new 9, 3) := by decide +kernel
theorem dX0_init_8 : decode cX0_init 8 = .ok (.dup, 1) := by decide +kernel
theorem dX0_init_9 : decode cX0_init 9 = .ok (.bipush 6, 2) := by decide +kernel
theorem dX0_init_11 : decode cX0_init 11 = .ok (.invokespecial 11, 3) := by decide +kernel
theorem dX0_init_14 : decode cX0_init 14 = .ok (.putfield 14, 3) := by decide +kernel
theorem dX0_init_17 : decode cX0_init 17 = .ok (.aload_n 0, 1) := by decide +kernel
theorem dX0_init_18 : decode cX0_init 18 = .ok (.new 9, 3) := by decide +kernel
theorem dX0_init_21 : decode cX0_init 21 = .ok (.dup, 1) := by decide +kernel
theorem dX0_init_22 : decode cX0_init 22 = .ok (.bipush 96, 2) := by decide +kernel
theorem dX0_init_24 : decode cX0_init 24 = .ok (.invokespecial 11, 3) := by decide +kernel
theorem dX0_init_27 : decode cX0_init 27 = .ok (.putfield 20, 3) := by decide +kernel
theorem dX0_init_30 : decode cX0_init 30 = .ok (.aload_n 0, 1) := by decide +kernel
theorem dX0_init_31 : decode cX0_init 31 = .ok (.iload_n 1, 1) := by decide +kernel
theorem dX0_init_32 : decode cX0_init 32 = .ok (.putfield 23, 3) := by decide +kernel
theorem dX0_init_35 : decode cX0_init 35 = .ok (.return_, 1) := by decide +kernel
set_option maxRecDepth 20000 in
theorem ggX0_begin_X6_empty : GoodIn wsX0_begin wsX6_empty := goodIn_r _ [12, 13, 27, 28] rfl (by decide +kernel)
set_option maxRecDepth 20000 in
theorem gX0_begin_X6_empty : GoodIn wsX0_begin (wsV RX0 27 RX6 yX6_empty wsX6_empty) := goodIn_app (goodIn_of _ (by decide +kernel)) ggX0_begin_X6_empty
set_option maxRecDepth 20000 in
theorem ggX0_begin_X6_addAll : GoodIn wsX0_begin wsX6_addAll := goodIn_r _ [17, 13, 18, 27, 28] rfl (by decide +kernel)
set_option maxRecDepth 20000 in
theorem gX0_begin_X6_addAll : GoodIn wsX0_begin (wsV RX0 30 RX6 yX6_addAll wsX6_addAll) := goodIn_app (goodIn_of _ (by decide +kernel)) ggX0_begin_X6_addAll
theorem dX0_begin_0 : decode cX0_begin 0 = .ok (.aload_n 0, 1) := by decide +kernel
theorem dX0_begin_1 : decode cX0_begin 1 = .ok (.getfield 14, 3) := by decide +kernel
theorem dX0_begin_4 : decode cX0_begin 4 = .ok (.invokevirtual 27, 3) := by decide +kernel
theorem dX0_begin_7 : decode cX0_begin 7 = .ok (.aload_n 0, 1) := by decide +kernel
theorem dX0_begin_8 : decode cX0_begin 8 = .ok (.getfield 14, 3) := by decide +kernel
theorem dX0_begin_11 : decode cX0_begin 11 = .ok (.aload_n 1, 1) := by decide +kernel
theorem dX0_begin_12 : decode cX0_begin 12 = .ok (.invokevirtual 30, 3) := by decide +kernel
theorem dX0_begin_15 : decode cX0_begin 15 = .ok (.aload_n 0, 1) := by decide +kernel
theorem dX0_begin_16 : decode cX0_begin 16 = .ok (.getfield 20, 3) := by decide +kernel
theorem dX0_begin_19 : decode cX0_begin 19 = .ok (.invokevirtual 27, 3) := by decide +kernel
theorem dX0_begin_22 : decode cX0_begin 22 = .ok (.aload_n 0, 1) := by decide +kernel
theorem dX0_begin_23 : decode cX0_begin 23 = .ok (.iconst 0, 1) := by decide +kernel
theorem dX0_begin_24 : decode cX0_begin 24 = .ok (.putfield 34, 3) := by decide +kernel
theorem dX0_begin_27 : decode cX0_begin 27 = .ok (.aload_n 0, 1) := by decide +kernel
theorem dX0_begin_28 : decode cX0_begin 28 = .ok (.iconst 0, 1) := by decide +kernel
theorem dX0_begin_29 : decode cX0_begin 29 = .ok (.putfield 37, 3) := by decide +kernel
theorem dX0_begin_32 : decode cX0_begin 32 = .ok (.aload_n 0, 1) := by decide +kernel
theorem dX0_begin_33 : decode cX0_begin 33 = .ok (.iconst 0, 1) := by decide +kernel
theorem dX0_begin_34 : decode cX0_begin 34 = .ok (.putfield 40, 3) := by decide +kernel
theorem dX0_begin_37 : decode cX0_begin 37 = .ok (.aload_n 0, 1) := by decide +kernel
theorem dX0_begin_38 : decode cX0_begin 38 = .ok (.iconst 0, 1) := by decide +kernel
theorem dX0_begin_39 : decode cX0_begin 39 = .ok (.putfield 43, 3) := by decide +kernel
theorem dX0_begin_42 : decode cX0_begin 42 = .ok (.aload_n 0, 1) := by decide +kernel
theorem dX0_begin_43 : decode cX0_begin 43 = .ok (.iconst 0, 1) := by decide +kernel
theorem dX0_begin_44 : decode cX0_begin 44 = .ok (.putfield 46, 3) := by decide +kernel
theorem dX0_begin_47 : decode cX0_begin 47 = .ok (.return_, 1) := by decide +kernel
set_option maxRecDepth 20000 in
theorem ggX1_init_X0_init : GoodIn wsX1_init wsX0_init := goodIn_r _ [10, 11, 2, 3, 12, 13, 14, 15, 16, 17, 18, 19, 20, 21, 22, 23, 24, 25, 26, 27, 38, 39, 30, 31, 32, 33, 34, 35, 36, 37] rfl (by decide +kernel)
set_option maxRecDepth 20000 in
theorem gX1_init_X0_init : GoodIn wsX1_init (wsX0_init) := ggX1_init_X0_init
theorem dX1_init_0 : decode cX1_init 0 = .ok (.aload_n 0, 1) := by decide +kernel
theorem dX1_init_1 : decode cX1_init 1 = .ok (.invokespecial 3, 3) := by decide +kernel
theorem dX1_init_4 : decode cX1_init 4 = .ok (.aload_n 0, 1) := by decide +kernel
theorem dX1_init_5 : decode cX1_init 5 = .ok (.bipush 40, 2) := by decide +kernel
theorem dX1_init_7 : decode cX1_init 7 = .ok (.anewarray 9, 3) := by decide +kernel
theorem dX1_init_10 : decode cX1_init 10 = .ok (.putfield 11, 3) := by decide +kernel
theorem dX1_init_13 : decode cX1_init 13 = .ok (.iconst 0, 1) := by decide +kernel
theorem dX1_init_14 : decode cX1_init 14 = .ok (.istore_n 1, 1) := by decide +kernel
theorem dX1_init_15 : decode cX1_init 15 = .ok (.iload_n 1, 1) := by decide +kernel
theorem dX1_init_16 : decode cX1_init 16 = .ok (.aload_n 0, 1) := by decide +kernel
theorem dX1_init_17 : decode cX1_init 17 = .ok (.getfield 11, 3) := by decide +kernel
theorem dX1_init_20 : decode cX1_init 20 = .ok (.arraylength, 1) := by decide +kernel
theorem dX1_init_21 : decode cX1_init 21 = .ok (.if_icmp .ge 23, 3) := by decide +kernel
theorem dX1_init_24 : decode cX1_init 24 = .ok (.aload_n 0, 1) := by decide +kernel
theorem dX1_init_25 : decode cX1_init 25 = .ok (.getfield 11, 3) := by decide +kernel
theorem dX1_init_28 : decode cX1_init 28 = .ok (.iload_n 1, 1) := by decide +kernel
theorem dX1_init_29 : decode cX1_init 29 = .ok (.new 9, 3) := by decide +kernel
theorem dX1_init_32 : decode cX1_init 32 = .ok (.dup, 1) := by decide +kernel
theorem dX1_init_33 : decode cX1_init 33 = .ok (.iload_n 1, 1) := by decide +kernel
theorem dX1_init_34 : decode cX1_init 34 = .ok (.invokespecial 17, 3) := by decide +kernel
theorem dX1_init_37 : decode cX1_init 37 = .ok (.aastore, 1) := by decide +kernel
theorem dX1_init_38 : decode cX1_init 38 = .ok (.iinc 1 1, 3) := by decide +kernel
theorem dX1_init_41 : decode cX1_init 41 = .ok (.goto (-26), 3) := by decide +kernel
theorem dX1_init_44 : decode cX1_init 44 = .ok (.return_, 1) := by decide +kernel
theorem dX1_at_0 : decode cX1_at 0 = .ok (.iload_n 1, 1) := by decide +kernel
theorem dX1_at_1 : decode cX1_at 1 = .ok (.ifCond .lt 20, 3) := by decide +kernel
theorem dX1_at_4 : decode cX1_at 4 = .ok (.iload_n 1, 1) := by decide +kernel
theorem dX1_at_5 : decode cX1_at 5 = .ok (.aload_n 0, 1) := by decide +kernel
theorem dX1_at_6 : decode cX1_at 6 = .ok (.getfield 20, 3) := by decide +kernel
theorem dX1_at_9 : decode cX1_at 9 = .ok (.if_icmp .ge 12, 3) := by decide +kernel
theorem dX1_at_12 : decode cX1_at 12 = .ok (.iload_n 1, 1) := by decide +kernel
theorem dX1_at_13 : decode cX1_at 13 = .ok (.aload_n 0, 1) := by decide +kernel
theorem dX1_at_14 : decode cX1_at 14 = .ok (.getfield 11, 3) := by decide +kernel
theorem dX1_at_17 : decode cX1_at 17 = .ok (.arraylength, 1) := by decide +kernel
theorem dX1_at_18 : decode cX1_at 18 = .ok (.if_icmp .lt 7, 3) := by decide +kernel
theorem dX1_at_21 : decode cX1_at 21 = .ok (.aconst_null, 1) := by decide +kernel
theorem dX1_at_22 : decode cX1_at 22 = .ok (.goto 9, 3) := by decide +kernel
theorem dX1_at_25 : decode cX1_at 25 = .ok (.aload_n 0, 1) := by decide +kernel
theorem dX1_at_26 : decode cX1_at 26 = .ok (.getfield 11, 3) := by decide +kernel
theorem dX1_at_29 : decode cX1_at 29 = .ok (.iload_n 1, 1) := by decide +kernel
theorem dX1_at_30 : decode cX1_at 30 = .ok (.aaload, 1) := by decide +kernel
theorem dX1_at_31 : decode cX1_at 31 = .ok (.areturn, 1) := by decide +kernel
theorem dX1_next_0 : decode cX1_next 0 = .ok (.aload_n 0, 1) := by decide +kernel
theorem dX1_next_1 : decode cX1_next 1 = .ok (.getfield 20, 3) := by decide +kernel
theorem dX1_next_4 : decode cX1_next 4 = .ok (.ifCond .lt 15, 3) := by decide +kernel
theorem dX1_next_7 : decode cX1_next 7 = .ok (.aload_n 0, 1) := by decide +kernel
theorem dX1_next_8 : decode cX1_next 8 = .ok (.getfield 20, 3) := by decide +kernel
theorem dX1_next_11 : decode cX1_next 11 = .ok (.aload_n 0, 1) := by decide +kernel
theorem dX1_next_12 : decode cX1_next 12 = .ok (.getfield 11, 3) := by decide +kernel
theorem dX1_next_15 : decode cX1_next 15 = .ok (.arraylength, 1) := by decide +kernel
theorem dX1_next_16 : decode cX1_next 16 = .ok (.if_icmp .lt 7, 3) := by decide +kernel
theorem dX1_next_19 : decode cX1_next 19 = .ok (.aconst_null, 1) := by decide +kernel
theorem dX1_next_20 : decode cX1_next 20 = .ok (.goto 12, 3) := by decide +kernel
theorem dX1_next_23 : decode cX1_next 23 = .ok (.aload_n 0, 1) := by decide +kernel
theorem dX1_next_24 : decode cX1_next 24 = .ok (.getfield 11, 3) := by decide +kernel
theorem dX1_next_27 : decode cX1_next 27 = .ok (.aload_n 0, 1) := by decide +kernel
theorem dX1_next_28 : decode cX1_next 28 = .ok (.getfield 20, 3) := by decide +kernel
theorem dX1_next_31 : decode cX1_next 31 = .ok (.aaload, 1) := by decide +kernel
theorem dX1_next_32 : decode cX1_next 32 = .ok (.areturn, 1) := by decide +kernel
set_option maxRecDepth 20000 in
theorem ggX1_atRisk_X1_at : GoodIn wsX1_atRisk wsX1_at := goodIn_r _ [8, 1, 9, 10, 11] rfl (by decide +kernel)
set_option maxRecDepth 20000 in
theorem gX1_atRisk_X1_at : GoodIn wsX1_atRisk (wsV RX1 24 RX1 yX1_at wsX1_at) := goodIn_app (goodIn_of _ (by decide +kernel)) ggX1_atRisk_X1_at
theorem dX1_atRisk_0 : decode cX1_atRisk 0 = .ok (.iconst 0, 1) := by decide +kernel
theorem dX1_atRisk_1 : decode cX1_atRisk 1 = .ok (.istore_n 2, 1) := by decide +kernel
theorem dX1_atRisk_2 : decode cX1_atRisk 2 = .ok (.iconst 0, 1) := by decide +kernel
theorem dX1_atRisk_3 : decode cX1_atRisk 3 = .ok (.istore_n 3, 1) := by decide +kernel
theorem dX1_atRisk_4 : decode cX1_atRisk 4 = .ok (.iload_n 3, 1) := by decide +kernel
theorem dX1_atRisk_5 : decode cX1_atRisk 5 = .ok (.aload_n 0, 1) := by decide +kernel
theorem dX1_atRisk_6 : decode cX1_atRisk 6 = .ok (.getfield 20, 3) := by decide +kernel
theorem dX1_atRisk_9 : decode cX1_atRisk 9 = .ok (.if_icmp .ge 41, 3) := by decide +kernel
theorem dX1_atRisk_12 : decode cX1_atRisk 12 = .ok (.aload_n 0, 1) := by decide +kernel
theorem dX1_atRisk_13 : decode cX1_atRisk 13 = .ok (.iload_n 3, 1) := by decide +kernel
theorem dX1_atRisk_14 : decode cX1_atRisk 14 = .ok (.invokevirtual 24, 3) := by decide +kernel
theorem dX1_atRisk_17 : decode cX1_atRisk 17 = .ok (.astore 4, 2) := by decide +kernel
theorem dX1_atRisk_19 : decode cX1_atRisk 19 = .ok (.aload 4, 2) := by decide +kernel
theorem dX1_atRisk_21 : decode cX1_atRisk 21 = .ok (.ifnull 23, 3) := by decide +kernel
theorem dX1_atRisk_24 : decode cX1_atRisk 24 = .ok (.aload 4, 2) := by decide +kernel
theorem dX1_atRisk_26 : decode cX1_atRisk 26 = .ok (.getfield 28, 3) := by decide +kernel
theorem dX1_atRisk_29 : decode cX1_atRisk 29 = .ok (.ifCond .ne 15, 3) := by decide +kernel
theorem dX1_atRisk_32 : decode cX1_atRisk 32 = .ok (.aload 4, 2) := by decide +kernel
theorem dX1_atRisk_34 : decode cX1_atRisk 34 = .ok (.getfield 32, 3) := by decide +kernel
theorem dX1_atRisk_37 : decode cX1_atRisk 37 = .ok (.iload_n 1, 1) := by decide +kernel
theorem dX1_atRisk_38 : decode cX1_atRisk 38 = .ok (.if_icmp .le 6, 3) := by decide +kernel
theorem dX1_atRisk_41 : decode cX1_atRisk 41 = .ok (.iinc 2 1, 3) := by decide +kernel
theorem dX1_atRisk_44 : decode cX1_atRisk 44 = .ok (.iinc 3 1, 3) := by decide +kernel
theorem dX1_atRisk_47 : decode cX1_atRisk 47 = .ok (.goto (-43), 3) := by decide +kernel
theorem dX1_atRisk_50 : decode cX1_atRisk 50 = .ok (.iload_n 2, 1) := by decide +kernel
theorem dX1_atRisk_51 : decode cX1_atRisk 51 = .ok (.ireturn, 1) := by decide +kernel
set_option maxRecDepth 20000 in
theorem ggX1_isBlocked_X1_at : GoodIn wsX1_isBlocked wsX1_at := goodIn_r _ [6, 7, 8, 17, 18] rfl (by decide +kernel)
set_option maxRecDepth 20000 in
theorem gX1_isBlocked_X1_at : GoodIn wsX1_isBlocked (wsV RX1 24 RX1 yX1_at wsX1_at) := goodIn_app (goodIn_of _ (by decide +kernel)) ggX1_isBlocked_X1_at
theorem dX1_isBlocked_0 : decode cX1_isBlocked 0 = .ok (.aload_n 0, 1) := by decide +kernel
theorem dX1_isBlocked_1 : decode cX1_isBlocked 1 = .ok (.iload_n 1, 1) := by decide +kernel
theorem dX1_isBlocked_2 : decode cX1_isBlocked 2 = .ok (.invokevirtual 24, 3) := by decide +kernel
theorem dX1_isBlocked_5 : decode cX1_isBlocked 5 = .ok (.astore_n 2, 1) := by decide +kernel
theorem dX1_isBlocked_6 : decode cX1_isBlocked 6 = .ok (.aload_n 2, 1) := by decide +kernel
theorem dX1_isBlocked_7 : decode cX1_isBlocked 7 = .ok (.ifnull 15, 3) := by decide +kernel
theorem dX1_isBlocked_10 : decode cX1_isBlocked 10 = .ok (.aload_n 2, 1) := by decide +kernel
theorem dX1_isBlocked_11 : decode cX1_isBlocked 11 = .ok (.getfield 35, 3) := by decide +kernel
theorem dX1_isBlocked_14 : decode cX1_isBlocked 14 = .ok (.iconst 1, 1) := by decide +kernel
theorem dX1_isBlocked_15 : decode cX1_isBlocked 15 = .ok (.if_icmp .ne 7, 3) := by decide +kernel
theorem dX1_isBlocked_18 : decode cX1_isBlocked 18 = .ok (.iconst 1, 1) := by decide +kernel
theorem dX1_isBlocked_19 : decode cX1_isBlocked 19 = .ok (.goto 4, 3) := by decide +kernel
theorem dX1_isBlocked_22 : decode cX1_isBlocked 22 = .ok (.iconst 0, 1) := by decide +kernel
theorem dX1_isBlocked_23 : decode cX1_isBlocked 23 = .ok (.ireturn, 1) := by decide +kernel
set_option maxRecDepth 20000 in
theorem ggX1_blocked_X1_isBlocked : GoodIn wsX1_blocked wsX1_isBlocked := goodIn_r _ [6, 7, 8, 9, 10, 5, 11, 1, 12, 15, 16, 17, 18, 19, 20, 21, 22, 13, 14] rfl (by decide +kernel)
set_option maxRecDepth 20000 in
theorem gX1_blocked_X1_isBlocked : GoodIn wsX1_blocked (wsV RX1 38 RX1 yX1_isBlocked wsX1_isBlocked) := goodIn_app (goodIn_of _ (by decide +kernel)) ggX1_blocked_X1_isBlocked
theorem dX1_blocked_0 : decode cX1_blocked 0 = .ok (.iconst 0, 1) := by decide +kernel
theorem dX1_blocked_1 : decode cX1_blocked 1 = .ok (.istore_n 1, 1) := by decide +kernel
theorem dX1_blocked_2 : decode cX1_blocked 2 = .ok (.iconst 0, 1) := by decide +kernel
theorem dX1_blocked_3 : decode cX1_blocked 3 = .ok (.istore_n 2, 1) := by decide +kernel
theorem dX1_blocked_4 : decode cX1_blocked 4 = .ok (.iload_n 2, 1) := by decide +kernel
theorem dX1_blocked_5 : decode cX1_blocked 5 = .ok (.aload_n 0, 1) := by decide +kernel
theorem dX1_blocked_6 : decode cX1_blocked 6 = .ok (.getfield 20, 3) := by decide +kernel
theorem dX1_blocked_9 : decode cX1_blocked 9 = .ok (.if_icmp .ge 25, 3) := by decide +kernel
theorem dX1_blocked_12 : decode cX1_blocked 12 = .ok (.iload_n 1, 1) := by decide +kernel
theorem dX1_blocked_13 : decode cX1_blocked 13 = .ok (.aload_n 0, 1) := by decide +kernel
theorem dX1_blocked_14 : decode cX1_blocked 14 = .ok (.iload_n 2, 1) := by decide +kernel
theorem dX1_blocked_15 : decode cX1_blocked 15 = .ok (.invokevirtual 38, 3) := by decide +kernel
theorem dX1_blocked_18 : decode cX1_blocked 18 = .ok (.ifCond .eq 7, 3) := by decide +kernel
theorem dX1_blocked_21 : decode cX1_blocked 21 = .ok (.iconst 1, 1) := by decide +kernel
theorem dX1_blocked_22 : decode cX1_blocked 22 = .ok (.goto 4, 3) := by decide +kernel
theorem dX1_blocked_25 : decode cX1_blocked 25 = .ok (.iconst 0, 1) := by decide +kernel
theorem dX1_blocked_26 : decode cX1_blocked 26 = .ok (.iadd, 1) := by decide +kernel
theorem dX1_blocked_27 : decode cX1_blocked 27 = .ok (.istore_n 1, 1) := by decide +kernel
theorem dX1_blocked_28 : decode cX1_blocked 28 = .ok (.iinc 2 1, 3) := by decide +kernel
theorem dX1_blocked_31 : decode cX1_blocked 31 = .ok (.goto (-27), 3) := by decide +kernel
theorem dX1_blocked_34 : decode cX1_blocked 34 = .ok (.iload_n 1, 1) := by decide +kernel
theorem dX1_blocked_35 : decode cX1_blocked 35 = .ok (.ireturn, 1) := by decide +kernel
set_option maxRecDepth 20000 in
theorem ggX1_blockedAt_X1_isBlocked : GoodIn wsX1_blockedAt wsX1_isBlocked := goodIn_r _ [6, 7, 8, 9, 10, 5, 11, 1, 12, 24, 25, 26, 27, 28, 29, 30, 31, 22, 23] rfl (by decide +kernel)
set_option maxRecDepth 20000 in
theorem gX1_blockedAt_X1_isBlocked : GoodIn wsX1_blockedAt (wsV RX1 38 RX1 yX1_isBlocked wsX1_isBlocked) := goodIn_app (goodIn_of _ (by decide +kernel)) ggX1_blockedAt_X1_isBlocked
set_option maxRecDepth 20000 in
theorem ggX1_blockedAt_X1_blockedBefore : GoodIn wsX1_blockedAt wsX1_blockedBefore := goodIn_r _ [16, 1, 2, 3, 4, 5, 6, 7, 8, 9, 10, 11, 12, 17, 18, 19, 20, 21, 22, 23, 24, 25, 26, 27, 28, 29, 30, 31] rfl (by decide +kernel)
set_option maxRecDepth 20000 in
theorem gX1_blockedAt_X1_blockedBefore : GoodIn wsX1_blockedAt (wsV RX1 42 RX1 yX1_blockedBefore wsX1_blockedBefore) := goodIn_app (goodIn_of _ (by decide +kernel)) ggX1_blockedAt_X1_blockedBefore
theorem dX1_blockedAt_0 : decode cX1_blockedAt 0 = .ok (.iconst 0, 1) := by decide +kernel
theorem dX1_blockedAt_1 : decode cX1_blockedAt 1 = .ok (.istore_n 2, 1) := by decide +kernel
theorem dX1_blockedAt_2 : decode cX1_blockedAt 2 = .ok (.iload_n 2, 1) := by decide +kernel
theorem dX1_blockedAt_3 : decode cX1_blockedAt 3 = .ok (.aload_n 0, 1) := by decide +kernel
theorem dX1_blockedAt_4 : decode cX1_blockedAt 4 = .ok (.getfield 20, 3) := by decide +kernel
theorem dX1_blockedAt_7 : decode cX1_blockedAt 7 = .ok (.if_icmp .ge 28, 3) := by decide +kernel
theorem dX1_blockedAt_10 : decode cX1_blockedAt 10 = .ok (.aload_n 0, 1) := by decide +kernel
theorem dX1_blockedAt_11 : decode cX1_blockedAt 11 = .ok (.iload_n 2, 1) := by decide +kernel
theorem dX1_blockedAt_12 : decode cX1_blockedAt 12 = .ok (.invokevirtual 38, 3) := by decide +kernel
theorem dX1_blockedAt_15 : decode cX1_blockedAt 15 = .ok (.ifCond .eq 14, 3) := by decide +kernel
theorem dX1_blockedAt_18 : decode cX1_blockedAt 18 = .ok (.aload_n 0, 1) := by decide +kernel
theorem dX1_blockedAt_19 : decode cX1_blockedAt 19 = .ok (.iload_n 2, 1) := by decide +kernel
theorem dX1_blockedAt_20 : decode cX1_blockedAt 20 = .ok (.invokevirtual 42, 3) := by decide +kernel
theorem dX1_blockedAt_23 : decode cX1_blockedAt 23 = .ok (.iload_n 1, 1) := by decide +kernel
theorem dX1_blockedAt_24 : decode cX1_blockedAt 24 = .ok (.if_icmp .ne 5, 3) := by decide +kernel
theorem dX1_blockedAt_27 : decode cX1_blockedAt 27 = .ok (.iload_n 2, 1) := by decide +kernel
theorem dX1_blockedAt_28 : decode cX1_blockedAt 28 = .ok (.ireturn, 1) := by decide +kernel
theorem dX1_blockedAt_29 : decode cX1_blockedAt 29 = .ok (.iinc 2 1, 3) := by decide +kernel
theorem dX1_blockedAt_32 : decode cX1_blockedAt 32 = .ok (.goto (-30), 3) := by decide +kernel
theorem dX1_blockedAt_35 : decode cX1_blockedAt 35 = .ok (.bipush (-9), 2) := by decide +kernel
theorem dX1_blockedAt_37 : decode cX1_blockedAt 37 = .ok (.ireturn, 1) := by decide +kernel
set_option maxRecDepth 20000 in
theorem ggX1_blockedBefore_X1_isBlocked : GoodIn wsX1_blockedBefore wsX1_isBlocked := goodIn_r _ [6, 7, 8, 9, 10, 5, 11, 1, 12, 20, 21, 22, 23, 24, 25, 26, 27, 18, 19] rfl (by decide +kernel)
set_option maxRecDepth 20000 in
theorem gX1_blockedBefore_X1_isBlocked : GoodIn wsX1_blockedBefore (wsV RX1 38 RX1 yX1_isBlocked wsX1_isBlocked) := goodIn_app (goodIn_of _ (by decide +kernel)) ggX1_blockedBefore_X1_isBlocked
set_option maxRecDepth 20000 in
theorem ggX1_blockedBefore_X1_isBefore : GoodIn wsX1_blockedBefore wsX1_isBefore := goodIn_r _ [16, 17, 8, 9, 10, 5, 11, 1, 12, 20, 21, 22, 23, 24, 25, 26, 27, 18, 19] rfl (by decide +kernel)
set_option maxRecDepth 20000 in
theorem gX1_blockedBefore_X1_isBefore : GoodIn wsX1_blockedBefore (wsV RX1 46 RX1 yX1_isBefore wsX1_isBefore) := goodIn_app (goodIn_of _ (by decide +kernel)) ggX1_blockedBefore_X1_isBefore
theorem dX1_blockedBefore_0 : decode cX1_blockedBefore 0 = .ok (.iconst 0, 1) := by decide +kernel
theorem dX1_blockedBefore_1 : decode cX1_blockedBefore 1 = .ok (.istore_n 2, 1) := by decide +kernel
theorem dX1_blockedBefore_2 : decode cX1_blockedBefore 2 = .ok (.iconst 0, 1) := by decide +kernel
theorem dX1_blockedBefore_3 : decode cX1_blockedBefore 3 = .ok (.istore_n 3, 1) := by decide +kernel
theorem dX1_blockedBefore_4 : decode cX1_blockedBefore 4 = .ok (.iload_n 3, 1) := by decide +kernel
theorem dX1_blockedBefore_5 : decode cX1_blockedBefore 5 = .ok (.aload_n 0, 1) := by decide +kernel
theorem dX1_blockedBefore_6 : decode cX1_blockedBefore 6 = .ok (.getfield 20, 3) := by decide +kernel
theorem dX1_blockedBefore_9 : decode cX1_blockedBefore 9 = .ok (.if_icmp .ge 34, 3) := by decide +kernel
theorem dX1_blockedBefore_12 : decode cX1_blockedBefore 12 = .ok (.iload_n 2, 1) := by decide +kernel
theorem dX1_blockedBefore_13 : decode cX1_blockedBefore 13 = .ok (.aload_n 0, 1) := by decide +kernel
theorem dX1_blockedBefore_14 : decode cX1_blockedBefore 14 = .ok (.iload_n 3, 1) := by decide +kernel
theorem dX1_blockedBefore_15 : decode cX1_blockedBefore 15 = .ok (.invokevirtual 38, 3) := by decide +kernel
theorem dX1_blockedBefore_18 : decode cX1_blockedBefore 18 = .ok (.ifCond .eq 16, 3) := by decide +kernel
theorem dX1_blockedBefore_21 : decode cX1_blockedBefore 21 = .ok (.aload_n 0, 1) := by decide +kernel
theorem dX1_blockedBefore_22 : decode cX1_blockedBefore 22 = .ok (.iload_n 3, 1) := by decide +kernel
theorem dX1_blockedBefore_23 : decode cX1_blockedBefore 23 = .ok (.iload_n 1, 1) := by decide +kernel
theorem dX1_blockedBefore_24 : decode cX1_blockedBefore 24 = .ok (.invokevirtual 46, 3) := by decide +kernel
theorem dX1_blockedBefore_27 : decode cX1_blockedBefore 27 = .ok (.ifCond .eq 7, 3) := by decide +kernel
theorem dX1_blockedBefore_30 : decode cX1_blockedBefore 30 = .ok (.iconst 1, 1) := by decide +kernel
theorem dX1_blockedBefore_31 : decode cX1_blockedBefore 31 = .ok (.goto 4, 3) := by decide +kernel
theorem dX1_blockedBefore_34 : decode cX1_blockedBefore 34 = .ok (.iconst 0, 1) := by decide +kernel
theorem dX1_blockedBefore_35 : decode cX1_blockedBefore 35 = .ok (.iadd, 1) := by decide +kernel
theorem dX1_blockedBefore_36 : decode cX1_blockedBefore 36 = .ok (.istore_n 2, 1) := by decide +kernel
theorem dX1_blockedBefore_37 : decode cX1_blockedBefore 37 = .ok (.iinc 3 1, 3) := by decide +kernel
theorem dX1_blockedBefore_40 : decode cX1_blockedBefore 40 = .ok (.goto (-36), 3) := by decide +kernel
theorem dX1_blockedBefore_43 : decode cX1_blockedBefore 43 = .ok (.iload_n 2, 1) := by decide +kernel
theorem dX1_blockedBefore_44 : decode cX1_blockedBefore 44 = .ok (.ireturn, 1) := by decide +kernel
set_option maxRecDepth 20000 in
theorem ggX1_isBefore_X1_at : GoodIn wsX1_isBefore wsX1_at := goodIn_r _ [6, 7, 8, 17, 18] rfl (by decide +kernel)
set_option maxRecDepth 20000 in
theorem gX1_isBefore_X1_at : GoodIn wsX1_isBefore (wsV RX1 24 RX1 yX1_at wsX1_at) := goodIn_app (goodIn_of _ (by decide +kernel)) ggX1_isBefore_X1_at
theorem dX1_isBefore_0 : decode cX1_isBefore 0 = .ok (.aload_n 0, 1) := by decide +kernel
theorem dX1_isBefore_1 : decode cX1_isBefore 1 = .ok (.iload_n 1, 1) := by decide +kernel
theorem dX1_isBefore_2 : decode cX1_isBefore 2 = .ok (.invokevirtual 24, 3) := by decide +kernel
theorem dX1_isBefore_5 : decode cX1_isBefore 5 = .ok (.astore_n 3, 1) := by decide +kernel
theorem dX1_isBefore_6 : decode cX1_isBefore 6 = .ok (.aload_n 0, 1) := by decide +kernel
theorem dX1_isBefore_7 : decode cX1_isBefore 7 = .ok (.iload_n 2, 1) := by decide +kernel
theorem dX1_isBefore_8 : decode cX1_isBefore 8 = .ok (.invokevirtual 24, 3) := by decide +kernel
theorem dX1_isBefore_11 : decode cX1_isBefore 11 = .ok (.astore 4, 2) := by decide +kernel
theorem dX1_isBefore_13 : decode cX1_isBefore 13 = .ok (.aload_n 3, 1) := by decide +kernel
theorem dX1_isBefore_14 : decode cX1_isBefore 14 = .ok (.ifnull 8, 3) := by decide +kernel
theorem dX1_isBefore_17 : decode cX1_isBefore 17 = .ok (.aload 4, 2) := by decide +kernel
theorem dX1_isBefore_19 : decode cX1_isBefore 19 = .ok (.ifnonnull 5, 3) := by decide +kernel
theorem dX1_isBefore_22 : decode cX1_isBefore 22 = .ok (.iconst 0, 1) := by decide +kernel
theorem dX1_isBefore_23 : decode cX1_isBefore 23 = .ok (.ireturn, 1) := by decide +kernel
theorem dX1_isBefore_24 : decode cX1_isBefore 24 = .ok (.aload_n 3, 1) := by decide +kernel
theorem dX1_isBefore_25 : decode cX1_isBefore 25 = .ok (.getfield 32, 3) := by decide +kernel
theorem dX1_isBefore_28 : decode cX1_isBefore 28 = .ok (.aload 4, 2) := by decide +kernel
theorem dX1_isBefore_30 : decode cX1_isBefore 30 = .ok (.getfield 32, 3) := by decide +kernel
theorem dX1_isBefore_33 : decode cX1_isBefore 33 = .ok (.if_icmp .lt 20, 3) := by decide +kernel
theorem dX1_isBefore_36 : decode cX1_isBefore 36 = .ok (.aload_n 3, 1) := by decide +kernel
theorem dX1_isBefore_37 : decode cX1_isBefore 37 = .ok (.getfield 32, 3) := by decide +kernel
theorem dX1_isBefore_40 : decode cX1_isBefore 40 = .ok (.aload 4, 2) := by decide +kernel
theorem dX1_isBefore_42 : decode cX1_isBefore 42 = .ok (.getfield 32, 3) := by decide +kernel
theorem dX1_isBefore_45 : decode cX1_isBefore 45 = .ok (.if_icmp .ne 12, 3) := by decide +kernel
theorem dX1_isBefore_48 : decode cX1_isBefore 48 = .ok (.iload_n 1, 1) := by decide +kernel
theorem dX1_isBefore_49 : decode cX1_isBefore 49 = .ok (.iload_n 2, 1) := by decide +kernel
theorem dX1_isBefore_50 : decode cX1_isBefore 50 = .ok (.if_icmp .ge 7, 3) := by decide +kernel
theorem dX1_isBefore_53 : decode cX1_isBefore 53 = .ok (.iconst 1, 1) := by decide +kernel
theorem dX1_isBefore_54 : decode cX1_isBefore 54 = .ok (.goto 4, 3) := by decide +kernel
theorem dX1_isBefore_57 : decode cX1_isBefore 57 = .ok (.iconst 0, 1) := by decide +kernel
theorem dX1_isBefore_58 : decode cX1_isBefore 58 = .ok (.ireturn, 1) := by decide +kernel
set_option maxRecDepth 20000 in
theorem ggX2_init_X6_init : GoodIn wsX2_init wsX6_init := goodIn_r _ [11, 12, 2, 3, 13, 14, 15, 16, 17, 18, 19, 20] rfl (by decide +kernel)
set_option maxRecDepth 20000 in
theorem gX2_init_X6_init : GoodIn wsX2_init (wsX6_init) := ggX2_init_X6_init
theorem dX2_init_0 : decode cX2_init 0 = .ok (.aload_n 0, 1) := by decide +kernel
theorem dX2_init_1 : decode cX2_init 1 = .ok (.invokespecial 3, 3) := by decide +kernel
theorem dX2_init_4 : decode cX2_init 4 = .ok (.aload_n 0, 1) := by decide +kernel
theorem dX2_init_5 : decode cX2_init 5 = .ok (.new 9, 3) := by decide +kernel
theorem dX2_init_8 : decode cX2_init 8 = .ok (.dup, 1) := by decide +kernel
theorem dX2_init_9 : decode cX2_init 9 = .ok (.bipush 6, 2) := by decide +kernel
theorem dX2_init_11 : decode cX2_init 11 = .ok (.invokespecial 11, 3) := by decide +kernel
theorem dX2_init_14 : decode cX2_init 14 = .ok (.putfield 14, 3) := by decide +kernel
theorem dX2_init_17 : decode cX2_init 17 = .ok (.aload_n 0, 1) := by decide +kernel
theorem dX2_init_18 : decode cX2_init 18 = .ok (.new 9, 3) := by decide +kernel
theorem dX2_init_21 : decode cX2_init 21 = .ok (.dup, 1) := by decide +kernel
theorem dX2_init_22 : decode cX2_init 22 = .ok (.bipush 6, 2) := by decide +kernel
theorem dX2_init_24 : decode cX2_init 24 = .ok (.invokespecial 11, 3) := by decide +kernel
theorem dX2_init_27 : decode cX2_init 27 = .ok (.putfield 20, 3) := by decide +kernel
theorem dX2_init_30 : decode cX2_init 30 = .ok (.return_, 1) := by decide +kernel
theorem dX2_entrySize_0 : decode cX2_entrySize 0 = .ok (.aload_n 0, 1) := by decide +kernel
theorem dX2_entrySize_1 : decode cX2_entrySize 1 = .ok (.getfield 14, 3) := by decide +kernel
theorem dX2_entrySize_4 : decode cX2_entrySize 4 = .ok (.getfield 23, 3) := by decide +kernel
theorem dX2_entrySize_7 : decode cX2_entrySize 7 = .ok (.aload_n 0, 1) := by decide +kernel
theorem dX2_entrySize_8 : decode cX2_entrySize 8 = .ok (.getfield 20, 3) := by decide +kernel
theorem dX2_entrySize_11 : decode cX2_entrySize 11 = .ok (.getfield 23, 3) := by decide +kernel
theorem dX2_entrySize_14 : decode cX2_entrySize 14 = .ok (.iadd, 1) := by decide +kernel
theorem dX2_entrySize_15 : decode cX2_entrySize 15 = .ok (.iconst 4, 1) := by decide +kernel
theorem dX2_entrySize_16 : decode cX2_entrySize 16 = .ok (.iadd, 1) := by decide +kernel
theorem dX2_entrySize_17 : decode cX2_entrySize 17 = .ok (.ireturn, 1) := by decide +kernel
set_option maxRecDepth 20000 in
theorem ggX3_init_X2_init : GoodIn wsX3_init wsX2_init := goodIn_r _ [13, 14, 2, 3, 15, 16, 17, 18, 19, 20, 21, 22, 23, 24, 5, 6, 7, 25, 26, 31, 32, 29, 30] rfl (by decide +kernel)
set_option maxRecDepth 20000 in
theorem gX3_init_X2_init_n23 : GoodIn wsX3_init (wsX2_init) := ggX3_init_X2_init
theorem dX3_init_0 : decode cX3_init 0 = .ok (.aload_n 0, 1) := by decide +kernel
theorem dX3_init_1 : decode cX3_init 1 = .ok (.invokespecial 3, 3) := by decide +kernel
theorem dX3_init_4 : decode cX3_init 4 = .ok (.aload_n 0, 1) := by decide +kernel
theorem dX3_init_5 : decode cX3_init 5 = .ok (.iconst 0, 1) := by decide +kernel
theorem dX3_init_6 : decode cX3_init 6 = .ok (.iload_n 1, 1) := by decide +kernel
theorem dX3_init_7 : decode cX3_init 7 = .ok (.invokestatic 9, 3) := by decide +kernel
theorem dX3_init_10 : decode cX3_init 10 = .ok (.anewarray 15, 3) := by decide +kernel
theorem dX3_init_13 : decode cX3_init 13 = .ok (.putfield 17, 3) := by decide +kernel
theorem dX3_init_16 : decode cX3_init 16 = .ok (.iconst 0, 1) := by decide +kernel
theorem dX3_init_17 : decode cX3_init 17 = .ok (.istore_n 2, 1) := by decide +kernel
theorem dX3_init_18 : decode cX3_init 18 = .ok (.iload_n 2, 1) := by decide +kernel
theorem dX3_init_19 : decode cX3_init 19 = .ok (.aload_n 0, 1) := by decide +kernel
theorem dX3_init_20 : decode cX3_init 20 = .ok (.getfield 17, 3) := by decide +kernel
theorem dX3_init_23 : decode cX3_init 23 = .ok (.arraylength, 1) := by decide +kernel
theorem dX3_init_24 : decode cX3_init 24 = .ok (.if_icmp .ge 22, 3) := by decide +kernel
theorem dX3_init_27 : decode cX3_init 27 = .ok (.aload_n 0, 1) := by decide +kernel
theorem dX3_init_28 : decode cX3_init 28 = .ok (.getfield 17, 3) := by decide +kernel
theorem dX3_init_31 : decode cX3_init 31 = .ok (.iload_n 2, 1) := by decide +kernel
theorem dX3_init_32 : decode cX3_init 32 = .ok (.new 15, 3) := by decide +kernel
theorem dX3_init_35 : decode cX3_init 35 = .ok (.dup, 1) := by decide +kernel
theorem dX3_init_36 : decode cX3_init 36 = .ok (.invokespecial 23, 3) := by decide +kernel
theorem dX3_init_39 : decode cX3_init 39 = .ok (.aastore, 1) := by decide +kernel
theorem dX3_init_40 : decode cX3_init 40 = .ok (.iinc 2 1, 3) := by decide +kernel
theorem dX3_init_43 : decode cX3_init 43 = .ok (.goto (-25), 3) := by decide +kernel
theorem dX3_init_46 : decode cX3_init 46 = .ok (.return_, 1) := by decide +kernel
theorem dX3_at_0 : decode cX3_at 0 = .ok (.iload_n 1, 1) := by decide +kernel
theorem dX3_at_1 : decode cX3_at 1 = .ok (.ifCond .lt 20, 3) := by decide +kernel
theorem dX3_at_4 : decode cX3_at 4 = .ok (.iload_n 1, 1) := by decide +kernel
theorem dX3_at_5 : decode cX3_at 5 = .ok (.aload_n 0, 1) := by decide +kernel
theorem dX3_at_6 : decode cX3_at 6 = .ok (.getfield 24, 3) := by decide +kernel
theorem dX3_at_9 : decode cX3_at 9 = .ok (.if_icmp .ge 12, 3) := by decide +kernel
theorem dX3_at_12 : decode cX3_at 12 = .ok (.iload_n 1, 1) := by decide +kernel
theorem dX3_at_13 : decode cX3_at 13 = .ok (.aload_n 0, 1) := by decide +kernel
theorem dX3_at_14 : decode cX3_at 14 = .ok (.getfield 17, 3) := by decide +kernel
theorem dX3_at_17 : decode cX3_at 17 = .ok (.arraylength, 1) := by decide +kernel
theorem dX3_at_18 : decode cX3_at 18 = .ok (.if_icmp .lt 7, 3) := by decide +kernel
theorem dX3_at_21 : decode cX3_at 21 = .ok (.aconst_null, 1) := by decide +kernel
theorem dX3_at_22 : decode cX3_at 22 = .ok (.goto 9, 3) := by decide +kernel
theorem dX3_at_25 : decode cX3_at 25 = .ok (.aload_n 0, 1) := by decide +kernel
theorem dX3_at_26 : decode cX3_at 26 = .ok (.getfield 17, 3) := by decide +kernel
theorem dX3_at_29 : decode cX3_at 29 = .ok (.iload_n 1, 1) := by decide +kernel
theorem dX3_at_30 : decode cX3_at 30 = .ok (.aaload, 1) := by decide +kernel
theorem dX3_at_31 : decode cX3_at 31 = .ok (.areturn, 1) := by decide +kernel
theorem dX3_next_0 : decode cX3_next 0 = .ok (.aload_n 0, 1) := by decide +kernel
theorem dX3_next_1 : decode cX3_next 1 = .ok (.getfield 24, 3) := by decide +kernel
theorem dX3_next_4 : decode cX3_next 4 = .ok (.ifCond .lt 15, 3) := by decide +kernel
theorem dX3_next_7 : decode cX3_next 7 = .ok (.aload_n 0, 1) := by decide +kernel
theorem dX3_next_8 : decode cX3_next 8 = .ok (.getfield 24, 3) := by decide +kernel
theorem dX3_next_11 : decode cX3_next 11 = .ok (.aload_n 0, 1) := by decide +kernel
theorem dX3_next_12 : decode cX3_next 12 = .ok (.getfield 17, 3) := by decide +kernel
theorem dX3_next_15 : decode cX3_next 15 = .ok (.arraylength, 1) := by decide +kernel
theorem dX3_next_16 : decode cX3_next 16 = .ok (.if_icmp .lt 7, 3) := by decide +kernel
theorem dX3_next_19 : decode cX3_next 19 = .ok (.aconst_null, 1) := by decide +kernel
theorem dX3_next_20 : decode cX3_next 20 = .ok (.goto 12, 3) := by decide +kernel
theorem dX3_next_23 : decode cX3_next 23 = .ok (.aload_n 0, 1) := by decide +kernel
theorem dX3_next_24 : decode cX3_next 24 = .ok (.getfield 17, 3) := by decide +kernel
theorem dX3_next_27 : decode cX3_next 27 = .ok (.aload_n 0, 1) := by decide +kernel
theorem dX3_next_28 : decode cX3_next 28 = .ok (.getfield 24, 3) := by decide +kernel
theorem dX3_next_31 : decode cX3_next 31 = .ok (.aaload, 1) := by decide +kernel
theorem dX3_next_32 : decode cX3_next 32 = .ok (.areturn, 1) := by decide +kernel
set_option maxRecDepth 20000 in
theorem ggX3_lowestNamed_X3_at : GoodIn wsX3_lowestNamed wsX3_at := goodIn_r _ [7, 1, 8, 16, 17] rfl (by decide +kernel)
set_option maxRecDepth 20000 in
theorem gX3_lowestNamed_X3_at : GoodIn wsX3_lowestNamed (wsV RX3 28 RX3 yX3_at wsX3_at) := goodIn_app (goodIn_of _ (by decide +kernel)) ggX3_lowestNamed_X3_at
set_option maxRecDepth 20000 in
theorem ggX3_lowestNamed_X6_same : GoodIn wsX3_lowestNamed wsX6_same := goodIn_r _ [13, 14, 15, 20, 21] rfl (by decide +kernel)
set_option maxRecDepth 20000 in
theorem gX3_lowestNamed_X6_same : GoodIn wsX3_lowestNamed (wsV RX3 36 RX6 yX6_same wsX6_same) := goodIn_app (goodIn_of _ (by decide +kernel)) ggX3_lowestNamed_X6_same
theorem dX3_lowestNamed_0 : decode cX3_lowestNamed 0 = .ok (.iconst 0, 1) := by decide +kernel
theorem dX3_lowestNamed_1 : decode cX3_lowestNamed 1 = .ok (.istore_n 2, 1) := by decide +kernel
theorem dX3_lowestNamed_2 : decode cX3_lowestNamed 2 = .ok (.iload_n 2, 1) := by decide +kernel
theorem dX3_lowestNamed_3 : decode cX3_lowestNamed 3 = .ok (.aload_n 0, 1) := by decide +kernel
theorem dX3_lowestNamed_4 : decode cX3_lowestNamed 4 = .ok (.getfield 24, 3) := by decide +kernel
theorem dX3_lowestNamed_7 : decode cX3_lowestNamed 7 = .ok (.if_icmp .ge 35, 3) := by decide +kernel
theorem dX3_lowestNamed_10 : decode cX3_lowestNamed 10 = .ok (.aload_n 0, 1) := by decide +kernel
theorem dX3_lowestNamed_11 : decode cX3_lowestNamed 11 = .ok (.iload_n 2, 1) := by decide +kernel
theorem dX3_lowestNamed_12 : decode cX3_lowestNamed 12 = .ok (.invokevirtual 28, 3) := by decide +kernel
theorem dX3_lowestNamed_15 : decode cX3_lowestNamed 15 = .ok (.astore_n 3, 1) := by decide +kernel
theorem dX3_lowestNamed_16 : decode cX3_lowestNamed 16 = .ok (.aload_n 3, 1) := by decide +kernel
theorem dX3_lowestNamed_17 : decode cX3_lowestNamed 17 = .ok (.ifnull 19, 3) := by decide +kernel
theorem dX3_lowestNamed_20 : decode cX3_lowestNamed 20 = .ok (.aload_n 3, 1) := by decide +kernel
theorem dX3_lowestNamed_21 : decode cX3_lowestNamed 21 = .ok (.getfield 32, 3) := by decide +kernel
theorem dX3_lowestNamed_24 : decode cX3_lowestNamed 24 = .ok (.aload_n 1, 1) := by decide +kernel
theorem dX3_lowestNamed_25 : decode cX3_lowestNamed 25 = .ok (.getfield 32, 3) := by decide +kernel
theorem dX3_lowestNamed_28 : decode cX3_lowestNamed 28 = .ok (.invokevirtual 36, 3) := by decide +kernel
theorem dX3_lowestNamed_31 : decode cX3_lowestNamed 31 = .ok (.ifCond .eq 5, 3) := by decide +kernel
theorem dX3_lowestNamed_34 : decode cX3_lowestNamed 34 = .ok (.iload_n 2, 1) := by decide +kernel
theorem dX3_lowestNamed_35 : decode cX3_lowestNamed 35 = .ok (.ireturn, 1) := by decide +kernel
theorem dX3_lowestNamed_36 : decode cX3_lowestNamed 36 = .ok (.iinc 2 1, 3) := by decide +kernel
theorem dX3_lowestNamed_39 : decode cX3_lowestNamed 39 = .ok (.goto (-37), 3) := by decide +kernel
theorem dX3_lowestNamed_42 : decode cX3_lowestNamed 42 = .ok (.bipush (-9), 2) := by decide +kernel
theorem dX3_lowestNamed_44 : decode cX3_lowestNamed 44 = .ok (.ireturn, 1) := by decide +kernel
set_option maxRecDepth 20000 in
theorem ggX3_lowestLike_X3_at : GoodIn wsX3_lowestLike wsX3_at := goodIn_r _ [8, 1, 9, 17, 18] rfl (by decide +kernel)
set_option maxRecDepth 20000 in
theorem gX3_lowestLike_X3_at : GoodIn wsX3_lowestLike (wsV RX3 28 RX3 yX3_at wsX3_at) := goodIn_app (goodIn_of _ (by decide +kernel)) ggX3_lowestLike_X3_at
set_option maxRecDepth 20000 in
theorem ggX3_lowestLike_X6_same : GoodIn wsX3_lowestLike wsX6_same := goodIn_r _ [14, 15, 16, 21, 22] rfl (by decide +kernel)
set_option maxRecDepth 20000 in
theorem gX3_lowestLike_X6_same : GoodIn wsX3_lowestLike (wsV RX3 36 RX6 yX6_same wsX6_same) := goodIn_app (goodIn_of _ (by decide +kernel)) ggX3_lowestLike_X6_same
theorem dX3_lowestLike_0 : decode cX3_lowestLike 0 = .ok (.iconst 0, 1) := by decide +kernel
theorem dX3_lowestLike_1 : decode cX3_lowestLike 1 = .ok (.istore_n 2, 1) := by decide +kernel
theorem dX3_lowestLike_2 : decode cX3_lowestLike 2 = .ok (.iload_n 2, 1) := by decide +kernel
theorem dX3_lowestLike_3 : decode cX3_lowestLike 3 = .ok (.aload_n 0, 1) := by decide +kernel
theorem dX3_lowestLike_4 : decode cX3_lowestLike 4 = .ok (.getfield 24, 3) := by decide +kernel
theorem dX3_lowestLike_7 : decode cX3_lowestLike 7 = .ok (.if_icmp .ge 49, 3) := by decide +kernel
theorem dX3_lowestLike_10 : decode cX3_lowestLike 10 = .ok (.aload_n 0, 1) := by decide +kernel
theorem dX3_lowestLike_11 : decode cX3_lowestLike 11 = .ok (.iload_n 2, 1) := by decide +kernel
theorem dX3_lowestLike_12 : decode cX3_lowestLike 12 = .ok (.invokevirtual 28, 3) := by decide +kernel
theorem dX3_lowestLike_15 : decode cX3_lowestLike 15 = .ok (.astore_n 3, 1) := by decide +kernel
theorem dX3_lowestLike_16 : decode cX3_lowestLike 16 = .ok (.aload_n 3, 1) := by decide +kernel
theorem dX3_lowestLike_17 : decode cX3_lowestLike 17 = .ok (.ifnull 33, 3) := by decide +kernel
theorem dX3_lowestLike_20 : decode cX3_lowestLike 20 = .ok (.aload_n 3, 1) := by decide +kernel
theorem dX3_lowestLike_21 : decode cX3_lowestLike 21 = .ok (.getfield 32, 3) := by decide +kernel
theorem dX3_lowestLike_24 : decode cX3_lowestLike 24 = .ok (.aload_n 1, 1) := by decide +kernel
theorem dX3_lowestLike_25 : decode cX3_lowestLike 25 = .ok (.getfield 32, 3) := by decide +kernel
theorem dX3_lowestLike_28 : decode cX3_lowestLike 28 = .ok (.invokevirtual 36, 3) := by decide +kernel
theorem dX3_lowestLike_31 : decode cX3_lowestLike 31 = .ok (.ifCond .eq 19, 3) := by decide +kernel
theorem dX3_lowestLike_34 : decode cX3_lowestLike 34 = .ok (.aload_n 3, 1) := by decide +kernel
theorem dX3_lowestLike_35 : decode cX3_lowestLike 35 = .ok (.getfield 42, 3) := by decide +kernel
theorem dX3_lowestLike_38 : decode cX3_lowestLike 38 = .ok (.aload_n 1, 1) := by decide +kernel
theorem dX3_lowestLike_39 : decode cX3_lowestLike 39 = .ok (.getfield 42, 3) := by decide +kernel
theorem dX3_lowestLike_42 : decode cX3_lowestLike 42 = .ok (.invokevirtual 36, 3) := by decide +kernel
theorem dX3_lowestLike_45 : decode cX3_lowestLike 45 = .ok (.ifCond .eq 5, 3) := by decide +kernel
theorem dX3_lowestLike_48 : decode cX3_lowestLike 48 = .ok (.iload_n 2, 1) := by decide +kernel
theorem dX3_lowestLike_49 : decode cX3_lowestLike 49 = .ok (.ireturn, 1) := by decide +kernel
theorem dX3_lowestLike_50 : decode cX3_lowestLike 50 = .ok (.iinc 2 1, 3) := by decide +kernel
theorem dX3_lowestLike_53 : decode cX3_lowestLike 53 = .ok (.goto (-51), 3) := by decide +kernel
theorem dX3_lowestLike_56 : decode cX3_lowestLike 56 = .ok (.bipush (-9), 2) := by decide +kernel
theorem dX3_lowestLike_58 : decode cX3_lowestLike 58 = .ok (.ireturn, 1) := by decide +kernel
theorem dX4_init_0 : decode cX4_init 0 = .ok (.aload_n 0, 1) := by decide +kernel
theorem dX4_init_1 : decode cX4_init 1 = .ok (.invokespecial 3, 3) := by decide +kernel
theorem dX4_init_4 : decode cX4_init 4 = .ok (.aload_n 0, 1) := by decide +kernel
theorem dX4_init_5 : decode cX4_init 5 = .ok (.aload_n 1, 1) := by decide +kernel
theorem dX4_init_6 : decode cX4_init 6 = .ok (.putfield 9, 3) := by decide +kernel
theorem dX4_init_9 : decode cX4_init 9 = .ok (.return_, 1) := by decide +kernel
set_option maxRecDepth 20000 in
theorem ggX4_reads_X7_restart : GoodIn wsX4_reads wsX7_restart := goodIn_r _ [12, 13, 14, 15, 16, 17, 157, 158, 159, 160, 161, 162] rfl (by decide +kernel)
set_option maxRecDepth 20000 in
theorem gX4_reads_X7_restart : GoodIn wsX4_reads (wsV RX4 15 RX7 yX7_restart wsX7_restart) := goodIn_app (goodIn_of _ (by decide +kernel)) ggX4_reads_X7_restart
set_option maxRecDepth 20000 in
theorem ggX4_reads_X4_advance : GoodIn wsX4_reads wsX4_advance := goodIn_r _ [22, 4, 6, 7, 5, 23, 24, 25, 26, 27, 28, 29, 30, 31, 21, 32, 33, 34, 35, 149, 150, 151, 152, 153, 154, 155, 156] rfl (by decide +kernel)
set_option maxRecDepth 20000 in
theorem gX4_reads_X4_advance : GoodIn wsX4_reads (wsV RX4 34 RX4 yX4_advance wsX4_advance) := goodIn_app (goodIn_of _ (by decide +kernel)) ggX4_reads_X4_advance
set_option maxRecDepth 20000 in
theorem ggX4_reads_X4_readItem : GoodIn wsX4_reads wsX4_readItem := goodIn_r _ [39, 1, 40, 2, 41, 42, 43, 44, 45, 46, 21, 47, 4, 5, 6, 48, 49, 50, 51, 52, 53, 54, 55, 56, 57, 58, 59, 23, 24, 25, 26, 27, 28, 29, 60, 61, 62, 63, 64, 65, 66, 67, 68, 69, 70, 71, 72, 73, 74, 75, 76, 77, 78, 79, 80, 81, 82, 83, 84, 85, 86, 87, 88, 89, 90, 91, 92, 93, 94, 95, 96, 18, 19, 20, 22, 7, 30, 31, 32, 33, 34, 35, 97, 98, 99, 100, 101, 102, 103, 104, 105, 106, 107, 108, 109, 110, 111, 112, 113, 114, 115, 116, 117, 118, 119, 120, 121, 122, 123, 124, 125, 126, 127, 128, 129, 130, 131, 132, 133, 134, 135, 136, 137, 138, 139, 140, 141, 142, 143, 144, 145, 146, 147, 148, 149, 150, 151, 152, 153, 154, 157, 158, 159, 160, 155, 156, 163, 164, 161, 162] rfl (by decide +kernel)
set_option maxRecDepth 20000 in
theorem gX4_reads_X4_readItem : GoodIn wsX4_reads (wsV RX4 45 RX4 yX4_readItem wsX4_readItem) := goodIn_app (goodIn_of _ (by decide +kernel)) ggX4_reads_X4_readItem
theorem dX4_reads_0 : decode cX4_reads 0 = .ok (.aload_n 1, 1) := by decide +kernel
theorem dX4_reads_1 : decode cX4_reads 1 = .ok (.invokevirtual 15, 3) := by decide +kernel
theorem dX4_reads_4 : decode cX4_reads 4 = .ok (.aload_n 0, 1) := by decide +kernel
theorem dX4_reads_5 : decode cX4_reads 5 = .ok (.iconst 0, 1) := by decide +kernel
theorem dX4_reads_6 : decode cX4_reads 6 = .ok (.putfield 20, 3) := by decide +kernel
theorem dX4_reads_9 : decode cX4_reads 9 = .ok (.aload_n 0, 1) := by decide +kernel
theorem dX4_reads_10 : decode cX4_reads 10 = .ok (.iconst 0, 1) := by decide +kernel
theorem dX4_reads_11 : decode cX4_reads 11 = .ok (.putfield 24, 3) := by decide +kernel
theorem dX4_reads_14 : decode cX4_reads 14 = .ok (.aload_n 0, 1) := by decide +kernel
theorem dX4_reads_15 : decode cX4_reads 15 = .ok (.iconst 0, 1) := by decide +kernel
theorem dX4_reads_16 : decode cX4_reads 16 = .ok (.putfield 27, 3) := by decide +kernel
theorem dX4_reads_19 : decode cX4_reads 19 = .ok (.aload_n 0, 1) := by decide +kernel
theorem dX4_reads_20 : decode cX4_reads 20 = .ok (.iconst 0, 1) := by decide +kernel
theorem dX4_reads_21 : decode cX4_reads 21 = .ok (.putfield 31, 3) := by decide +kernel
theorem dX4_reads_24 : decode cX4_reads 24 = .ok (.aload_n 0, 1) := by decide +kernel
theorem dX4_reads_25 : decode cX4_reads 25 = .ok (.invokevirtual 34, 3) := by decide +kernel
theorem dX4_reads_28 : decode cX4_reads 28 = .ok (.iconst 0, 1) := by decide +kernel
theorem dX4_reads_29 : decode cX4_reads 29 = .ok (.istore_n 2, 1) := by decide +kernel
theorem dX4_reads_30 : decode cX4_reads 30 = .ok (.iload_n 2, 1) := by decide +kernel
theorem dX4_reads_31 : decode cX4_reads 31 = .ok (.sipush 200, 3) := by decide +kernel
theorem dX4_reads_34 : decode cX4_reads 34 = .ok (.if_icmp .ge 43, 3) := by decide +kernel
theorem dX4_reads_37 : decode cX4_reads 37 = .ok (.aload_n 0, 1) := by decide +kernel
theorem dX4_reads_38 : decode cX4_reads 38 = .ok (.getfield 37, 3) := by decide +kernel
theorem dX4_reads_41 : decode cX4_reads 41 = .ok (.aload_n 0, 1) := by decide +kernel
theorem dX4_reads_42 : decode cX4_reads 42 = .ok (.getfield 9, 3) := by decide +kernel
theorem dX4_reads_45 : decode cX4_reads 45 = .ok (.getfield 40, 3) := by decide +kernel
theorem dX4_reads_48 : decode cX4_reads 48 = .ok (.if_icmp .ge 29, 3) := by decide +kernel
theorem dX4_reads_51 : decode cX4_reads 51 = .ok (.aload_n 0, 1) := by decide +kernel
theorem dX4_reads_52 : decode cX4_reads 52 = .ok (.aload_n 1, 1) := by decide +kernel
theorem dX4_reads_53 : decode cX4_reads 53 = .ok (.invokevirtual 45, 3) := by decide +kernel
theorem dX4_reads_56 : decode cX4_reads 56 = .ok (.ifCond .ne 5, 3) := by decide +kernel
theorem dX4_reads_59 : decode cX4_reads 59 = .ok (.iconst 0, 1) := by decide +kernel
theorem dX4_reads_60 : decode cX4_reads 60 = .ok (.ireturn, 1) := by decide +kernel
theorem dX4_reads_61 : decode cX4_reads 61 = .ok (.aload_n 0, 1) := by decide +kernel
theorem dX4_reads_62 : decode cX4_reads 62 = .ok (.dup, 1) := by decide +kernel
theorem dX4_reads_63 : decode cX4_reads 63 = .ok (.getfield 27, 3) := by decide +kernel
theorem dX4_reads_66 : decode cX4_reads 66 = .ok (.iconst 1, 1) := by decide +kernel
theorem dX4_reads_67 : decode cX4_reads 67 = .ok (.iadd, 1) := by decide +kernel
theorem dX4_reads_68 : decode cX4_reads 68 = .ok (.putfield 27, 3) := by decide +kernel
theorem dX4_reads_71 : decode cX4_reads 71 = .ok (.iinc 2 1, 3) := by decide +kernel
theorem dX4_reads_74 : decode cX4_reads 74 = .ok (.goto (-44), 3) := by decide +kernel
theorem dX4_reads_77 : decode cX4_reads 77 = .ok (.aload_n 0, 1) := by decide +kernel
theorem dX4_reads_78 : decode cX4_reads 78 = .ok (.getfield 37, 3) := by decide +kernel
theorem dX4_reads_81 : decode cX4_reads 81 = .ok (.aload_n 0, 1) := by decide +kernel
theorem dX4_reads_82 : decode cX4_reads 82 = .ok (.getfield 9, 3) := by decide +kernel
theorem dX4_reads_85 : decode cX4_reads 85 = .ok (.getfield 40, 3) := by decide +kernel
theorem dX4_reads_88 : decode cX4_reads 88 = .ok (.if_icmp .lt 7, 3) := by decide +kernel
theorem dX4_reads_91 : decode cX4_reads 91 = .ok (.iconst 1, 1) := by decide +kernel
theorem dX4_reads_92 : decode cX4_reads 92 = .ok (.goto 4, 3) := by decide +kernel
theorem dX4_reads_95 : decode cX4_reads 95 = .ok (.iconst 0, 1) := by decide +kernel
theorem dX4_reads_96 : decode cX4_reads 96 = .ok (.ireturn, 1) := by decide +kernel
set_option maxRecDepth 20000 in
theorem ggX4_readItem_X4_isPiece : GoodIn wsX4_readItem wsX4_isPiece := goodIn_r _ [11, 12, 13, 14, 15, 16, 17, 18, 19, 20, 21, 22, 23, 24, 25, 26, 27, 28, 29, 30, 31, 32, 33, 34, 35, 36, 37, 38, 39, 40, 41, 42, 43, 44, 45, 46, 47, 48, 49, 50, 51, 52, 53, 54, 55, 56, 57, 58, 59, 60, 61, 62, 63, 64, 65, 66, 67, 68, 69, 70, 134, 135, 136, 137, 138, 139, 144, 145] rfl (by decide +kernel)
set_option maxRecDepth 20000 in
theorem gX4_readItem_X4_isPiece : GoodIn wsX4_readItem (wsV RX4 51 RX4 yX4_isPiece wsX4_isPiece) := goodIn_app (goodIn_of _ (by decide +kernel)) ggX4_readItem_X4_isPiece
set_option maxRecDepth 20000 in
theorem ggX4_readItem_X4_advance : GoodIn wsX4_readItem wsX4_advance := goodIn_r _ [74, 12, 14, 75, 13, 27, 28, 29, 30, 31, 32, 33, 76, 77, 10, 78, 79, 80, 81, 134, 135, 136, 137, 138, 139, 144, 145] rfl (by decide +kernel)
set_option maxRecDepth 20000 in
theorem gX4_readItem_X4_advance : GoodIn wsX4_readItem (wsV RX4 34 RX4 yX4_advance wsX4_advance) := goodIn_app (goodIn_of _ (by decide +kernel)) ggX4_readItem_X4_advance
set_option maxRecDepth 20000 in
theorem ggX4_readItem_X4_readNumber : GoodIn wsX4_readItem wsX4_readNumber := goodIn_r _ [85, 12, 13, 14, 27, 28, 29, 30, 31, 32, 33, 79, 80, 10, 81, 71, 72, 73, 74, 75, 76, 77, 78, 134, 135, 136, 137, 138, 139, 144, 145] rfl (by decide +kernel)
set_option maxRecDepth 20000 in
theorem gX4_readItem_X4_readNumber : GoodIn wsX4_readItem (wsV RX4 55 RX4 yX4_readNumber wsX4_readNumber) := goodIn_app (goodIn_of _ (by decide +kernel)) ggX4_readItem_X4_readNumber
set_option maxRecDepth 20000 in
theorem ggX4_readItem_X4_readSign : GoodIn wsX4_readItem wsX4_readSign := goodIn_r _ [89, 12, 13, 14, 27, 28, 29, 30, 31, 32, 33, 71, 72, 73, 10, 74, 75, 76, 77, 78, 79, 80, 81, 134, 135, 136, 137, 138, 139, 144, 145] rfl (by decide +kernel)
set_option maxRecDepth 20000 in
theorem gX4_readItem_X4_readSign : GoodIn wsX4_readItem (wsV RX4 62 RX4 yX4_readSign wsX4_readSign) := goodIn_app (goodIn_of _ (by decide +kernel)) ggX4_readItem_X4_readSign
set_option maxRecDepth 20000 in
theorem ggX4_readItem_X4_readPair : GoodIn wsX4_readItem wsX4_readPair := goodIn_r _ [93, 94, 12, 13, 95, 96, 97, 98, 99, 100, 101, 102, 103, 71, 72, 73, 10, 74, 14, 75, 27, 28, 29, 30, 31, 32, 33, 76, 77, 78, 79, 80, 81, 104, 105, 106, 107, 108, 109, 110, 111, 112, 113, 114, 115, 116, 117, 118, 119, 86, 87, 88, 89, 120, 121, 122, 123, 124, 125, 126, 127, 128, 129, 130, 131, 132, 133, 146, 147, 134, 135, 136, 137, 138, 139, 148, 149, 144, 145] rfl (by decide +kernel)
set_option maxRecDepth 20000 in
theorem gX4_readItem_X4_readPair : GoodIn wsX4_readItem (wsV RX4 77 RX4 yX4_readPair wsX4_readPair) := goodIn_app (goodIn_of _ (by decide +kernel)) ggX4_readItem_X4_readPair
theorem dX4_readItem_0 : decode cX4_readItem 0 = .ok (.aload_n 0, 1) := by decide +kernel
theorem dX4_readItem_1 : decode cX4_readItem 1 = .ok (.ldc 49, 2) := by decide +kernel
theorem dX4_readItem_3 : decode cX4_readItem 3 = .ok (.invokevirtual 51, 3) := by decide +kernel
theorem dX4_readItem_6 : decode cX4_readItem 6 = .ok (.ifCond .eq 52, 3) := by decide +kernel
theorem dX4_readItem_9 : decode cX4_readItem 9 = .ok (.aload_n 0, 1) := by decide +kernel
theorem dX4_readItem_10 : decode cX4_readItem 10 = .ok (.getfield 20, 3) := by decide +kernel
theorem dX4_readItem_13 : decode cX4_readItem 13 = .ok (.ifCond .ne 45, 3) := by decide +kernel
theorem dX4_readItem_16 : decode cX4_readItem 16 = .ok (.aload_n 0, 1) := by decide +kernel
theorem dX4_readItem_17 : decode cX4_readItem 17 = .ok (.iconst 1, 1) := by decide +kernel
theorem dX4_readItem_18 : decode cX4_readItem 18 = .ok (.putfield 20, 3) := by decide +kernel
theorem dX4_readItem_21 : decode cX4_readItem 21 = .ok (.aload_n 0, 1) := by decide +kernel
theorem dX4_readItem_22 : decode cX4_readItem 22 = .ok (.invokevirtual 34, 3) := by decide +kernel
theorem dX4_readItem_25 : decode cX4_readItem 25 = .ok (.aload_n 1, 1) := by decide +kernel
theorem dX4_readItem_26 : decode cX4_readItem 26 = .ok (.aload_n 0, 1) := by decide +kernel
theorem dX4_readItem_27 : decode cX4_readItem 27 = .ok (.sipush 200, 3) := by decide +kernel
theorem dX4_readItem_30 : decode cX4_readItem 30 = .ok (.invokevirtual 55, 3) := by decide +kernel
theorem dX4_readItem_33 : decode cX4_readItem 33 = .ok (.putfield 59, 3) := by decide +kernel
theorem dX4_readItem_36 : decode cX4_readItem 36 = .ok (.aload_n 1, 1) := by decide +kernel
theorem dX4_readItem_37 : decode cX4_readItem 37 = .ok (.getfield 59, 3) := by decide +kernel
theorem dX4_readItem_40 : decode cX4_readItem 40 = .ok (.ifCond .lt 16, 3) := by decide +kernel
theorem dX4_readItem_43 : decode cX4_readItem 43 = .ok (.aload_n 0, 1) := by decide +kernel
theorem dX4_readItem_44 : decode cX4_readItem 44 = .ok (.bipush 59, 2) := by decide +kernel
theorem dX4_readItem_46 : decode cX4_readItem 46 = .ok (.invokevirtual 62, 3) := by decide +kernel
theorem dX4_readItem_49 : decode cX4_readItem 49 = .ok (.ifCond .eq 7, 3) := by decide +kernel
theorem dX4_readItem_52 : decode cX4_readItem 52 = .ok (.iconst 1, 1) := by decide +kernel
theorem dX4_readItem_53 : decode cX4_readItem 53 = .ok (.goto 4, 3) := by decide +kernel
theorem dX4_readItem_56 : decode cX4_readItem 56 = .ok (.iconst 0, 1) := by decide +kernel
theorem dX4_readItem_57 : decode cX4_readItem 57 = .ok (.ireturn, 1) := by decide +kernel
theorem dX4_readItem_58 : decode cX4_readItem 58 = .ok (.aload_n 0, 1) := by decide +kernel
theorem dX4_readItem_59 : decode cX4_readItem 59 = .ok (.ldc 66, 2) := by decide +kernel
theorem dX4_readItem_61 : decode cX4_readItem 61 = .ok (.invokevirtual 51, 3) := by decide +kernel
theorem dX4_readItem_64 : decode cX4_readItem 64 = .ok (.ifCond .eq 51, 3) := by decide +kernel
theorem dX4_readItem_67 : decode cX4_readItem 67 = .ok (.aload_n 0, 1) := by decide +kernel
theorem dX4_readItem_68 : decode cX4_readItem 68 = .ok (.getfield 24, 3) := by decide +kernel
theorem dX4_readItem_71 : decode cX4_readItem 71 = .ok (.ifCond .ne 44, 3) := by decide +kernel
theorem dX4_readItem_74 : decode cX4_readItem 74 = .ok (.aload_n 0, 1) := by decide +kernel
theorem dX4_readItem_75 : decode cX4_readItem 75 = .ok (.iconst 1, 1) := by decide +kernel
theorem dX4_readItem_76 : decode cX4_readItem 76 = .ok (.putfield 24, 3) := by decide +kernel
theorem dX4_readItem_79 : decode cX4_readItem 79 = .ok (.aload_n 0, 1) := by decide +kernel
theorem dX4_readItem_80 : decode cX4_readItem 80 = .ok (.invokevirtual 34, 3) := by decide +kernel
theorem dX4_readItem_83 : decode cX4_readItem 83 = .ok (.aload_n 1, 1) := by decide +kernel
theorem dX4_readItem_84 : decode cX4_readItem 84 = .ok (.aload_n 0, 1) := by decide +kernel
theorem dX4_readItem_85 : decode cX4_readItem 85 = .ok (.bipush 9, 2) := by decide +kernel
theorem dX4_readItem_87 : decode cX4_readItem 87 = .ok (.invokevirtual 55, 3) := by decide +kernel
theorem dX4_readItem_90 : decode cX4_readItem 90 = .ok (.putfield 68, 3) := by decide +kernel
theorem dX4_readItem_93 : decode cX4_readItem 93 = .ok (.aload_n 1, 1) := by decide +kernel
theorem dX4_readItem_94 : decode cX4_readItem 94 = .ok (.getfield 68, 3) := by decide +kernel
theorem dX4_readItem_97 : decode cX4_readItem 97 = .ok (.ifCond .lt 16, 3) := by decide +kernel
theorem dX4_readItem_100 : decode cX4_readItem 100 = .ok (.aload_n 0, 1) := by decide +kernel
theorem dX4_readItem_101 : decode cX4_readItem 101 = .ok (.bipush 59, 2) := by decide +kernel
theorem dX4_readItem_103 : decode cX4_readItem 103 = .ok (.invokevirtual 62, 3) := by decide +kernel
theorem dX4_readItem_106 : decode cX4_readItem 106 = .ok (.ifCond .eq 7, 3) := by decide +kernel
theorem dX4_readItem_109 : decode cX4_readItem 109 = .ok (.iconst 1, 1) := by decide +kernel
theorem dX4_readItem_110 : decode cX4_readItem 110 = .ok (.goto 4, 3) := by decide +kernel
theorem dX4_readItem_113 : decode cX4_readItem 113 = .ok (.iconst 0, 1) := by decide +kernel
theorem dX4_readItem_114 : decode cX4_readItem 114 = .ok (.ireturn, 1) := by decide +kernel
theorem dX4_readItem_115 : decode cX4_readItem 115 = .ok (.aload_n 0, 1) := by decide +kernel
theorem dX4_readItem_116 : decode cX4_readItem 116 = .ok (.ldc 71, 2) := by decide +kernel
theorem dX4_readItem_118 : decode cX4_readItem 118 = .ok (.invokevirtual 51, 3) := by decide +kernel
theorem dX4_readItem_121 : decode cX4_readItem 121 = .ok (.ifCond .eq 13, 3) := by decide +kernel
theorem dX4_readItem_124 : decode cX4_readItem 124 = .ok (.aload_n 0, 1) := by decide +kernel
theorem dX4_readItem_125 : decode cX4_readItem 125 = .ok (.aload_n 1, 1) := by decide +kernel
theorem dX4_readItem_126 : decode cX4_readItem 126 = .ok (.getfield 73, 3) := by decide +kernel
theorem dX4_readItem_129 : decode cX4_readItem 129 = .ok (.iconst 0, 1) := by decide +kernel
theorem dX4_readItem_130 : decode cX4_readItem 130 = .ok (.invokevirtual 77, 3) := by decide +kernel
theorem dX4_readItem_133 : decode cX4_readItem 133 = .ok (.ireturn, 1) := by decide +kernel
theorem dX4_readItem_134 : decode cX4_readItem 134 = .ok (.aload_n 0, 1) := by decide +kernel
theorem dX4_readItem_135 : decode cX4_readItem 135 = .ok (.ldc 81, 2) := by decide +kernel
theorem dX4_readItem_137 : decode cX4_readItem 137 = .ok (.invokevirtual 51, 3) := by decide +kernel
theorem dX4_readItem_140 : decode cX4_readItem 140 = .ok (.ifCond .eq 19, 3) := by decide +kernel
theorem dX4_readItem_143 : decode cX4_readItem 143 = .ok (.aload_n 0, 1) := by decide +kernel
theorem dX4_readItem_144 : decode cX4_readItem 144 = .ok (.aload_n 1, 1) := by decide +kernel
theorem dX4_readItem_145 : decode cX4_readItem 145 = .ok (.getfield 83, 3) := by decide +kernel
theorem dX4_readItem_148 : decode cX4_readItem 148 = .ok (.iconst 1, 1) := by decide +kernel
theorem dX4_readItem_149 : decode cX4_readItem 149 = .ok (.invokevirtual 77, 3) := by decide +kernel
theorem dX4_readItem_152 : decode cX4_readItem 152 = .ok (.ifCond .eq 7, 3) := by decide +kernel
theorem dX4_readItem_155 : decode cX4_readItem 155 = .ok (.iconst 1, 1) := by decide +kernel
theorem dX4_readItem_156 : decode cX4_readItem 156 = .ok (.goto 4, 3) := by decide +kernel
theorem dX4_readItem_159 : decode cX4_readItem 159 = .ok (.iconst 0, 1) := by decide +kernel
theorem dX4_readItem_160 : decode cX4_readItem 160 = .ok (.ireturn, 1) := by decide +kernel
set_option maxRecDepth 20000 in
theorem ggX4_readPair_X3_next : GoodIn wsX4_readPair wsX3_next := goodIn_r _ [10, 11, 12, 75, 76] rfl (by decide +kernel)
set_option maxRecDepth 20000 in
theorem gX4_readPair_X3_next : GoodIn wsX4_readPair (wsV RX4 86 RX3 yX3_next wsX3_next) := goodIn_app (goodIn_of _ (by decide +kernel)) ggX4_readPair_X3_next
set_option maxRecDepth 20000 in
theorem ggX4_readPair_X4_advance : GoodIn wsX4_readPair wsX4_advance := goodIn_r _ [17, 2, 18, 19, 3, 20, 21, 22, 23, 24, 25, 26, 27, 28, 16, 29, 30, 31, 32, 69, 70, 71, 72, 73, 74, 77, 78] rfl (by decide +kernel)
set_option maxRecDepth 20000 in
theorem gX4_readPair_X4_advance : GoodIn wsX4_readPair (wsV RX4 34 RX4 yX4_advance wsX4_advance) := goodIn_app (goodIn_of _ (by decide +kernel)) ggX4_readPair_X4_advance
set_option maxRecDepth 20000 in
theorem ggX4_readPair_X4_isName : GoodIn wsX4_readPair wsX4_isName := goodIn_r _ [36, 2, 3, 18, 20, 21, 22, 23, 24, 25, 26, 27, 28, 16, 29, 69, 70, 71, 72, 73, 74, 77, 78] rfl (by decide +kernel)
set_option maxRecDepth 20000 in
theorem gX4_readPair_X4_isName : GoodIn wsX4_readPair (wsV RX4 92 RX4 yX4_isName wsX4_isName) := goodIn_app (goodIn_of _ (by decide +kernel)) ggX4_readPair_X4_isName
set_option maxRecDepth 20000 in
theorem ggX4_readPair_X4_readWord : GoodIn wsX4_readPair wsX4_readWord := goodIn_r _ [40, 3, 2, 18, 41, 42, 43, 23, 44, 25, 20, 21, 22, 24, 26, 45, 46, 47, 48, 13, 14, 15, 16, 17, 19, 27, 28, 29, 30, 31, 32, 69, 70, 71, 72, 73, 74, 77, 78] rfl (by decide +kernel)
set_option maxRecDepth 20000 in
theorem gX4_readPair_X4_readWord : GoodIn wsX4_readPair (wsV RX4 101 RX4 yX4_readWord wsX4_readWord) := goodIn_app (goodIn_of _ (by decide +kernel)) ggX4_readPair_X4_readWord
set_option maxRecDepth 20000 in
theorem ggX4_readPair_X4_readSign : GoodIn wsX4_readPair wsX4_readSign := goodIn_r _ [52, 2, 3, 18, 20, 21, 22, 23, 24, 25, 26, 13, 14, 15, 16, 17, 19, 27, 28, 29, 30, 31, 32, 69, 70, 71, 72, 73, 74, 77, 78] rfl (by decide +kernel)
set_option maxRecDepth 20000 in
theorem gX4_readPair_X4_readSign : GoodIn wsX4_readPair (wsV RX4 62 RX4 yX4_readSign wsX4_readSign) := goodIn_app (goodIn_of _ (by decide +kernel)) ggX4_readPair_X4_readSign
set_option maxRecDepth 20000 in
theorem ggX4_readPair_X3_lowestLike : GoodIn wsX4_readPair wsX3_lowestLike := goodIn_r _ [56, 11, 57, 58, 59, 60, 61, 9, 62, 12, 63, 64, 65, 23, 66, 25, 26, 75, 76, 67, 68, 77, 78] rfl (by decide +kernel)
set_option maxRecDepth 20000 in
theorem gX4_readPair_X3_lowestLike : GoodIn wsX4_readPair (wsV RX4 108 RX3 yX3_lowestLike wsX3_lowestLike) := goodIn_app (goodIn_of _ (by decide +kernel)) ggX4_readPair_X3_lowestLike
theorem dX4_readPair_0 : decode cX4_readPair 0 = .ok (.aload_n 1, 1) := by decide +kernel
theorem dX4_readPair_1 : decode cX4_readPair 1 = .ok (.invokevirtual 86, 3) := by decide +kernel
theorem dX4_readPair_4 : decode cX4_readPair 4 = .ok (.astore_n 3, 1) := by decide +kernel
theorem dX4_readPair_5 : decode cX4_readPair 5 = .ok (.aload_n 3, 1) := by decide +kernel
theorem dX4_readPair_6 : decode cX4_readPair 6 = .ok (.ifnonnull 5, 3) := by decide +kernel
theorem dX4_readPair_9 : decode cX4_readPair 9 = .ok (.iconst 0, 1) := by decide +kernel
theorem dX4_readPair_10 : decode cX4_readPair 10 = .ok (.ireturn, 1) := by decide +kernel
theorem dX4_readPair_11 : decode cX4_readPair 11 = .ok (.aload_n 0, 1) := by decide +kernel
theorem dX4_readPair_12 : decode cX4_readPair 12 = .ok (.invokevirtual 34, 3) := by decide +kernel
theorem dX4_readPair_15 : decode cX4_readPair 15 = .ok (.aload_n 0, 1) := by decide +kernel
theorem dX4_readPair_16 : decode cX4_readPair 16 = .ok (.invokevirtual 92, 3) := by decide +kernel
theorem dX4_readPair_19 : decode cX4_readPair 19 = .ok (.ifCond .ne 5, 3) := by decide +kernel
theorem dX4_readPair_22 : decode cX4_readPair 22 = .ok (.iconst 0, 1) := by decide +kernel
theorem dX4_readPair_23 : decode cX4_readPair 23 = .ok (.ireturn, 1) := by decide +kernel
theorem dX4_readPair_24 : decode cX4_readPair 24 = .ok (.aload_n 0, 1) := by decide +kernel
theorem dX4_readPair_25 : decode cX4_readPair 25 = .ok (.aload_n 3, 1) := by decide +kernel
theorem dX4_readPair_26 : decode cX4_readPair 26 = .ok (.getfield 96, 3) := by decide +kernel
theorem dX4_readPair_29 : decode cX4_readPair 29 = .ok (.invokevirtual 101, 3) := by decide +kernel
theorem dX4_readPair_32 : decode cX4_readPair 32 = .ok (.aload_n 0, 1) := by decide +kernel
theorem dX4_readPair_33 : decode cX4_readPair 33 = .ok (.bipush 61, 2) := by decide +kernel
theorem dX4_readPair_35 : decode cX4_readPair 35 = .ok (.invokevirtual 62, 3) := by decide +kernel
theorem dX4_readPair_38 : decode cX4_readPair 38 = .ok (.ifCond .ne 5, 3) := by decide +kernel
theorem dX4_readPair_41 : decode cX4_readPair 41 = .ok (.iconst 0, 1) := by decide +kernel
theorem dX4_readPair_42 : decode cX4_readPair 42 = .ok (.ireturn, 1) := by decide +kernel
theorem dX4_readPair_43 : decode cX4_readPair 43 = .ok (.aload_n 0, 1) := by decide +kernel
theorem dX4_readPair_44 : decode cX4_readPair 44 = .ok (.getfield 31, 3) := by decide +kernel
theorem dX4_readPair_47 : decode cX4_readPair 47 = .ok (.aload_n 0, 1) := by decide +kernel
theorem dX4_readPair_48 : decode cX4_readPair 48 = .ok (.getfield 37, 3) := by decide +kernel
theorem dX4_readPair_51 : decode cX4_readPair 51 = .ok (.isub, 1) := by decide +kernel
theorem dX4_readPair_52 : decode cX4_readPair 52 = .ok (.bipush 6, 2) := by decide +kernel
theorem dX4_readPair_54 : decode cX4_readPair 54 = .ok (.if_icmp .le 5, 3) := by decide +kernel
theorem dX4_readPair_57 : decode cX4_readPair 57 = .ok (.iconst 0, 1) := by decide +kernel
theorem dX4_readPair_58 : decode cX4_readPair 58 = .ok (.ireturn, 1) := by decide +kernel
theorem dX4_readPair_59 : decode cX4_readPair 59 = .ok (.aload_n 0, 1) := by decide +kernel
theorem dX4_readPair_60 : decode cX4_readPair 60 = .ok (.aload_n 3, 1) := by decide +kernel
theorem dX4_readPair_61 : decode cX4_readPair 61 = .ok (.getfield 105, 3) := by decide +kernel
theorem dX4_readPair_64 : decode cX4_readPair 64 = .ok (.invokevirtual 101, 3) := by decide +kernel
theorem dX4_readPair_67 : decode cX4_readPair 67 = .ok (.iload_n 2, 1) := by decide +kernel
theorem dX4_readPair_68 : decode cX4_readPair 68 = .ok (.ifCond .eq 13, 3) := by decide +kernel
theorem dX4_readPair_71 : decode cX4_readPair 71 = .ok (.aload_n 1, 1) := by decide +kernel
theorem dX4_readPair_72 : decode cX4_readPair 72 = .ok (.aload_n 3, 1) := by decide +kernel
theorem dX4_readPair_73 : decode cX4_readPair 73 = .ok (.invokevirtual 108, 3) := by decide +kernel
theorem dX4_readPair_76 : decode cX4_readPair 76 = .ok (.ifCond .lt 5, 3) := by decide +kernel
theorem dX4_readPair_79 : decode cX4_readPair 79 = .ok (.iconst 0, 1) := by decide +kernel
theorem dX4_readPair_80 : decode cX4_readPair 80 = .ok (.ireturn, 1) := by decide +kernel
theorem dX4_readPair_81 : decode cX4_readPair 81 = .ok (.aload_n 1, 1) := by decide +kernel
theorem dX4_readPair_82 : decode cX4_readPair 82 = .ok (.dup, 1) := by decide +kernel
theorem dX4_readPair_83 : decode cX4_readPair 83 = .ok (.getfield 112, 3) := by decide +kernel
theorem dX4_readPair_86 : decode cX4_readPair 86 = .ok (.iconst 1, 1) := by decide +kernel
theorem dX4_readPair_87 : decode cX4_readPair 87 = .ok (.iadd, 1) := by decide +kernel
theorem dX4_readPair_88 : decode cX4_readPair 88 = .ok (.putfield 112, 3) := by decide +kernel
theorem dX4_readPair_91 : decode cX4_readPair 91 = .ok (.aload_n 0, 1) := by decide +kernel
theorem dX4_readPair_92 : decode cX4_readPair 92 = .ok (.bipush 59, 2) := by decide +kernel
theorem dX4_readPair_94 : decode cX4_readPair 94 = .ok (.invokevirtual 62, 3) := by decide +kernel
theorem dX4_readPair_97 : decode cX4_readPair 97 = .ok (.ireturn, 1) := by decide +kernel
set_option maxRecDepth 20000 in
theorem ggX4_advance_X6_at : GoodIn wsX4_advance wsX6_at := goodIn_r _ [9, 10, 11, 25, 26] rfl (by decide +kernel)
set_option maxRecDepth 20000 in
theorem gX4_advance_X6_at : GoodIn wsX4_advance (wsV RX4 113 RX6 yX6_at wsX6_at) := goodIn_app (goodIn_of _ (by decide +kernel)) ggX4_advance_X6_at
set_option maxRecDepth 20000 in
theorem ggX4_advance_X4_isLetter : GoodIn wsX4_advance wsX4_isLetter := goodIn_r _ [15] rfl (by decide +kernel)
set_option maxRecDepth 20000 in
theorem gX4_advance_X4_isLetter : GoodIn wsX4_advance (va_wsS RX4 116 yX4_isLetter wsX4_isLetter) := goodIn_app (goodIn_of _ (by decide +kernel)) ggX4_advance_X4_isLetter
set_option maxRecDepth 20000 in
theorem ggX4_advance_X4_isDigit : GoodIn wsX4_advance wsX4_isDigit := goodIn_r _ [18] rfl (by decide +kernel)
set_option maxRecDepth 20000 in
theorem gX4_advance_X4_isDigit : GoodIn wsX4_advance (va_wsS RX4 119 yX4_isDigit wsX4_isDigit) := goodIn_app (goodIn_of _ (by decide +kernel)) ggX4_advance_X4_isDigit
theorem dX4_advance_0 : decode cX4_advance 0 = .ok (.aload_n 0, 1) := by decide +kernel
theorem dX4_advance_1 : decode cX4_advance 1 = .ok (.getfield 31, 3) := by decide +kernel
theorem dX4_advance_4 : decode cX4_advance 4 = .ok (.istore_n 1, 1) := by decide +kernel
theorem dX4_advance_5 : decode cX4_advance 5 = .ok (.iload_n 1, 1) := by decide +kernel
theorem dX4_advance_6 : decode cX4_advance 6 = .ok (.aload_n 0, 1) := by decide +kernel
theorem dX4_advance_7 : decode cX4_advance 7 = .ok (.getfield 9, 3) := by decide +kernel
theorem dX4_advance_10 : decode cX4_advance 10 = .ok (.getfield 40, 3) := by decide +kernel
theorem dX4_advance_13 : decode cX4_advance 13 = .ok (.if_icmp .ge 22, 3) := by decide +kernel
theorem dX4_advance_16 : decode cX4_advance 16 = .ok (.aload_n 0, 1) := by decide +kernel
theorem dX4_advance_17 : decode cX4_advance 17 = .ok (.getfield 9, 3) := by decide +kernel
theorem dX4_advance_20 : decode cX4_advance 20 = .ok (.iload_n 1, 1) := by decide +kernel
theorem dX4_advance_21 : decode cX4_advance 21 = .ok (.invokevirtual 113, 3) := by decide +kernel
theorem dX4_advance_24 : decode cX4_advance 24 = .ok (.bipush 32, 2) := by decide +kernel
theorem dX4_advance_26 : decode cX4_advance 26 = .ok (.if_icmp .ne 9, 3) := by decide +kernel
theorem dX4_advance_29 : decode cX4_advance 29 = .ok (.iinc 1 1, 3) := by decide +kernel
theorem dX4_advance_32 : decode cX4_advance 32 = .ok (.goto (-27), 3) := by decide +kernel
theorem dX4_advance_35 : decode cX4_advance 35 = .ok (.aload_n 0, 1) := by decide +kernel
theorem dX4_advance_36 : decode cX4_advance 36 = .ok (.iload_n 1, 1) := by decide +kernel
theorem dX4_advance_37 : decode cX4_advance 37 = .ok (.putfield 37, 3) := by decide +kernel
theorem dX4_advance_40 : decode cX4_advance 40 = .ok (.iload_n 1, 1) := by decide +kernel
theorem dX4_advance_41 : decode cX4_advance 41 = .ok (.aload_n 0, 1) := by decide +kernel
theorem dX4_advance_42 : decode cX4_advance 42 = .ok (.getfield 9, 3) := by decide +kernel
theorem dX4_advance_45 : decode cX4_advance 45 = .ok (.getfield 40, 3) := by decide +kernel
theorem dX4_advance_48 : decode cX4_advance 48 = .ok (.if_icmp .ge 37, 3) := by decide +kernel
theorem dX4_advance_51 : decode cX4_advance 51 = .ok (.aload_n 0, 1) := by decide +kernel
theorem dX4_advance_52 : decode cX4_advance 52 = .ok (.getfield 9, 3) := by decide +kernel
theorem dX4_advance_55 : decode cX4_advance 55 = .ok (.iload_n 1, 1) := by decide +kernel
theorem dX4_advance_56 : decode cX4_advance 56 = .ok (.invokevirtual 113, 3) := by decide +kernel
theorem dX4_advance_59 : decode cX4_advance 59 = .ok (.invokestatic 116, 3) := by decide +kernel
theorem dX4_advance_62 : decode cX4_advance 62 = .ok (.ifCond .ne 17, 3) := by decide +kernel
theorem dX4_advance_65 : decode cX4_advance 65 = .ok (.aload_n 0, 1) := by decide +kernel
theorem dX4_advance_66 : decode cX4_advance 66 = .ok (.getfield 9, 3) := by decide +kernel
theorem dX4_advance_69 : decode cX4_advance 69 = .ok (.iload_n 1, 1) := by decide +kernel
theorem dX4_advance_70 : decode cX4_advance 70 = .ok (.invokevirtual 113, 3) := by decide +kernel
theorem dX4_advance_73 : decode cX4_advance 73 = .ok (.invokestatic 119, 3) := by decide +kernel
theorem dX4_advance_76 : decode cX4_advance 76 = .ok (.ifCond .eq 9, 3) := by decide +kernel
theorem dX4_advance_79 : decode cX4_advance 79 = .ok (.iinc 1 1, 3) := by decide +kernel
theorem dX4_advance_82 : decode cX4_advance 82 = .ok (.goto (-42), 3) := by decide +kernel
theorem dX4_advance_85 : decode cX4_advance 85 = .ok (.aload_n 0, 1) := by decide +kernel
theorem dX4_advance_86 : decode cX4_advance 86 = .ok (.iload_n 1, 1) := by decide +kernel
theorem dX4_advance_87 : decode cX4_advance 87 = .ok (.putfield 31, 3) := by decide +kernel
theorem dX4_advance_90 : decode cX4_advance 90 = .ok (.return_, 1) := by decide +kernel
set_option maxRecDepth 20000 in
theorem ggX4_isPiece_J0_length_8abf5 : GoodIn wsX4_isPiece wsJ0_length_8abf5 := goodIn_r _ [8, 9, 10, 11, 12, 7, 13, 14, 15] rfl (by decide +kernel)
set_option maxRecDepth 20000 in
theorem gX4_isPiece_J0_length_8abf5 : GoodIn wsX4_isPiece (wsV RX4 122 RJ0 yJ0_length_8abf5 wsJ0_length_8abf5) := goodIn_app (goodIn_of _ (by decide +kernel)) ggX4_isPiece_J0_length_8abf5
set_option maxRecDepth 20000 in
theorem ggX4_isPiece_X6_at : GoodIn wsX4_isPiece wsX6_at := goodIn_r _ [20, 21, 22, 66, 67] rfl (by decide +kernel)
set_option maxRecDepth 20000 in
theorem gX4_isPiece_X6_at : GoodIn wsX4_isPiece (wsV RX4 113 RX6 yX6_at wsX6_at) := goodIn_app (goodIn_of _ (by decide +kernel)) ggX4_isPiece_X6_at
set_option maxRecDepth 20000 in
theorem ggX4_isPiece_J0_charAt_5068e : GoodIn wsX4_isPiece wsJ0_charAt_5068e := goodIn_r _ [26, 9, 27, 28, 29, 7, 30, 14, 15, 31, 32, 33, 34, 35, 36, 37, 38, 39, 40, 41, 42, 43, 44, 45, 46, 47, 48, 49, 50, 51, 52, 53, 54, 55, 56, 57, 58, 59] rfl (by decide +kernel)
set_option maxRecDepth 20000 in
theorem gX4_isPiece_J0_charAt_5068e : GoodIn wsX4_isPiece (wsV RX4 128 RJ0 yJ0_charAt_5068e wsJ0_charAt_5068e) := goodIn_app (goodIn_of _ (by decide +kernel)) ggX4_isPiece_J0_charAt_5068e
theorem dX4_isPiece_0 : decode cX4_isPiece 0 = .ok (.aload_n 0, 1) := by decide +kernel
theorem dX4_isPiece_1 : decode cX4_isPiece 1 = .ok (.getfield 31, 3) := by decide +kernel
theorem dX4_isPiece_4 : decode cX4_isPiece 4 = .ok (.aload_n 0, 1) := by decide +kernel
theorem dX4_isPiece_5 : decode cX4_isPiece 5 = .ok (.getfield 37, 3) := by decide +kernel
theorem dX4_isPiece_8 : decode cX4_isPiece 8 = .ok (.isub, 1) := by decide +kernel
theorem dX4_isPiece_9 : decode cX4_isPiece 9 = .ok (.aload_n 1, 1) := by decide +kernel
theorem dX4_isPiece_10 : decode cX4_isPiece 10 = .ok (.invokevirtual 122, 3) := by decide +kernel
theorem dX4_isPiece_13 : decode cX4_isPiece 13 = .ok (.if_icmp .eq 5, 3) := by decide +kernel
theorem dX4_isPiece_16 : decode cX4_isPiece 16 = .ok (.iconst 0, 1) := by decide +kernel
theorem dX4_isPiece_17 : decode cX4_isPiece 17 = .ok (.ireturn, 1) := by decide +kernel
theorem dX4_isPiece_18 : decode cX4_isPiece 18 = .ok (.iconst 0, 1) := by decide +kernel
theorem dX4_isPiece_19 : decode cX4_isPiece 19 = .ok (.istore_n 2, 1) := by decide +kernel
theorem dX4_isPiece_20 : decode cX4_isPiece 20 = .ok (.iload_n 2, 1) := by decide +kernel
theorem dX4_isPiece_21 : decode cX4_isPiece 21 = .ok (.aload_n 1, 1) := by decide +kernel
theorem dX4_isPiece_22 : decode cX4_isPiece 22 = .ok (.invokevirtual 122, 3) := by decide +kernel
theorem dX4_isPiece_25 : decode cX4_isPiece 25 = .ok (.if_icmp .ge 32, 3) := by decide +kernel
theorem dX4_isPiece_28 : decode cX4_isPiece 28 = .ok (.aload_n 0, 1) := by decide +kernel
theorem dX4_isPiece_29 : decode cX4_isPiece 29 = .ok (.getfield 9, 3) := by decide +kernel
theorem dX4_isPiece_32 : decode cX4_isPiece 32 = .ok (.aload_n 0, 1) := by decide +kernel
theorem dX4_isPiece_33 : decode cX4_isPiece 33 = .ok (.getfield 37, 3) := by decide +kernel
theorem dX4_isPiece_36 : decode cX4_isPiece 36 = .ok (.iload_n 2, 1) := by decide +kernel
theorem dX4_isPiece_37 : decode cX4_isPiece 37 = .ok (.iadd, 1) := by decide +kernel
theorem dX4_isPiece_38 : decode cX4_isPiece 38 = .ok (.invokevirtual 113, 3) := by decide +kernel
theorem dX4_isPiece_41 : decode cX4_isPiece 41 = .ok (.aload_n 1, 1) := by decide +kernel
theorem dX4_isPiece_42 : decode cX4_isPiece 42 = .ok (.iload_n 2, 1) := by decide +kernel
theorem dX4_isPiece_43 : decode cX4_isPiece 43 = .ok (.invokevirtual 128, 3) := by decide +kernel
theorem dX4_isPiece_46 : decode cX4_isPiece 46 = .ok (.if_icmp .eq 5, 3) := by decide +kernel
theorem dX4_isPiece_49 : decode cX4_isPiece 49 = .ok (.iconst 0, 1) := by decide +kernel
theorem dX4_isPiece_50 : decode cX4_isPiece 50 = .ok (.ireturn, 1) := by decide +kernel
theorem dX4_isPiece_51 : decode cX4_isPiece 51 = .ok (.iinc 2 1, 3) := by decide +kernel
theorem dX4_isPiece_54 : decode cX4_isPiece 54 = .ok (.goto (-34), 3) := by decide +kernel
theorem dX4_isPiece_57 : decode cX4_isPiece 57 = .ok (.iconst 1, 1) := by decide +kernel
theorem dX4_isPiece_58 : decode cX4_isPiece 58 = .ok (.ireturn, 1) := by decide +kernel
set_option maxRecDepth 20000 in
theorem ggX4_isName_X6_at : GoodIn wsX4_isName wsX6_at := goodIn_r _ [8, 9, 10, 21, 22] rfl (by decide +kernel)
set_option maxRecDepth 20000 in
theorem gX4_isName_X6_at : GoodIn wsX4_isName (wsV RX4 113 RX6 yX6_at wsX6_at) := goodIn_app (goodIn_of _ (by decide +kernel)) ggX4_isName_X6_at
set_option maxRecDepth 20000 in
theorem ggX4_isName_X4_isLetter : GoodIn wsX4_isName wsX4_isLetter := goodIn_r _ [14] rfl (by decide +kernel)
set_option maxRecDepth 20000 in
theorem gX4_isName_X4_isLetter : GoodIn wsX4_isName (va_wsS RX4 116 yX4_isLetter wsX4_isLetter) := goodIn_app (goodIn_of _ (by decide +kernel)) ggX4_isName_X4_isLetter
theorem dX4_isName_0 : decode cX4_isName 0 = .ok (.aload_n 0, 1) := by decide +kernel
theorem dX4_isName_1 : decode cX4_isName 1 = .ok (.getfield 31, 3) := by decide +kernel
theorem dX4_isName_4 : decode cX4_isName 4 = .ok (.aload_n 0, 1) := by decide +kernel
theorem dX4_isName_5 : decode cX4_isName 5 = .ok (.getfield 37, 3) := by decide +kernel
theorem dX4_isName_8 : decode cX4_isName 8 = .ok (.if_icmp .eq 17, 3) := by decide +kernel
theorem dX4_isName_11 : decode cX4_isName 11 = .ok (.aload_n 0, 1) := by decide +kernel
theorem dX4_isName_12 : decode cX4_isName 12 = .ok (.getfield 31, 3) := by decide +kernel
theorem dX4_isName_15 : decode cX4_isName 15 = .ok (.aload_n 0, 1) := by decide +kernel
theorem dX4_isName_16 : decode cX4_isName 16 = .ok (.getfield 37, 3) := by decide +kernel
theorem dX4_isName_19 : decode cX4_isName 19 = .ok (.isub, 1) := by decide +kernel
theorem dX4_isName_20 : decode cX4_isName 20 = .ok (.bipush 6, 2) := by decide +kernel
theorem dX4_isName_22 : decode cX4_isName 22 = .ok (.if_icmp .le 5, 3) := by decide +kernel
theorem dX4_isName_25 : decode cX4_isName 25 = .ok (.iconst 0, 1) := by decide +kernel
theorem dX4_isName_26 : decode cX4_isName 26 = .ok (.ireturn, 1) := by decide +kernel
theorem dX4_isName_27 : decode cX4_isName 27 = .ok (.aload_n 0, 1) := by decide +kernel
theorem dX4_isName_28 : decode cX4_isName 28 = .ok (.getfield 37, 3) := by decide +kernel
theorem dX4_isName_31 : decode cX4_isName 31 = .ok (.istore_n 1, 1) := by decide +kernel
theorem dX4_isName_32 : decode cX4_isName 32 = .ok (.iload_n 1, 1) := by decide +kernel
theorem dX4_isName_33 : decode cX4_isName 33 = .ok (.aload_n 0, 1) := by decide +kernel
theorem dX4_isName_34 : decode cX4_isName 34 = .ok (.getfield 31, 3) := by decide +kernel
theorem dX4_isName_37 : decode cX4_isName 37 = .ok (.if_icmp .ge 25, 3) := by decide +kernel
theorem dX4_isName_40 : decode cX4_isName 40 = .ok (.aload_n 0, 1) := by decide +kernel
theorem dX4_isName_41 : decode cX4_isName 41 = .ok (.getfield 9, 3) := by decide +kernel
theorem dX4_isName_44 : decode cX4_isName 44 = .ok (.iload_n 1, 1) := by decide +kernel
theorem dX4_isName_45 : decode cX4_isName 45 = .ok (.invokevirtual 113, 3) := by decide +kernel
theorem dX4_isName_48 : decode cX4_isName 48 = .ok (.invokestatic 116, 3) := by decide +kernel
theorem dX4_isName_51 : decode cX4_isName 51 = .ok (.ifCond .ne 5, 3) := by decide +kernel
theorem dX4_isName_54 : decode cX4_isName 54 = .ok (.iconst 0, 1) := by decide +kernel
theorem dX4_isName_55 : decode cX4_isName 55 = .ok (.ireturn, 1) := by decide +kernel
theorem dX4_isName_56 : decode cX4_isName 56 = .ok (.iinc 1 1, 3) := by decide +kernel
theorem dX4_isName_59 : decode cX4_isName 59 = .ok (.goto (-27), 3) := by decide +kernel
theorem dX4_isName_62 : decode cX4_isName 62 = .ok (.iconst 1, 1) := by decide +kernel
theorem dX4_isName_63 : decode cX4_isName 63 = .ok (.ireturn, 1) := by decide +kernel
set_option maxRecDepth 20000 in
theorem ggX4_readWord_X6_empty : GoodIn wsX4_readWord wsX6_empty := goodIn_r _ [8, 9, 37, 38] rfl (by decide +kernel)
set_option maxRecDepth 20000 in
theorem gX4_readWord_X6_empty : GoodIn wsX4_readWord (wsV RX4 132 RX6 yX6_empty wsX6_empty) := goodIn_app (goodIn_of _ (by decide +kernel)) ggX4_readWord_X6_empty
set_option maxRecDepth 20000 in
theorem ggX4_readWord_X6_at : GoodIn wsX4_readWord wsX6_at := goodIn_r _ [13, 9, 14, 37, 38] rfl (by decide +kernel)
set_option maxRecDepth 20000 in
theorem gX4_readWord_X6_at : GoodIn wsX4_readWord (wsV RX4 113 RX6 yX6_at wsX6_at) := goodIn_app (goodIn_of _ (by decide +kernel)) ggX4_readWord_X6_at
set_option maxRecDepth 20000 in
theorem ggX4_readWord_X6_add : GoodIn wsX4_readWord wsX6_add := goodIn_r _ [18, 9, 14, 37, 38] rfl (by decide +kernel)
set_option maxRecDepth 20000 in
theorem gX4_readWord_X6_add : GoodIn wsX4_readWord (wsV RX4 135 RX6 yX6_add wsX6_add) := goodIn_app (goodIn_of _ (by decide +kernel)) ggX4_readWord_X6_add
set_option maxRecDepth 20000 in
theorem ggX4_readWord_X4_advance : GoodIn wsX4_readWord wsX4_advance := goodIn_r _ [23, 2, 3, 24, 1, 10, 11, 12, 7, 13, 9, 14, 25, 26, 22, 27, 28, 29, 30, 31, 32, 33, 34, 35, 36, 37, 38] rfl (by decide +kernel)
set_option maxRecDepth 20000 in
theorem gX4_readWord_X4_advance : GoodIn wsX4_readWord (wsV RX4 34 RX4 yX4_advance wsX4_advance) := goodIn_app (goodIn_of _ (by decide +kernel)) ggX4_readWord_X4_advance
theorem dX4_readWord_0 : decode cX4_readWord 0 = .ok (.aload_n 1, 1) := by decide +kernel
theorem dX4_readWord_1 : decode cX4_readWord 1 = .ok (.invokevirtual 132, 3) := by decide +kernel
theorem dX4_readWord_4 : decode cX4_readWord 4 = .ok (.aload_n 0, 1) := by decide +kernel
theorem dX4_readWord_5 : decode cX4_readWord 5 = .ok (.getfield 37, 3) := by decide +kernel
theorem dX4_readWord_8 : decode cX4_readWord 8 = .ok (.istore_n 2, 1) := by decide +kernel
theorem dX4_readWord_9 : decode cX4_readWord 9 = .ok (.iload_n 2, 1) := by decide +kernel
theorem dX4_readWord_10 : decode cX4_readWord 10 = .ok (.aload_n 0, 1) := by decide +kernel
theorem dX4_readWord_11 : decode cX4_readWord 11 = .ok (.getfield 31, 3) := by decide +kernel
theorem dX4_readWord_14 : decode cX4_readWord 14 = .ok (.if_icmp .ge 22, 3) := by decide +kernel
theorem dX4_readWord_17 : decode cX4_readWord 17 = .ok (.aload_n 1, 1) := by decide +kernel
theorem dX4_readWord_18 : decode cX4_readWord 18 = .ok (.aload_n 0, 1) := by decide +kernel
theorem dX4_readWord_19 : decode cX4_readWord 19 = .ok (.getfield 9, 3) := by decide +kernel
theorem dX4_readWord_22 : decode cX4_readWord 22 = .ok (.iload_n 2, 1) := by decide +kernel
theorem dX4_readWord_23 : decode cX4_readWord 23 = .ok (.invokevirtual 113, 3) := by decide +kernel
theorem dX4_readWord_26 : decode cX4_readWord 26 = .ok (.invokevirtual 135, 3) := by decide +kernel
theorem dX4_readWord_29 : decode cX4_readWord 29 = .ok (.pop, 1) := by decide +kernel
theorem dX4_readWord_30 : decode cX4_readWord 30 = .ok (.iinc 2 1, 3) := by decide +kernel
theorem dX4_readWord_33 : decode cX4_readWord 33 = .ok (.goto (-24), 3) := by decide +kernel
theorem dX4_readWord_36 : decode cX4_readWord 36 = .ok (.aload_n 0, 1) := by decide +kernel
theorem dX4_readWord_37 : decode cX4_readWord 37 = .ok (.invokevirtual 34, 3) := by decide +kernel
theorem dX4_readWord_40 : decode cX4_readWord 40 = .ok (.return_, 1) := by decide +kernel
set_option maxRecDepth 20000 in
theorem ggX4_readSign_X6_at : GoodIn wsX4_readSign wsX6_at := goodIn_r _ [8, 9, 10, 29, 30] rfl (by decide +kernel)
set_option maxRecDepth 20000 in
theorem gX4_readSign_X6_at : GoodIn wsX4_readSign (wsV RX4 113 RX6 yX6_at wsX6_at) := goodIn_app (goodIn_of _ (by decide +kernel)) ggX4_readSign_X6_at
set_option maxRecDepth 20000 in
theorem ggX4_readSign_X4_advance : GoodIn wsX4_readSign wsX4_advance := goodIn_r _ [15, 1, 3, 16, 2, 4, 5, 6, 7, 8, 9, 10, 17, 18, 14, 19, 20, 21, 22, 23, 24, 25, 26, 27, 28, 29, 30] rfl (by decide +kernel)
set_option maxRecDepth 20000 in
theorem gX4_readSign_X4_advance : GoodIn wsX4_readSign (wsV RX4 34 RX4 yX4_advance wsX4_advance) := goodIn_app (goodIn_of _ (by decide +kernel)) ggX4_readSign_X4_advance
theorem dX4_readSign_0 : decode cX4_readSign 0 = .ok (.aload_n 0, 1) := by decide +kernel
theorem dX4_readSign_1 : decode cX4_readSign 1 = .ok (.getfield 31, 3) := by decide +kernel
theorem dX4_readSign_4 : decode cX4_readSign 4 = .ok (.aload_n 0, 1) := by decide +kernel
theorem dX4_readSign_5 : decode cX4_readSign 5 = .ok (.getfield 37, 3) := by decide +kernel
theorem dX4_readSign_8 : decode cX4_readSign 8 = .ok (.if_icmp .gt 18, 3) := by decide +kernel
theorem dX4_readSign_11 : decode cX4_readSign 11 = .ok (.aload_n 0, 1) := by decide +kernel
theorem dX4_readSign_12 : decode cX4_readSign 12 = .ok (.getfield 9, 3) := by decide +kernel
theorem dX4_readSign_15 : decode cX4_readSign 15 = .ok (.aload_n 0, 1) := by decide +kernel
theorem dX4_readSign_16 : decode cX4_readSign 16 = .ok (.getfield 37, 3) := by decide +kernel
theorem dX4_readSign_19 : decode cX4_readSign 19 = .ok (.invokevirtual 113, 3) := by decide +kernel
theorem dX4_readSign_22 : decode cX4_readSign 22 = .ok (.iload_n 1, 1) := by decide +kernel
theorem dX4_readSign_23 : decode cX4_readSign 23 = .ok (.if_icmp .eq 5, 3) := by decide +kernel
theorem dX4_readSign_26 : decode cX4_readSign 26 = .ok (.iconst 0, 1) := by decide +kernel
theorem dX4_readSign_27 : decode cX4_readSign 27 = .ok (.ireturn, 1) := by decide +kernel
theorem dX4_readSign_28 : decode cX4_readSign 28 = .ok (.aload_n 0, 1) := by decide +kernel
theorem dX4_readSign_29 : decode cX4_readSign 29 = .ok (.aload_n 0, 1) := by decide +kernel
theorem dX4_readSign_30 : decode cX4_readSign 30 = .ok (.getfield 37, 3) := by decide +kernel
theorem dX4_readSign_33 : decode cX4_readSign 33 = .ok (.iconst 1, 1) := by decide +kernel
theorem dX4_readSign_34 : decode cX4_readSign 34 = .ok (.iadd, 1) := by decide +kernel
theorem dX4_readSign_35 : decode cX4_readSign 35 = .ok (.putfield 31, 3) := by decide +kernel
theorem dX4_readSign_38 : decode cX4_readSign 38 = .ok (.aload_n 0, 1) := by decide +kernel
theorem dX4_readSign_39 : decode cX4_readSign 39 = .ok (.invokevirtual 34, 3) := by decide +kernel
theorem dX4_readSign_42 : decode cX4_readSign 42 = .ok (.iconst 1, 1) := by decide +kernel
theorem dX4_readSign_43 : decode cX4_readSign 43 = .ok (.ireturn, 1) := by decide +kernel
set_option maxRecDepth 20000 in
theorem ggX4_readNumber_X6_at : GoodIn wsX4_readNumber wsX6_at := goodIn_r _ [8, 9, 10, 29, 30] rfl (by decide +kernel)
set_option maxRecDepth 20000 in
theorem gX4_readNumber_X6_at : GoodIn wsX4_readNumber (wsV RX4 113 RX6 yX6_at wsX6_at) := goodIn_app (goodIn_of _ (by decide +kernel)) ggX4_readNumber_X6_at
set_option maxRecDepth 20000 in
theorem ggX4_readNumber_X4_isDigit : GoodIn wsX4_readNumber wsX4_isDigit := goodIn_r _ [14] rfl (by decide +kernel)
set_option maxRecDepth 20000 in
theorem gX4_readNumber_X4_isDigit : GoodIn wsX4_readNumber (va_wsS RX4 119 yX4_isDigit wsX4_isDigit) := goodIn_app (goodIn_of _ (by decide +kernel)) ggX4_readNumber_X4_isDigit
set_option maxRecDepth 20000 in
theorem ggX4_readNumber_X4_advance : GoodIn wsX4_readNumber wsX4_advance := goodIn_r _ [18, 1, 3, 19, 2, 4, 5, 6, 7, 8, 9, 10, 20, 21, 13, 22, 11, 12, 14, 23, 24, 25, 26, 27, 28, 29, 30] rfl (by decide +kernel)
set_option maxRecDepth 20000 in
theorem gX4_readNumber_X4_advance : GoodIn wsX4_readNumber (wsV RX4 34 RX4 yX4_advance wsX4_advance) := goodIn_app (goodIn_of _ (by decide +kernel)) ggX4_readNumber_X4_advance
theorem dX4_readNumber_0 : decode cX4_readNumber 0 = .ok (.aload_n 0, 1) := by decide +kernel
theorem dX4_readNumber_1 : decode cX4_readNumber 1 = .ok (.getfield 31, 3) := by decide +kernel
theorem dX4_readNumber_4 : decode cX4_readNumber 4 = .ok (.aload_n 0, 1) := by decide +kernel
theorem dX4_readNumber_5 : decode cX4_readNumber 5 = .ok (.getfield 37, 3) := by decide +kernel
theorem dX4_readNumber_8 : decode cX4_readNumber 8 = .ok (.isub, 1) := by decide +kernel
theorem dX4_readNumber_9 : decode cX4_readNumber 9 = .ok (.istore_n 2, 1) := by decide +kernel
theorem dX4_readNumber_10 : decode cX4_readNumber 10 = .ok (.iload_n 2, 1) := by decide +kernel
theorem dX4_readNumber_11 : decode cX4_readNumber 11 = .ok (.iconst 1, 1) := by decide +kernel
theorem dX4_readNumber_12 : decode cX4_readNumber 12 = .ok (.if_icmp .lt 29, 3) := by decide +kernel
theorem dX4_readNumber_15 : decode cX4_readNumber 15 = .ok (.iload_n 2, 1) := by decide +kernel
theorem dX4_readNumber_16 : decode cX4_readNumber 16 = .ok (.iconst 3, 1) := by decide +kernel
theorem dX4_readNumber_17 : decode cX4_readNumber 17 = .ok (.if_icmp .gt 24, 3) := by decide +kernel
theorem dX4_readNumber_20 : decode cX4_readNumber 20 = .ok (.iload_n 2, 1) := by decide +kernel
theorem dX4_readNumber_21 : decode cX4_readNumber 21 = .ok (.iconst 1, 1) := by decide +kernel
theorem dX4_readNumber_22 : decode cX4_readNumber 22 = .ok (.if_icmp .le 22, 3) := by decide +kernel
theorem dX4_readNumber_25 : decode cX4_readNumber 25 = .ok (.aload_n 0, 1) := by decide +kernel
theorem dX4_readNumber_26 : decode cX4_readNumber 26 = .ok (.getfield 9, 3) := by decide +kernel
theorem dX4_readNumber_29 : decode cX4_readNumber 29 = .ok (.aload_n 0, 1) := by decide +kernel
theorem dX4_readNumber_30 : decode cX4_readNumber 30 = .ok (.getfield 37, 3) := by decide +kernel
theorem dX4_readNumber_33 : decode cX4_readNumber 33 = .ok (.invokevirtual 113, 3) := by decide +kernel
theorem dX4_readNumber_36 : decode cX4_readNumber 36 = .ok (.bipush 48, 2) := by decide +kernel
theorem dX4_readNumber_38 : decode cX4_readNumber 38 = .ok (.if_icmp .ne 6, 3) := by decide +kernel
theorem dX4_readNumber_41 : decode cX4_readNumber 41 = .ok (.bipush (-9), 2) := by decide +kernel
theorem dX4_readNumber_43 : decode cX4_readNumber 43 = .ok (.ireturn, 1) := by decide +kernel
theorem dX4_readNumber_44 : decode cX4_readNumber 44 = .ok (.iconst 0, 1) := by decide +kernel
theorem dX4_readNumber_45 : decode cX4_readNumber 45 = .ok (.istore_n 3, 1) := by decide +kernel
theorem dX4_readNumber_46 : decode cX4_readNumber 46 = .ok (.aload_n 0, 1) := by decide +kernel
theorem dX4_readNumber_47 : decode cX4_readNumber 47 = .ok (.getfield 37, 3) := by decide +kernel
theorem dX4_readNumber_50 : decode cX4_readNumber 50 = .ok (.istore 4, 2) := by decide +kernel
theorem dX4_readNumber_52 : decode cX4_readNumber 52 = .ok (.iload 4, 2) := by decide +kernel
theorem dX4_readNumber_54 : decode cX4_readNumber 54 = .ok (.aload_n 0, 1) := by decide +kernel
theorem dX4_readNumber_55 : decode cX4_readNumber 55 = .ok (.getfield 31, 3) := by decide +kernel
theorem dX4_readNumber_58 : decode cX4_readNumber 58 = .ok (.if_icmp .ge 45, 3) := by decide +kernel
theorem dX4_readNumber_61 : decode cX4_readNumber 61 = .ok (.aload_n 0, 1) := by decide +kernel
theorem dX4_readNumber_62 : decode cX4_readNumber 62 = .ok (.getfield 9, 3) := by decide +kernel
theorem dX4_readNumber_65 : decode cX4_readNumber 65 = .ok (.iload 4, 2) := by decide +kernel
theorem dX4_readNumber_67 : decode cX4_readNumber 67 = .ok (.invokevirtual 113, 3) := by decide +kernel
theorem dX4_readNumber_70 : decode cX4_readNumber 70 = .ok (.invokestatic 119, 3) := by decide +kernel
theorem dX4_readNumber_73 : decode cX4_readNumber 73 = .ok (.ifCond .ne 6, 3) := by decide +kernel
theorem dX4_readNumber_76 : decode cX4_readNumber 76 = .ok (.bipush (-9), 2) := by decide +kernel
theorem dX4_readNumber_78 : decode cX4_readNumber 78 = .ok (.ireturn, 1) := by decide +kernel
theorem dX4_readNumber_79 : decode cX4_readNumber 79 = .ok (.iload_n 3, 1) := by decide +kernel
theorem dX4_readNumber_80 : decode cX4_readNumber 80 = .ok (.bipush 10, 2) := by decide +kernel
theorem dX4_readNumber_82 : decode cX4_readNumber 82 = .ok (.imul, 1) := by decide +kernel
theorem dX4_readNumber_83 : decode cX4_readNumber 83 = .ok (.aload_n 0, 1) := by decide +kernel
theorem dX4_readNumber_84 : decode cX4_readNumber 84 = .ok (.getfield 9, 3) := by decide +kernel
theorem dX4_readNumber_87 : decode cX4_readNumber 87 = .ok (.iload 4, 2) := by decide +kernel
theorem dX4_readNumber_89 : decode cX4_readNumber 89 = .ok (.invokevirtual 113, 3) := by decide +kernel
theorem dX4_readNumber_92 : decode cX4_readNumber 92 = .ok (.iadd, 1) := by decide +kernel
theorem dX4_readNumber_93 : decode cX4_readNumber 93 = .ok (.bipush 48, 2) := by decide +kernel
theorem dX4_readNumber_95 : decode cX4_readNumber 95 = .ok (.isub, 1) := by decide +kernel
theorem dX4_readNumber_96 : decode cX4_readNumber 96 = .ok (.istore_n 3, 1) := by decide +kernel
theorem dX4_readNumber_97 : decode cX4_readNumber 97 = .ok (.iinc 4 1, 3) := by decide +kernel
theorem dX4_readNumber_100 : decode cX4_readNumber 100 = .ok (.goto (-48), 3) := by decide +kernel
theorem dX4_readNumber_103 : decode cX4_readNumber 103 = .ok (.iload_n 3, 1) := by decide +kernel
theorem dX4_readNumber_104 : decode cX4_readNumber 104 = .ok (.iload_n 1, 1) := by decide +kernel
theorem dX4_readNumber_105 : decode cX4_readNumber 105 = .ok (.if_icmp .le 6, 3) := by decide +kernel
theorem dX4_readNumber_108 : decode cX4_readNumber 108 = .ok (.bipush (-9), 2) := by decide +kernel
theorem dX4_readNumber_110 : decode cX4_readNumber 110 = .ok (.ireturn, 1) := by decide +kernel
theorem dX4_readNumber_111 : decode cX4_readNumber 111 = .ok (.aload_n 0, 1) := by decide +kernel
theorem dX4_readNumber_112 : decode cX4_readNumber 112 = .ok (.invokevirtual 34, 3) := by decide +kernel
theorem dX4_readNumber_115 : decode cX4_readNumber 115 = .ok (.iload_n 3, 1) := by decide +kernel
theorem dX4_readNumber_116 : decode cX4_readNumber 116 = .ok (.ireturn, 1) := by decide +kernel
theorem dX4_isLetter_0 : decode cX4_isLetter 0 = .ok (.iload_n 0, 1) := by decide +kernel
theorem dX4_isLetter_1 : decode cX4_isLetter 1 = .ok (.bipush 97, 2) := by decide +kernel
theorem dX4_isLetter_3 : decode cX4_isLetter 3 = .ok (.if_icmp .lt 13, 3) := by decide +kernel
theorem dX4_isLetter_6 : decode cX4_isLetter 6 = .ok (.iload_n 0, 1) := by decide +kernel
theorem dX4_isLetter_7 : decode cX4_isLetter 7 = .ok (.bipush 122, 2) := by decide +kernel
theorem dX4_isLetter_9 : decode cX4_isLetter 9 = .ok (.if_icmp .gt 7, 3) := by decide +kernel
theorem dX4_isLetter_12 : decode cX4_isLetter 12 = .ok (.iconst 1, 1) := by decide +kernel
theorem dX4_isLetter_13 : decode cX4_isLetter 13 = .ok (.goto 4, 3) := by decide +kernel
theorem dX4_isLetter_16 : decode cX4_isLetter 16 = .ok (.iconst 0, 1) := by decide +kernel
theorem dX4_isLetter_17 : decode cX4_isLetter 17 = .ok (.ireturn, 1) := by decide +kernel
theorem dX4_isDigit_0 : decode cX4_isDigit 0 = .ok (.iload_n 0, 1) := by decide +kernel
theorem dX4_isDigit_1 : decode cX4_isDigit 1 = .ok (.bipush 48, 2) := by decide +kernel
theorem dX4_isDigit_3 : decode cX4_isDigit 3 = .ok (.if_icmp .lt 13, 3) := by decide +kernel
theorem dX4_isDigit_6 : decode cX4_isDigit 6 = .ok (.iload_n 0, 1) := by decide +kernel
theorem dX4_isDigit_7 : decode cX4_isDigit 7 = .ok (.bipush 57, 2) := by decide +kernel
theorem dX4_isDigit_9 : decode cX4_isDigit 9 = .ok (.if_icmp .gt 7, 3) := by decide +kernel
theorem dX4_isDigit_12 : decode cX4_isDigit 12 = .ok (.iconst 1, 1) := by decide +kernel
theorem dX4_isDigit_13 : decode cX4_isDigit 13 = .ok (.goto 4, 3) := by decide +kernel
theorem dX4_isDigit_16 : decode cX4_isDigit 16 = .ok (.iconst 0, 1) := by decide +kernel
theorem dX4_isDigit_17 : decode cX4_isDigit 17 = .ok (.ireturn, 1) := by decide +kernel
set_option maxRecDepth 20000 in
theorem ggX5_init_X9_init : GoodIn wsX5_init wsX9_init := goodIn_r _ [13, 14, 2, 3, 15, 16, 17, 18, 19, 29, 30, 31, 32, 33, 34, 35] rfl (by decide +kernel)
set_option maxRecDepth 20000 in
theorem gX5_init_X9_init_n11 : GoodIn wsX5_init (wsX9_init) := ggX5_init_X9_init
set_option maxRecDepth 20000 in
theorem ggX5_init_X6_init : GoodIn wsX5_init wsX6_init := goodIn_r _ [22, 23, 2, 3, 24, 25, 26, 27, 15, 28, 39, 40] rfl (by decide +kernel)
set_option maxRecDepth 20000 in
theorem gX5_init_X6_init : GoodIn wsX5_init (wsX6_init) := ggX5_init_X6_init
theorem dX5_init_0 : decode cX5_init 0 = .ok (.aload_n 0, 1) := by decide +kernel
theorem dX5_init_1 : decode cX5_init 1 = .ok (.invokespecial 3, 3) := by decide +kernel
theorem dX5_init_4 : decode cX5_init 4 = .ok (.aload_n 0, 1) := by decide +kernel
theorem dX5_init_5 : decode cX5_init 5 = .ok (.new 9, 3) := by decide +kernel
theorem dX5_init_8 : decode cX5_init 8 = .ok (.dup, 1) := by decide +kernel
theorem dX5_init_9 : decode cX5_init 9 = .ok (.invokespecial 11, 3) := by decide +kernel
theorem dX5_init_12 : decode cX5_init 12 = .ok (.putfield 12, 3) := by decide +kernel
theorem dX5_init_15 : decode cX5_init 15 = .ok (.aload_n 0, 1) := by decide +kernel
theorem dX5_init_16 : decode cX5_init 16 = .ok (.new 18, 3) := by decide +kernel
theorem dX5_init_19 : decode cX5_init 19 = .ok (.dup, 1) := by decide +kernel
theorem dX5_init_20 : decode cX5_init 20 = .ok (.sipush 160, 3) := by decide +kernel
theorem dX5_init_23 : decode cX5_init 23 = .ok (.invokespecial 20, 3) := by decide +kernel
theorem dX5_init_26 : decode cX5_init 26 = .ok (.putfield 23, 3) := by decide +kernel
theorem dX5_init_29 : decode cX5_init 29 = .ok (.return_, 1) := by decide +kernel
set_option maxRecDepth 20000 in
theorem ggX5_restart_X9_restart : GoodIn wsX5_restart wsX9_restart := goodIn_r _ [8, 9, 10, 11, 12, 22, 23, 24, 25, 26, 27, 28] rfl (by decide +kernel)
set_option maxRecDepth 20000 in
theorem gX5_restart_X9_restart : GoodIn wsX5_restart (wsV RX5 27 RX9 yX9_restart wsX9_restart) := goodIn_app (goodIn_of _ (by decide +kernel)) ggX5_restart_X9_restart
set_option maxRecDepth 20000 in
theorem ggX5_restart_X6_empty : GoodIn wsX5_restart wsX6_empty := goodIn_r _ [17, 18, 29, 30] rfl (by decide +kernel)
set_option maxRecDepth 20000 in
theorem gX5_restart_X6_empty : GoodIn wsX5_restart (wsV RX5 30 RX6 yX6_empty wsX6_empty) := goodIn_app (goodIn_of _ (by decide +kernel)) ggX5_restart_X6_empty
theorem dX5_restart_0 : decode cX5_restart 0 = .ok (.aload_n 0, 1) := by decide +kernel
theorem dX5_restart_1 : decode cX5_restart 1 = .ok (.getfield 12, 3) := by decide +kernel
theorem dX5_restart_4 : decode cX5_restart 4 = .ok (.invokevirtual 27, 3) := by decide +kernel
theorem dX5_restart_7 : decode cX5_restart 7 = .ok (.aload_n 0, 1) := by decide +kernel
theorem dX5_restart_8 : decode cX5_restart 8 = .ok (.getfield 23, 3) := by decide +kernel
theorem dX5_restart_11 : decode cX5_restart 11 = .ok (.invokevirtual 30, 3) := by decide +kernel
theorem dX5_restart_14 : decode cX5_restart 14 = .ok (.aload_n 0, 1) := by decide +kernel
theorem dX5_restart_15 : decode cX5_restart 15 = .ok (.iconst 0, 1) := by decide +kernel
theorem dX5_restart_16 : decode cX5_restart 16 = .ok (.putfield 33, 3) := by decide +kernel
theorem dX5_restart_19 : decode cX5_restart 19 = .ok (.return_, 1) := by decide +kernel
set_option maxRecDepth 20000 in
theorem ggX5_receive_X5_decode : GoodIn wsX5_receive wsX5_decode := goodIn_r _ [9, 4, 1, 10, 11, 12, 13, 14, 15, 16, 17, 18, 19, 20, 21, 22, 23, 24, 25, 26, 27, 28, 29, 30, 31, 32, 33, 34, 35, 36, 37, 38, 46, 47] rfl (by decide +kernel)
set_option maxRecDepth 20000 in
theorem gX5_receive_X5_decode : GoodIn wsX5_receive (wsV RX5 45 RX5 yX5_decode wsX5_decode) := goodIn_app (goodIn_of _ (by decide +kernel)) ggX5_receive_X5_decode
theorem dX5_receive_0 : decode cX5_receive 0 = .ok (.aload_n 1, 1) := by decide +kernel
theorem dX5_receive_1 : decode cX5_receive 1 = .ok (.getfield 37, 3) := by decide +kernel
theorem dX5_receive_4 : decode cX5_receive 4 = .ok (.aload_n 0, 1) := by decide +kernel
theorem dX5_receive_5 : decode cX5_receive 5 = .ok (.getfield 12, 3) := by decide +kernel
theorem dX5_receive_8 : decode cX5_receive 8 = .ok (.getfield 42, 3) := by decide +kernel
theorem dX5_receive_11 : decode cX5_receive 11 = .ok (.if_icmp .gt 11, 3) := by decide +kernel
theorem dX5_receive_14 : decode cX5_receive 14 = .ok (.aload_n 0, 1) := by decide +kernel
theorem dX5_receive_15 : decode cX5_receive 15 = .ok (.aload_n 1, 1) := by decide +kernel
theorem dX5_receive_16 : decode cX5_receive 16 = .ok (.invokevirtual 45, 3) := by decide +kernel
theorem dX5_receive_19 : decode cX5_receive 19 = .ok (.goto 8, 3) := by decide +kernel
theorem dX5_receive_22 : decode cX5_receive 22 = .ok (.aload_n 1, 1) := by decide +kernel
theorem dX5_receive_23 : decode cX5_receive 23 = .ok (.iconst 1, 1) := by decide +kernel
theorem dX5_receive_24 : decode cX5_receive 24 = .ok (.putfield 49, 3) := by decide +kernel
theorem dX5_receive_27 : decode cX5_receive 27 = .ok (.return_, 1) := by decide +kernel
set_option maxRecDepth 20000 in
theorem ggX5_decode_X6_addInteger : GoodIn wsX5_decode wsX6_addInteger := goodIn_r _ [14, 15, 16, 17, 13, 18, 19, 20, 32, 33] rfl (by decide +kernel)
set_option maxRecDepth 20000 in
theorem gX5_decode_X6_addInteger : GoodIn wsX5_decode (wsV RX5 55 RX6 yX6_addInteger wsX6_addInteger) := goodIn_app (goodIn_of _ (by decide +kernel)) ggX5_decode_X6_addInteger
theorem dX5_decode_0 : decode cX5_decode 0 = .ok (.aload_n 1, 1) := by decide +kernel
theorem dX5_decode_1 : decode cX5_decode 1 = .ok (.iconst 2, 1) := by decide +kernel
theorem dX5_decode_2 : decode cX5_decode 2 = .ok (.putfield 49, 3) := by decide +kernel
theorem dX5_decode_5 : decode cX5_decode 5 = .ok (.aload_n 1, 1) := by decide +kernel
theorem dX5_decode_6 : decode cX5_decode 6 = .ok (.getfield 37, 3) := by decide +kernel
theorem dX5_decode_9 : decode cX5_decode 9 = .ok (.ifCond .le 34, 3) := by decide +kernel
theorem dX5_decode_12 : decode cX5_decode 12 = .ok (.aload_n 0, 1) := by decide +kernel
theorem dX5_decode_13 : decode cX5_decode 13 = .ok (.getfield 23, 3) := by decide +kernel
theorem dX5_decode_16 : decode cX5_decode 16 = .ok (.sipush 128, 3) := by decide +kernel
theorem dX5_decode_19 : decode cX5_decode 19 = .ok (.bipush 7, 2) := by decide +kernel
theorem dX5_decode_21 : decode cX5_decode 21 = .ok (.aload_n 1, 1) := by decide +kernel
theorem dX5_decode_22 : decode cX5_decode 22 = .ok (.getfield 52, 3) := by decide +kernel
theorem dX5_decode_25 : decode cX5_decode 25 = .ok (.invokevirtual 55, 3) := by decide +kernel
theorem dX5_decode_28 : decode cX5_decode 28 = .ok (.aload_n 0, 1) := by decide +kernel
theorem dX5_decode_29 : decode cX5_decode 29 = .ok (.aload_n 0, 1) := by decide +kernel
theorem dX5_decode_30 : decode cX5_decode 30 = .ok (.getfield 33, 3) := by decide +kernel
theorem dX5_decode_33 : decode cX5_decode 33 = .ok (.aload_n 1, 1) := by decide +kernel
theorem dX5_decode_34 : decode cX5_decode 34 = .ok (.getfield 37, 3) := by decide +kernel
theorem dX5_decode_37 : decode cX5_decode 37 = .ok (.invokestatic 59, 3) := by decide +kernel
theorem dX5_decode_40 : decode cX5_decode 40 = .ok (.putfield 33, 3) := by decide +kernel
theorem dX5_decode_43 : decode cX5_decode 43 = .ok (.return_, 1) := by decide +kernel
set_option maxRecDepth 20000 in
theorem ggX5_decodeBlocked_X1_blockedAt : GoodIn wsX5_decodeBlocked wsX1_blockedAt := goodIn_r _ [8, 9, 10, 11, 12, 7, 13, 14, 15, 16, 17, 18, 19, 20, 21, 22, 23, 24, 25, 26, 27, 28, 72, 73, 54, 55, 56, 57, 58, 59, 60, 61] rfl (by decide +kernel)
set_option maxRecDepth 20000 in
theorem gX5_decodeBlocked_X1_blockedAt : GoodIn wsX5_decodeBlocked (wsV RX5 65 RX1 yX1_blockedAt wsX1_blockedAt) := goodIn_app (goodIn_of _ (by decide +kernel)) ggX5_decodeBlocked_X1_blockedAt
set_option maxRecDepth 20000 in
theorem ggX5_decodeBlocked_X1_at : GoodIn wsX5_decodeBlocked wsX1_at := goodIn_r _ [18, 9, 19, 72, 73] rfl (by decide +kernel)
set_option maxRecDepth 20000 in
theorem gX5_decodeBlocked_X1_at : GoodIn wsX5_decodeBlocked (wsV RX5 71 RX1 yX1_at wsX1_at) := goodIn_app (goodIn_of _ (by decide +kernel)) ggX5_decodeBlocked_X1_at
set_option maxRecDepth 20000 in
theorem ggX5_decodeBlocked_X5_decode : GoodIn wsX5_decodeBlocked wsX5_decode := goodIn_r _ [34, 35, 1, 36, 37, 38, 39, 40, 41, 42, 43, 44, 45, 46, 47, 48, 49, 50, 51, 52, 53, 54, 55, 56, 57, 58, 59, 60, 61, 62, 63, 64, 74, 75] rfl (by decide +kernel)
set_option maxRecDepth 20000 in
theorem gX5_decodeBlocked_X5_decode : GoodIn wsX5_decodeBlocked (wsV RX5 45 RX5 yX5_decode wsX5_decode) := goodIn_app (goodIn_of _ (by decide +kernel)) ggX5_decodeBlocked_X5_decode
theorem dX5_decodeBlocked_0 : decode cX5_decodeBlocked 0 = .ok (.iconst 0, 1) := by decide +kernel
theorem dX5_decodeBlocked_1 : decode cX5_decodeBlocked 1 = .ok (.istore_n 2, 1) := by decide +kernel
theorem dX5_decodeBlocked_2 : decode cX5_decodeBlocked 2 = .ok (.iload_n 2, 1) := by decide +kernel
theorem dX5_decodeBlocked_3 : decode cX5_decodeBlocked 3 = .ok (.bipush 40, 2) := by decide +kernel
theorem dX5_decodeBlocked_5 : decode cX5_decodeBlocked 5 = .ok (.if_icmp .ge 43, 3) := by decide +kernel
theorem dX5_decodeBlocked_8 : decode cX5_decodeBlocked 8 = .ok (.aload_n 1, 1) := by decide +kernel
theorem dX5_decodeBlocked_9 : decode cX5_decodeBlocked 9 = .ok (.aload_n 1, 1) := by decide +kernel
theorem dX5_decodeBlocked_10 : decode cX5_decodeBlocked 10 = .ok (.iconst 0, 1) := by decide +kernel
theorem dX5_decodeBlocked_11 : decode cX5_decodeBlocked 11 = .ok (.invokevirtual 65, 3) := by decide +kernel
theorem dX5_decodeBlocked_14 : decode cX5_decodeBlocked 14 = .ok (.invokevirtual 71, 3) := by decide +kernel
theorem dX5_decodeBlocked_17 : decode cX5_decodeBlocked 17 = .ok (.astore_n 3, 1) := by decide +kernel
theorem dX5_decodeBlocked_18 : decode cX5_decodeBlocked 18 = .ok (.aload_n 3, 1) := by decide +kernel
theorem dX5_decodeBlocked_19 : decode cX5_decodeBlocked 19 = .ok (.ifnull 17, 3) := by decide +kernel
theorem dX5_decodeBlocked_22 : decode cX5_decodeBlocked 22 = .ok (.aload_n 3, 1) := by decide +kernel
theorem dX5_decodeBlocked_23 : decode cX5_decodeBlocked 23 = .ok (.getfield 37, 3) := by decide +kernel
theorem dX5_decodeBlocked_26 : decode cX5_decodeBlocked 26 = .ok (.aload_n 0, 1) := by decide +kernel
theorem dX5_decodeBlocked_27 : decode cX5_decodeBlocked 27 = .ok (.getfield 12, 3) := by decide +kernel
theorem dX5_decodeBlocked_30 : decode cX5_decodeBlocked 30 = .ok (.getfield 42, 3) := by decide +kernel
theorem dX5_decodeBlocked_33 : decode cX5_decodeBlocked 33 = .ok (.if_icmp .le 4, 3) := by decide +kernel
theorem dX5_decodeBlocked_36 : decode cX5_decodeBlocked 36 = .ok (.return_, 1) := by decide +kernel
theorem dX5_decodeBlocked_37 : decode cX5_decodeBlocked 37 = .ok (.aload_n 0, 1) := by decide +kernel
theorem dX5_decodeBlocked_38 : decode cX5_decodeBlocked 38 = .ok (.aload_n 3, 1) := by decide +kernel
theorem dX5_decodeBlocked_39 : decode cX5_decodeBlocked 39 = .ok (.invokevirtual 45, 3) := by decide +kernel
theorem dX5_decodeBlocked_42 : decode cX5_decodeBlocked 42 = .ok (.iinc 2 1, 3) := by decide +kernel
theorem dX5_decodeBlocked_45 : decode cX5_decodeBlocked 45 = .ok (.goto (-43), 3) := by decide +kernel
theorem dX5_decodeBlocked_48 : decode cX5_decodeBlocked 48 = .ok (.return_, 1) := by decide +kernel
set_option maxRecDepth 20000 in
theorem ggX5_cancel_X6_addInteger : GoodIn wsX5_cancel wsX6_addInteger := goodIn_r _ [8, 9, 10, 11, 7, 12, 13, 14, 26, 27] rfl (by decide +kernel)
set_option maxRecDepth 20000 in
theorem gX5_cancel_X6_addInteger : GoodIn wsX5_cancel (wsV RX5 55 RX6 yX6_addInteger wsX6_addInteger) := goodIn_app (goodIn_of _ (by decide +kernel)) ggX5_cancel_X6_addInteger
theorem dX5_cancel_0 : decode cX5_cancel 0 = .ok (.aload_n 1, 1) := by decide +kernel
theorem dX5_cancel_1 : decode cX5_cancel 1 = .ok (.iconst 3, 1) := by decide +kernel
theorem dX5_cancel_2 : decode cX5_cancel 2 = .ok (.putfield 49, 3) := by decide +kernel
theorem dX5_cancel_5 : decode cX5_cancel 5 = .ok (.aload_n 0, 1) := by decide +kernel
theorem dX5_cancel_6 : decode cX5_cancel 6 = .ok (.getfield 23, 3) := by decide +kernel
theorem dX5_cancel_9 : decode cX5_cancel 9 = .ok (.bipush 64, 2) := by decide +kernel
theorem dX5_cancel_11 : decode cX5_cancel 11 = .ok (.bipush 6, 2) := by decide +kernel
theorem dX5_cancel_13 : decode cX5_cancel 13 = .ok (.aload_n 1, 1) := by decide +kernel
theorem dX5_cancel_14 : decode cX5_cancel 14 = .ok (.getfield 52, 3) := by decide +kernel
theorem dX5_cancel_17 : decode cX5_cancel 17 = .ok (.invokevirtual 55, 3) := by decide +kernel
theorem dX5_cancel_20 : decode cX5_cancel 20 = .ok (.return_, 1) := by decide +kernel
theorem dX6_init_0 : decode cX6_init 0 = .ok (.aload_n 0, 1) := by decide +kernel
theorem dX6_init_1 : decode cX6_init 1 = .ok (.invokespecial 3, 3) := by decide +kernel
theorem dX6_init_4 : decode cX6_init 4 = .ok (.aload_n 0, 1) := by decide +kernel
theorem dX6_init_5 : decode cX6_init 5 = .ok (.iconst 0, 1) := by decide +kernel
theorem dX6_init_6 : decode cX6_init 6 = .ok (.iload_n 1, 1) := by decide +kernel
theorem dX6_init_7 : decode cX6_init 7 = .ok (.invokestatic 9, 3) := by decide +kernel
theorem dX6_init_10 : decode cX6_init 10 = .ok (.newarray .int, 2) := by decide +kernel
theorem dX6_init_12 : decode cX6_init 12 = .ok (.putfield 15, 3) := by decide +kernel
theorem dX6_init_15 : decode cX6_init 15 = .ok (.return_, 1) := by decide +kernel
theorem dX6_empty_0 : decode cX6_empty 0 = .ok (.aload_n 0, 1) := by decide +kernel
theorem dX6_empty_1 : decode cX6_empty 1 = .ok (.iconst 0, 1) := by decide +kernel
theorem dX6_empty_2 : decode cX6_empty 2 = .ok (.putfield 21, 3) := by decide +kernel
theorem dX6_empty_5 : decode cX6_empty 5 = .ok (.return_, 1) := by decide +kernel
theorem dX6_add_0 : decode cX6_add 0 = .ok (.aload_n 0, 1) := by decide +kernel
theorem dX6_add_1 : decode cX6_add 1 = .ok (.getfield 21, 3) := by decide +kernel
theorem dX6_add_4 : decode cX6_add 4 = .ok (.ifCond .lt 15, 3) := by decide +kernel
theorem dX6_add_7 : decode cX6_add 7 = .ok (.aload_n 0, 1) := by decide +kernel
theorem dX6_add_8 : decode cX6_add 8 = .ok (.getfield 21, 3) := by decide +kernel
theorem dX6_add_11 : decode cX6_add 11 = .ok (.aload_n 0, 1) := by decide +kernel
theorem dX6_add_12 : decode cX6_add 12 = .ok (.getfield 15, 3) := by decide +kernel
theorem dX6_add_15 : decode cX6_add 15 = .ok (.arraylength, 1) := by decide +kernel
theorem dX6_add_16 : decode cX6_add 16 = .ok (.if_icmp .lt 5, 3) := by decide +kernel
theorem dX6_add_19 : decode cX6_add 19 = .ok (.iconst 0, 1) := by decide +kernel
theorem dX6_add_20 : decode cX6_add 20 = .ok (.ireturn, 1) := by decide +kernel
theorem dX6_add_21 : decode cX6_add 21 = .ok (.aload_n 0, 1) := by decide +kernel
theorem dX6_add_22 : decode cX6_add 22 = .ok (.getfield 15, 3) := by decide +kernel
theorem dX6_add_25 : decode cX6_add 25 = .ok (.aload_n 0, 1) := by decide +kernel
theorem dX6_add_26 : decode cX6_add 26 = .ok (.getfield 21, 3) := by decide +kernel
theorem dX6_add_29 : decode cX6_add 29 = .ok (.iload_n 1, 1) := by decide +kernel
theorem dX6_add_30 : decode cX6_add 30 = .ok (.iastore, 1) := by decide +kernel
theorem dX6_add_31 : decode cX6_add 31 = .ok (.aload_n 0, 1) := by decide +kernel
theorem dX6_add_32 : decode cX6_add 32 = .ok (.dup, 1) := by decide +kernel
theorem dX6_add_33 : decode cX6_add 33 = .ok (.getfield 21, 3) := by decide +kernel
theorem dX6_add_36 : decode cX6_add 36 = .ok (.iconst 1, 1) := by decide +kernel
theorem dX6_add_37 : decode cX6_add 37 = .ok (.iadd, 1) := by decide +kernel
theorem dX6_add_38 : decode cX6_add 38 = .ok (.putfield 21, 3) := by decide +kernel
theorem dX6_add_41 : decode cX6_add 41 = .ok (.iconst 1, 1) := by decide +kernel
theorem dX6_add_42 : decode cX6_add 42 = .ok (.ireturn, 1) := by decide +kernel
theorem dX6_addAll_0 : decode cX6_addAll 0 = .ok (.iconst 0, 1) := by decide +kernel
theorem dX6_addAll_1 : decode cX6_addAll 1 = .ok (.istore_n 2, 1) := by decide +kernel
theorem dX6_addAll_2 : decode cX6_addAll 2 = .ok (.iload_n 2, 1) := by decide +kernel
theorem dX6_addAll_3 : decode cX6_addAll 3 = .ok (.aload_n 1, 1) := by decide +kernel
theorem dX6_addAll_4 : decode cX6_addAll 4 = .ok (.getfield 21, 3) := by decide +kernel
theorem dX6_addAll_7 : decode cX6_addAll 7 = .ok (.if_icmp .ge 62, 3) := by decide +kernel
theorem dX6_addAll_10 : decode cX6_addAll 10 = .ok (.iload_n 2, 1) := by decide +kernel
theorem dX6_addAll_11 : decode cX6_addAll 11 = .ok (.aload_n 1, 1) := by decide +kernel
theorem dX6_addAll_12 : decode cX6_addAll 12 = .ok (.getfield 15, 3) := by decide +kernel
theorem dX6_addAll_15 : decode cX6_addAll 15 = .ok (.arraylength, 1) := by decide +kernel
theorem dX6_addAll_16 : decode cX6_addAll 16 = .ok (.if_icmp .ge 53, 3) := by decide +kernel
theorem dX6_addAll_19 : decode cX6_addAll 19 = .ok (.aload_n 0, 1) := by decide +kernel
theorem dX6_addAll_20 : decode cX6_addAll 20 = .ok (.getfield 21, 3) := by decide +kernel
theorem dX6_addAll_23 : decode cX6_addAll 23 = .ok (.ifCond .lt 46, 3) := by decide +kernel
theorem dX6_addAll_26 : decode cX6_addAll 26 = .ok (.aload_n 0, 1) := by decide +kernel
theorem dX6_addAll_27 : decode cX6_addAll 27 = .ok (.getfield 21, 3) := by decide +kernel
theorem dX6_addAll_30 : decode cX6_addAll 30 = .ok (.aload_n 0, 1) := by decide +kernel
theorem dX6_addAll_31 : decode cX6_addAll 31 = .ok (.getfield 15, 3) := by decide +kernel
theorem dX6_addAll_34 : decode cX6_addAll 34 = .ok (.arraylength, 1) := by decide +kernel
theorem dX6_addAll_35 : decode cX6_addAll 35 = .ok (.if_icmp .ge 34, 3) := by decide +kernel
theorem dX6_addAll_38 : decode cX6_addAll 38 = .ok (.aload_n 0, 1) := by decide +kernel
theorem dX6_addAll_39 : decode cX6_addAll 39 = .ok (.getfield 15, 3) := by decide +kernel
theorem dX6_addAll_42 : decode cX6_addAll 42 = .ok (.aload_n 0, 1) := by decide +kernel
theorem dX6_addAll_43 : decode cX6_addAll 43 = .ok (.getfield 21, 3) := by decide +kernel
theorem dX6_addAll_46 : decode cX6_addAll 46 = .ok (.aload_n 1, 1) := by decide +kernel
theorem dX6_addAll_47 : decode cX6_addAll 47 = .ok (.getfield 15, 3) := by decide +kernel
theorem dX6_addAll_50 : decode cX6_addAll 50 = .ok (.iload_n 2, 1) := by decide +kernel
theorem dX6_addAll_51 : decode cX6_addAll 51 = .ok (.iaload, 1) := by decide +kernel
theorem dX6_addAll_52 : decode cX6_addAll 52 = .ok (.iastore, 1) := by decide +kernel
theorem dX6_addAll_53 : decode cX6_addAll 53 = .ok (.aload_n 0, 1) := by decide +kernel
theorem dX6_addAll_54 : decode cX6_addAll 54 = .ok (.dup, 1) := by decide +kernel
theorem dX6_addAll_55 : decode cX6_addAll 55 = .ok (.getfield 21, 3) := by decide +kernel
theorem dX6_addAll_58 : decode cX6_addAll 58 = .ok (.iconst 1, 1) := by decide +kernel
theorem dX6_addAll_59 : decode cX6_addAll 59 = .ok (.iadd, 1) := by decide +kernel
theorem dX6_addAll_60 : decode cX6_addAll 60 = .ok (.putfield 21, 3) := by decide +kernel
theorem dX6_addAll_63 : decode cX6_addAll 63 = .ok (.iinc 2 1, 3) := by decide +kernel
theorem dX6_addAll_66 : decode cX6_addAll 66 = .ok (.goto (-64), 3) := by decide +kernel
theorem dX6_addAll_69 : decode cX6_addAll 69 = .ok (.return_, 1) := by decide +kernel
set_option maxRecDepth 20000 in
theorem ggX6_removeLast_X6_at : GoodIn wsX6_removeLast wsX6_at := goodIn_r _ [10, 1, 11, 12, 13] rfl (by decide +kernel)
set_option maxRecDepth 20000 in
theorem gX6_removeLast_X6_at : GoodIn wsX6_removeLast (wsV RX6 25 RX6 yX6_at wsX6_at) := goodIn_app (goodIn_of _ (by decide +kernel)) ggX6_removeLast_X6_at
theorem dX6_removeLast_0 : decode cX6_removeLast 0 = .ok (.aload_n 0, 1) := by decide +kernel
theorem dX6_removeLast_1 : decode cX6_removeLast 1 = .ok (.aload_n 0, 1) := by decide +kernel
theorem dX6_removeLast_2 : decode cX6_removeLast 2 = .ok (.getfield 21, 3) := by decide +kernel
theorem dX6_removeLast_5 : decode cX6_removeLast 5 = .ok (.iconst 1, 1) := by decide +kernel
theorem dX6_removeLast_6 : decode cX6_removeLast 6 = .ok (.isub, 1) := by decide +kernel
theorem dX6_removeLast_7 : decode cX6_removeLast 7 = .ok (.invokevirtual 25, 3) := by decide +kernel
theorem dX6_removeLast_10 : decode cX6_removeLast 10 = .ok (.istore_n 1, 1) := by decide +kernel
theorem dX6_removeLast_11 : decode cX6_removeLast 11 = .ok (.aload_n 0, 1) := by decide +kernel
theorem dX6_removeLast_12 : decode cX6_removeLast 12 = .ok (.iconst 0, 1) := by decide +kernel
theorem dX6_removeLast_13 : decode cX6_removeLast 13 = .ok (.aload_n 0, 1) := by decide +kernel
theorem dX6_removeLast_14 : decode cX6_removeLast 14 = .ok (.getfield 21, 3) := by decide +kernel
theorem dX6_removeLast_17 : decode cX6_removeLast 17 = .ok (.iconst 1, 1) := by decide +kernel
theorem dX6_removeLast_18 : decode cX6_removeLast 18 = .ok (.isub, 1) := by decide +kernel
theorem dX6_removeLast_19 : decode cX6_removeLast 19 = .ok (.invokestatic 9, 3) := by decide +kernel
theorem dX6_removeLast_22 : decode cX6_removeLast 22 = .ok (.putfield 21, 3) := by decide +kernel
theorem dX6_removeLast_25 : decode cX6_removeLast 25 = .ok (.iload_n 1, 1) := by decide +kernel
theorem dX6_removeLast_26 : decode cX6_removeLast 26 = .ok (.ireturn, 1) := by decide +kernel
theorem dX6_at_0 : decode cX6_at 0 = .ok (.iload_n 1, 1) := by decide +kernel
theorem dX6_at_1 : decode cX6_at 1 = .ok (.ifCond .lt 20, 3) := by decide +kernel
theorem dX6_at_4 : decode cX6_at 4 = .ok (.iload_n 1, 1) := by decide +kernel
theorem dX6_at_5 : decode cX6_at 5 = .ok (.aload_n 0, 1) := by decide +kernel
theorem dX6_at_6 : decode cX6_at 6 = .ok (.getfield 21, 3) := by decide +kernel
theorem dX6_at_9 : decode cX6_at 9 = .ok (.if_icmp .ge 12, 3) := by decide +kernel
theorem dX6_at_12 : decode cX6_at 12 = .ok (.iload_n 1, 1) := by decide +kernel
theorem dX6_at_13 : decode cX6_at 13 = .ok (.aload_n 0, 1) := by decide +kernel
theorem dX6_at_14 : decode cX6_at 14 = .ok (.getfield 15, 3) := by decide +kernel
theorem dX6_at_17 : decode cX6_at 17 = .ok (.arraylength, 1) := by decide +kernel
theorem dX6_at_18 : decode cX6_at 18 = .ok (.if_icmp .lt 8, 3) := by decide +kernel
theorem dX6_at_21 : decode cX6_at 21 = .ok (.bipush (-9), 2) := by decide +kernel
theorem dX6_at_23 : decode cX6_at 23 = .ok (.goto 9, 3) := by decide +kernel
theorem dX6_at_26 : decode cX6_at 26 = .ok (.aload_n 0, 1) := by decide +kernel
theorem dX6_at_27 : decode cX6_at 27 = .ok (.getfield 15, 3) := by decide +kernel
theorem dX6_at_30 : decode cX6_at 30 = .ok (.iload_n 1, 1) := by decide +kernel
theorem dX6_at_31 : decode cX6_at 31 = .ok (.iaload, 1) := by decide +kernel
theorem dX6_at_32 : decode cX6_at 32 = .ok (.ireturn, 1) := by decide +kernel
theorem dX6_drop_0 : decode cX6_drop 0 = .ok (.iconst 0, 1) := by decide +kernel
theorem dX6_drop_1 : decode cX6_drop 1 = .ok (.iload_n 1, 1) := by decide +kernel
theorem dX6_drop_2 : decode cX6_drop 2 = .ok (.aload_n 0, 1) := by decide +kernel
theorem dX6_drop_3 : decode cX6_drop 3 = .ok (.getfield 21, 3) := by decide +kernel
theorem dX6_drop_6 : decode cX6_drop 6 = .ok (.invokestatic 29, 3) := by decide +kernel
theorem dX6_drop_9 : decode cX6_drop 9 = .ok (.invokestatic 9, 3) := by decide +kernel
theorem dX6_drop_12 : decode cX6_drop 12 = .ok (.istore_n 2, 1) := by decide +kernel
theorem dX6_drop_13 : decode cX6_drop 13 = .ok (.iload_n 2, 1) := by decide +kernel
theorem dX6_drop_14 : decode cX6_drop 14 = .ok (.istore_n 3, 1) := by decide +kernel
theorem dX6_drop_15 : decode cX6_drop 15 = .ok (.iload_n 3, 1) := by decide +kernel
theorem dX6_drop_16 : decode cX6_drop 16 = .ok (.aload_n 0, 1) := by decide +kernel
theorem dX6_drop_17 : decode cX6_drop 17 = .ok (.getfield 21, 3) := by decide +kernel
theorem dX6_drop_20 : decode cX6_drop 20 = .ok (.if_icmp .ge 32, 3) := by decide +kernel
theorem dX6_drop_23 : decode cX6_drop 23 = .ok (.iload_n 3, 1) := by decide +kernel
theorem dX6_drop_24 : decode cX6_drop 24 = .ok (.aload_n 0, 1) := by decide +kernel
theorem dX6_drop_25 : decode cX6_drop 25 = .ok (.getfield 15, 3) := by decide +kernel
theorem dX6_drop_28 : decode cX6_drop 28 = .ok (.arraylength, 1) := by decide +kernel
theorem dX6_drop_29 : decode cX6_drop 29 = .ok (.if_icmp .ge 23, 3) := by decide +kernel
theorem dX6_drop_32 : decode cX6_drop 32 = .ok (.aload_n 0, 1) := by decide +kernel
theorem dX6_drop_33 : decode cX6_drop 33 = .ok (.getfield 15, 3) := by decide +kernel
theorem dX6_drop_36 : decode cX6_drop 36 = .ok (.iload_n 3, 1) := by decide +kernel
theorem dX6_drop_37 : decode cX6_drop 37 = .ok (.iload_n 2, 1) := by decide +kernel
theorem dX6_drop_38 : decode cX6_drop 38 = .ok (.isub, 1) := by decide +kernel
theorem dX6_drop_39 : decode cX6_drop 39 = .ok (.aload_n 0, 1) := by decide +kernel
theorem dX6_drop_40 : decode cX6_drop 40 = .ok (.getfield 15, 3) := by decide +kernel
theorem dX6_drop_43 : decode cX6_drop 43 = .ok (.iload_n 3, 1) := by decide +kernel
theorem dX6_drop_44 : decode cX6_drop 44 = .ok (.iaload, 1) := by decide +kernel
theorem dX6_drop_45 : decode cX6_drop 45 = .ok (.iastore, 1) := by decide +kernel
theorem dX6_drop_46 : decode cX6_drop 46 = .ok (.iinc 3 1, 3) := by decide +kernel
theorem dX6_drop_49 : decode cX6_drop 49 = .ok (.goto (-34), 3) := by decide +kernel
theorem dX6_drop_52 : decode cX6_drop 52 = .ok (.aload_n 0, 1) := by decide +kernel
theorem dX6_drop_53 : decode cX6_drop 53 = .ok (.dup, 1) := by decide +kernel
theorem dX6_drop_54 : decode cX6_drop 54 = .ok (.getfield 21, 3) := by decide +kernel
theorem dX6_drop_57 : decode cX6_drop 57 = .ok (.iload_n 2, 1) := by decide +kernel
theorem dX6_drop_58 : decode cX6_drop 58 = .ok (.isub, 1) := by decide +kernel
theorem dX6_drop_59 : decode cX6_drop 59 = .ok (.putfield 21, 3) := by decide +kernel
theorem dX6_drop_62 : decode cX6_drop 62 = .ok (.return_, 1) := by decide +kernel
theorem dX6_same_0 : decode cX6_same 0 = .ok (.aload_n 0, 1) := by decide +kernel
theorem dX6_same_1 : decode cX6_same 1 = .ok (.getfield 21, 3) := by decide +kernel
theorem dX6_same_4 : decode cX6_same 4 = .ok (.aload_n 1, 1) := by decide +kernel
theorem dX6_same_5 : decode cX6_same 5 = .ok (.getfield 21, 3) := by decide +kernel
theorem dX6_same_8 : decode cX6_same 8 = .ok (.if_icmp .eq 5, 3) := by decide +kernel
theorem dX6_same_11 : decode cX6_same 11 = .ok (.iconst 0, 1) := by decide +kernel
theorem dX6_same_12 : decode cX6_same 12 = .ok (.ireturn, 1) := by decide +kernel
theorem dX6_same_13 : decode cX6_same 13 = .ok (.iconst 0, 1) := by decide +kernel
theorem dX6_same_14 : decode cX6_same 14 = .ok (.istore_n 2, 1) := by decide +kernel
theorem dX6_same_15 : decode cX6_same 15 = .ok (.iload_n 2, 1) := by decide +kernel
theorem dX6_same_16 : decode cX6_same 16 = .ok (.aload_n 0, 1) := by decide +kernel
theorem dX6_same_17 : decode cX6_same 17 = .ok (.getfield 21, 3) := by decide +kernel
theorem dX6_same_20 : decode cX6_same 20 = .ok (.if_icmp .ge 44, 3) := by decide +kernel
theorem dX6_same_23 : decode cX6_same 23 = .ok (.iload_n 2, 1) := by decide +kernel
theorem dX6_same_24 : decode cX6_same 24 = .ok (.aload_n 0, 1) := by decide +kernel
theorem dX6_same_25 : decode cX6_same 25 = .ok (.getfield 15, 3) := by decide +kernel
theorem dX6_same_28 : decode cX6_same 28 = .ok (.arraylength, 1) := by decide +kernel
theorem dX6_same_29 : decode cX6_same 29 = .ok (.if_icmp .ge 35, 3) := by decide +kernel
theorem dX6_same_32 : decode cX6_same 32 = .ok (.iload_n 2, 1) := by decide +kernel
theorem dX6_same_33 : decode cX6_same 33 = .ok (.aload_n 1, 1) := by decide +kernel
theorem dX6_same_34 : decode cX6_same 34 = .ok (.getfield 15, 3) := by decide +kernel
theorem dX6_same_37 : decode cX6_same 37 = .ok (.arraylength, 1) := by decide +kernel
theorem dX6_same_38 : decode cX6_same 38 = .ok (.if_icmp .ge 26, 3) := by decide +kernel
theorem dX6_same_41 : decode cX6_same 41 = .ok (.aload_n 0, 1) := by decide +kernel
theorem dX6_same_42 : decode cX6_same 42 = .ok (.getfield 15, 3) := by decide +kernel
theorem dX6_same_45 : decode cX6_same 45 = .ok (.iload_n 2, 1) := by decide +kernel
theorem dX6_same_46 : decode cX6_same 46 = .ok (.iaload, 1) := by decide +kernel
theorem dX6_same_47 : decode cX6_same 47 = .ok (.aload_n 1, 1) := by decide +kernel
theorem dX6_same_48 : decode cX6_same 48 = .ok (.getfield 15, 3) := by decide +kernel
theorem dX6_same_51 : decode cX6_same 51 = .ok (.iload_n 2, 1) := by decide +kernel
theorem dX6_same_52 : decode cX6_same 52 = .ok (.iaload, 1) := by decide +kernel
theorem dX6_same_53 : decode cX6_same 53 = .ok (.if_icmp .eq 5, 3) := by decide +kernel
theorem dX6_same_56 : decode cX6_same 56 = .ok (.iconst 0, 1) := by decide +kernel
theorem dX6_same_57 : decode cX6_same 57 = .ok (.ireturn, 1) := by decide +kernel
theorem dX6_same_58 : decode cX6_same 58 = .ok (.iinc 2 1, 3) := by decide +kernel
theorem dX6_same_61 : decode cX6_same 61 = .ok (.goto (-46), 3) := by decide +kernel
theorem dX6_same_64 : decode cX6_same 64 = .ok (.iconst 1, 1) := by decide +kernel
theorem dX6_same_65 : decode cX6_same 65 = .ok (.ireturn, 1) := by decide +kernel
set_option maxRecDepth 20000 in
theorem ggX6_addInteger_X6_add : GoodIn wsX6_addInteger wsX6_add := goodIn_r _ [5, 6, 7, 8, 9] rfl (by decide +kernel)
set_option maxRecDepth 20000 in
theorem gX6_addInteger_X6_add : GoodIn wsX6_addInteger (wsV RX6 32 RX6 yX6_add wsX6_add) := goodIn_app (goodIn_of _ (by decide +kernel)) ggX6_addInteger_X6_add
theorem dX6_addInteger_0 : decode cX6_addInteger 0 = .ok (.iconst 1, 1) := by decide +kernel
theorem dX6_addInteger_1 : decode cX6_addInteger 1 = .ok (.iload_n 2, 1) := by decide +kernel
theorem dX6_addInteger_2 : decode cX6_addInteger 2 = .ok (.ishl, 1) := by decide +kernel
theorem dX6_addInteger_3 : decode cX6_addInteger 3 = .ok (.iconst 1, 1) := by decide +kernel
theorem dX6_addInteger_4 : decode cX6_addInteger 4 = .ok (.isub, 1) := by decide +kernel
theorem dX6_addInteger_5 : decode cX6_addInteger 5 = .ok (.istore 4, 2) := by decide +kernel
theorem dX6_addInteger_7 : decode cX6_addInteger 7 = .ok (.iload_n 3, 1) := by decide +kernel
theorem dX6_addInteger_8 : decode cX6_addInteger 8 = .ok (.iload 4, 2) := by decide +kernel
theorem dX6_addInteger_10 : decode cX6_addInteger 10 = .ok (.if_icmp .ge 12, 3) := by decide +kernel
theorem dX6_addInteger_13 : decode cX6_addInteger 13 = .ok (.aload_n 0, 1) := by decide +kernel
theorem dX6_addInteger_14 : decode cX6_addInteger 14 = .ok (.iload_n 1, 1) := by decide +kernel
theorem dX6_addInteger_15 : decode cX6_addInteger 15 = .ok (.iload_n 3, 1) := by decide +kernel
theorem dX6_addInteger_16 : decode cX6_addInteger 16 = .ok (.iadd, 1) := by decide +kernel
theorem dX6_addInteger_17 : decode cX6_addInteger 17 = .ok (.invokevirtual 32, 3) := by decide +kernel
theorem dX6_addInteger_20 : decode cX6_addInteger 20 = .ok (.pop, 1) := by decide +kernel
theorem dX6_addInteger_21 : decode cX6_addInteger 21 = .ok (.return_, 1) := by decide +kernel
theorem dX6_addInteger_22 : decode cX6_addInteger 22 = .ok (.aload_n 0, 1) := by decide +kernel
theorem dX6_addInteger_23 : decode cX6_addInteger 23 = .ok (.iload_n 1, 1) := by decide +kernel
theorem dX6_addInteger_24 : decode cX6_addInteger 24 = .ok (.iload 4, 2) := by decide +kernel
theorem dX6_addInteger_26 : decode cX6_addInteger 26 = .ok (.iadd, 1) := by decide +kernel
theorem dX6_addInteger_27 : decode cX6_addInteger 27 = .ok (.invokevirtual 32, 3) := by decide +kernel
theorem dX6_addInteger_30 : decode cX6_addInteger 30 = .ok (.pop, 1) := by decide +kernel
theorem dX6_addInteger_31 : decode cX6_addInteger 31 = .ok (.iload_n 3, 1) := by decide +kernel
theorem dX6_addInteger_32 : decode cX6_addInteger 32 = .ok (.iload 4, 2) := by decide +kernel
theorem dX6_addInteger_34 : decode cX6_addInteger 34 = .ok (.isub, 1) := by decide +kernel
theorem dX6_addInteger_35 : decode cX6_addInteger 35 = .ok (.istore 5, 2) := by decide +kernel
theorem dX6_addInteger_37 : decode cX6_addInteger 37 = .ok (.iconst 0, 1) := by decide +kernel
theorem dX6_addInteger_38 : decode cX6_addInteger 38 = .ok (.istore 6, 2) := by decide +kernel
theorem dX6_addInteger_40 : decode cX6_addInteger 40 = .ok (.iload 6, 2) := by decide +kernel
theorem dX6_addInteger_42 : decode cX6_addInteger 42 = .ok (.iconst 4, 1) := by decide +kernel
theorem dX6_addInteger_43 : decode cX6_addInteger 43 = .ok (.if_icmp .ge 38, 3) := by decide +kernel
theorem dX6_addInteger_46 : decode cX6_addInteger 46 = .ok (.iload 5, 2) := by decide +kernel
theorem dX6_addInteger_48 : decode cX6_addInteger 48 = .ok (.sipush 128, 3) := by decide +kernel
theorem dX6_addInteger_51 : decode cX6_addInteger 51 = .ok (.if_icmp .lt 30, 3) := by decide +kernel
theorem dX6_addInteger_54 : decode cX6_addInteger 54 = .ok (.aload_n 0, 1) := by decide +kernel
theorem dX6_addInteger_55 : decode cX6_addInteger 55 = .ok (.sipush 128, 3) := by decide +kernel
theorem dX6_addInteger_58 : decode cX6_addInteger 58 = .ok (.iload 5, 2) := by decide +kernel
theorem dX6_addInteger_60 : decode cX6_addInteger 60 = .ok (.bipush 127, 2) := by decide +kernel
theorem dX6_addInteger_62 : decode cX6_addInteger 62 = .ok (.iand, 1) := by decide +kernel
theorem dX6_addInteger_63 : decode cX6_addInteger 63 = .ok (.iadd, 1) := by decide +kernel
theorem dX6_addInteger_64 : decode cX6_addInteger 64 = .ok (.invokevirtual 32, 3) := by decide +kernel
theorem dX6_addInteger_67 : decode cX6_addInteger 67 = .ok (.pop, 1) := by decide +kernel
theorem dX6_addInteger_68 : decode cX6_addInteger 68 = .ok (.iload 5, 2) := by decide +kernel
theorem dX6_addInteger_70 : decode cX6_addInteger 70 = .ok (.bipush 7, 2) := by decide +kernel
theorem dX6_addInteger_72 : decode cX6_addInteger 72 = .ok (.ishr, 1) := by decide +kernel
theorem dX6_addInteger_73 : decode cX6_addInteger 73 = .ok (.istore 5, 2) := by decide +kernel
theorem dX6_addInteger_75 : decode cX6_addInteger 75 = .ok (.iinc 6 1, 3) := by decide +kernel
theorem dX6_addInteger_78 : decode cX6_addInteger 78 = .ok (.goto (-38), 3) := by decide +kernel
theorem dX6_addInteger_81 : decode cX6_addInteger 81 = .ok (.aload_n 0, 1) := by decide +kernel
theorem dX6_addInteger_82 : decode cX6_addInteger 82 = .ok (.iload 5, 2) := by decide +kernel
theorem dX6_addInteger_84 : decode cX6_addInteger 84 = .ok (.invokevirtual 32, 3) := by decide +kernel
theorem dX6_addInteger_87 : decode cX6_addInteger 87 = .ok (.pop, 1) := by decide +kernel
theorem dX6_addInteger_88 : decode cX6_addInteger 88 = .ok (.return_, 1) := by decide +kernel
set_option maxRecDepth 20000 in
theorem ggX6_addWord_X6_add : GoodIn wsX6_addWord wsX6_add := goodIn_r _ [6, 1, 7, 12, 13] rfl (by decide +kernel)
set_option maxRecDepth 20000 in
theorem gX6_addWord_X6_add : GoodIn wsX6_addWord (wsV RX6 32 RX6 yX6_add wsX6_add) := goodIn_app (goodIn_of _ (by decide +kernel)) ggX6_addWord_X6_add
set_option maxRecDepth 20000 in
theorem ggX6_addWord_X6_addAll : GoodIn wsX6_addWord wsX6_addAll := goodIn_r _ [11, 1, 7, 12, 13] rfl (by decide +kernel)
set_option maxRecDepth 20000 in
theorem gX6_addWord_X6_addAll : GoodIn wsX6_addWord (wsV RX6 36 RX6 yX6_addAll wsX6_addAll) := goodIn_app (goodIn_of _ (by decide +kernel)) ggX6_addWord_X6_addAll
theorem dX6_addWord_0 : decode cX6_addWord 0 = .ok (.aload_n 0, 1) := by decide +kernel
theorem dX6_addWord_1 : decode cX6_addWord 1 = .ok (.iload_n 1, 1) := by decide +kernel
theorem dX6_addWord_2 : decode cX6_addWord 2 = .ok (.aload_n 2, 1) := by decide +kernel
theorem dX6_addWord_3 : decode cX6_addWord 3 = .ok (.getfield 21, 3) := by decide +kernel
theorem dX6_addWord_6 : decode cX6_addWord 6 = .ok (.iadd, 1) := by decide +kernel
theorem dX6_addWord_7 : decode cX6_addWord 7 = .ok (.invokevirtual 32, 3) := by decide +kernel
theorem dX6_addWord_10 : decode cX6_addWord 10 = .ok (.pop, 1) := by decide +kernel
theorem dX6_addWord_11 : decode cX6_addWord 11 = .ok (.aload_n 0, 1) := by decide +kernel
theorem dX6_addWord_12 : decode cX6_addWord 12 = .ok (.aload_n 2, 1) := by decide +kernel
theorem dX6_addWord_13 : decode cX6_addWord 13 = .ok (.invokevirtual 36, 3) := by decide +kernel
theorem dX6_addWord_16 : decode cX6_addWord 16 = .ok (.return_, 1) := by decide +kernel
set_option maxRecDepth 20000 in
theorem ggX7_init_X3_init : GoodIn wsX7_init wsX3_init := goodIn_r _ [13, 14, 2, 3, 15, 16, 17, 18, 19, 20, 21, 22, 23, 24, 25, 26, 27, 28, 29, 30, 31, 32, 33, 34, 35, 36, 37, 38, 39, 44, 45, 46, 47] rfl (by decide +kernel)
set_option maxRecDepth 20000 in
theorem gX7_init_X3_init : GoodIn wsX7_init (wsX3_init) := ggX7_init_X3_init
theorem dX7_init_0 : decode cX7_init 0 = .ok (.aload_n 0, 1) := by decide +kernel
theorem dX7_init_1 : decode cX7_init 1 = .ok (.invokespecial 3, 3) := by decide +kernel
theorem dX7_init_4 : decode cX7_init 4 = .ok (.aload_n 0, 1) := by decide +kernel
theorem dX7_init_5 : decode cX7_init 5 = .ok (.new 9, 3) := by decide +kernel
theorem dX7_init_8 : decode cX7_init 8 = .ok (.dup, 1) := by decide +kernel
theorem dX7_init_9 : decode cX7_init 9 = .ok (.bipush 7, 2) := by decide +kernel
theorem dX7_init_11 : decode cX7_init 11 = .ok (.invokespecial 11, 3) := by decide +kernel
theorem dX7_init_14 : decode cX7_init 14 = .ok (.putfield 14, 3) := by decide +kernel
theorem dX7_init_17 : decode cX7_init 17 = .ok (.aload_n 0, 1) := by decide +kernel
theorem dX7_init_18 : decode cX7_init 18 = .ok (.new 9, 3) := by decide +kernel
theorem dX7_init_21 : decode cX7_init 21 = .ok (.dup, 1) := by decide +kernel
theorem dX7_init_22 : decode cX7_init 22 = .ok (.bipush 8, 2) := by decide +kernel
theorem dX7_init_24 : decode cX7_init 24 = .ok (.invokespecial 11, 3) := by decide +kernel
theorem dX7_init_27 : decode cX7_init 27 = .ok (.putfield 20, 3) := by decide +kernel
theorem dX7_init_30 : decode cX7_init 30 = .ok (.aload_n 0, 1) := by decide +kernel
theorem dX7_init_31 : decode cX7_init 31 = .ok (.bipush 60, 2) := by decide +kernel
theorem dX7_init_33 : decode cX7_init 33 = .ok (.putfield 23, 3) := by decide +kernel
theorem dX7_init_36 : decode cX7_init 36 = .ok (.aload_n 0, 1) := by decide +kernel
theorem dX7_init_37 : decode cX7_init 37 = .ok (.iconst 2, 1) := by decide +kernel
theorem dX7_init_38 : decode cX7_init 38 = .ok (.putfield 27, 3) := by decide +kernel
theorem dX7_init_41 : decode cX7_init 41 = .ok (.return_, 1) := by decide +kernel
theorem dX7_restart_0 : decode cX7_restart 0 = .ok (.aload_n 0, 1) := by decide +kernel
theorem dX7_restart_1 : decode cX7_restart 1 = .ok (.getfield 14, 3) := by decide +kernel
theorem dX7_restart_4 : decode cX7_restart 4 = .ok (.iconst 0, 1) := by decide +kernel
theorem dX7_restart_5 : decode cX7_restart 5 = .ok (.putfield 30, 3) := by decide +kernel
theorem dX7_restart_8 : decode cX7_restart 8 = .ok (.aload_n 0, 1) := by decide +kernel
theorem dX7_restart_9 : decode cX7_restart 9 = .ok (.getfield 20, 3) := by decide +kernel
theorem dX7_restart_12 : decode cX7_restart 12 = .ok (.iconst 0, 1) := by decide +kernel
theorem dX7_restart_13 : decode cX7_restart 13 = .ok (.putfield 30, 3) := by decide +kernel
theorem dX7_restart_16 : decode cX7_restart 16 = .ok (.aload_n 0, 1) := by decide +kernel
theorem dX7_restart_17 : decode cX7_restart 17 = .ok (.bipush 60, 2) := by decide +kernel
theorem dX7_restart_19 : decode cX7_restart 19 = .ok (.putfield 23, 3) := by decide +kernel
theorem dX7_restart_22 : decode cX7_restart 22 = .ok (.aload_n 0, 1) := by decide +kernel
theorem dX7_restart_23 : decode cX7_restart 23 = .ok (.iconst 2, 1) := by decide +kernel
theorem dX7_restart_24 : decode cX7_restart 24 = .ok (.putfield 27, 3) := by decide +kernel
theorem dX7_restart_27 : decode cX7_restart 27 = .ok (.return_, 1) := by decide +kernel
set_option maxRecDepth 20000 in
theorem ggX8_init_X6_init : GoodIn wsX8_init wsX6_init := goodIn_r _ [13, 14, 2, 3, 15, 16, 17, 18, 8, 19, 20, 21] rfl (by decide +kernel)
set_option maxRecDepth 20000 in
theorem gX8_init_X6_init : GoodIn wsX8_init (wsX6_init) := ggX8_init_X6_init
theorem dX8_init_0 : decode cX8_init 0 = .ok (.aload_n 0, 1) := by decide +kernel
theorem dX8_init_1 : decode cX8_init 1 = .ok (.invokespecial 5, 3) := by decide +kernel
theorem dX8_init_4 : decode cX8_init 4 = .ok (.aload_n 0, 1) := by decide +kernel
theorem dX8_init_5 : decode cX8_init 5 = .ok (.new 11, 3) := by decide +kernel
theorem dX8_init_8 : decode cX8_init 8 = .ok (.dup, 1) := by decide +kernel
theorem dX8_init_9 : decode cX8_init 9 = .ok (.sipush 200, 3) := by decide +kernel
theorem dX8_init_12 : decode cX8_init 12 = .ok (.invokespecial 13, 3) := by decide +kernel
theorem dX8_init_15 : decode cX8_init 15 = .ok (.putfield 16, 3) := by decide +kernel
theorem dX8_init_18 : decode cX8_init 18 = .ok (.aload_n 0, 1) := by decide +kernel
theorem dX8_init_19 : decode cX8_init 19 = .ok (.sipush 256, 3) := by decide +kernel
theorem dX8_init_22 : decode cX8_init 22 = .ok (.newarray .int, 2) := by decide +kernel
theorem dX8_init_24 : decode cX8_init 24 = .ok (.putfield 20, 3) := by decide +kernel
theorem dX8_init_27 : decode cX8_init 27 = .ok (.aload_n 0, 1) := by decide +kernel
theorem dX8_init_28 : decode cX8_init 28 = .ok (.sipush 256, 3) := by decide +kernel
theorem dX8_init_31 : decode cX8_init 31 = .ok (.newarray .int, 2) := by decide +kernel
theorem dX8_init_33 : decode cX8_init 33 = .ok (.putfield 24, 3) := by decide +kernel
theorem dX8_init_36 : decode cX8_init 36 = .ok (.return_, 1) := by decide +kernel
set_option maxRecDepth 20000 in
theorem ggX8_restart_X6_empty : GoodIn wsX8_restart wsX6_empty := goodIn_r _ [8, 9, 15, 16] rfl (by decide +kernel)
set_option maxRecDepth 20000 in
theorem gX8_restart_X6_empty : GoodIn wsX8_restart (wsV RX8 27 RX6 yX6_empty wsX6_empty) := goodIn_app (goodIn_of _ (by decide +kernel)) ggX8_restart_X6_empty
theorem dX8_restart_0 : decode cX8_restart 0 = .ok (.aload_n 0, 1) := by decide +kernel
theorem dX8_restart_1 : decode cX8_restart 1 = .ok (.getfield 16, 3) := by decide +kernel
theorem dX8_restart_4 : decode cX8_restart 4 = .ok (.invokevirtual 27, 3) := by decide +kernel
theorem dX8_restart_7 : decode cX8_restart 7 = .ok (.aload_n 0, 1) := by decide +kernel
theorem dX8_restart_8 : decode cX8_restart 8 = .ok (.iconst 0, 1) := by decide +kernel
theorem dX8_restart_9 : decode cX8_restart 9 = .ok (.putfield 30, 3) := by decide +kernel
theorem dX8_restart_12 : decode cX8_restart 12 = .ok (.aload_n 0, 1) := by decide +kernel
theorem dX8_restart_13 : decode cX8_restart 13 = .ok (.iconst 0, 1) := by decide +kernel
theorem dX8_restart_14 : decode cX8_restart 14 = .ok (.putfield 34, 3) := by decide +kernel
theorem dX8_restart_17 : decode cX8_restart 17 = .ok (.return_, 1) := by decide +kernel
set_option maxRecDepth 20000 in
theorem ggX8_copyOf_X6_empty : GoodIn wsX8_copyOf wsX6_empty := goodIn_r _ [6, 7, 18, 19] rfl (by decide +kernel)
set_option maxRecDepth 20000 in
theorem gX8_copyOf_X6_empty : GoodIn wsX8_copyOf (wsV RX8 27 RX6 yX6_empty wsX6_empty) := goodIn_app (goodIn_of _ (by decide +kernel)) ggX8_copyOf_X6_empty
set_option maxRecDepth 20000 in
theorem ggX8_copyOf_X6_addAll : GoodIn wsX8_copyOf wsX6_addAll := goodIn_r _ [11, 7, 12, 18, 19] rfl (by decide +kernel)
set_option maxRecDepth 20000 in
theorem gX8_copyOf_X6_addAll : GoodIn wsX8_copyOf (wsV RX8 37 RX6 yX6_addAll wsX6_addAll) := goodIn_app (goodIn_of _ (by decide +kernel)) ggX8_copyOf_X6_addAll
theorem dX8_copyOf_0 : decode cX8_copyOf 0 = .ok (.aload_n 0, 1) := by decide +kernel
theorem dX8_copyOf_1 : decode cX8_copyOf 1 = .ok (.getfield 16, 3) := by decide +kernel
theorem dX8_copyOf_4 : decode cX8_copyOf 4 = .ok (.invokevirtual 27, 3) := by decide +kernel
theorem dX8_copyOf_7 : decode cX8_copyOf 7 = .ok (.aload_n 0, 1) := by decide +kernel
theorem dX8_copyOf_8 : decode cX8_copyOf 8 = .ok (.getfield 16, 3) := by decide +kernel
theorem dX8_copyOf_11 : decode cX8_copyOf 11 = .ok (.aload_n 1, 1) := by decide +kernel
theorem dX8_copyOf_12 : decode cX8_copyOf 12 = .ok (.getfield 16, 3) := by decide +kernel
theorem dX8_copyOf_15 : decode cX8_copyOf 15 = .ok (.invokevirtual 37, 3) := by decide +kernel
theorem dX8_copyOf_18 : decode cX8_copyOf 18 = .ok (.return_, 1) := by decide +kernel
theorem dX8_hasRoom_0 : decode cX8_hasRoom 0 = .ok (.aload_n 0, 1) := by decide +kernel
theorem dX8_hasRoom_1 : decode cX8_hasRoom 1 = .ok (.getfield 16, 3) := by decide +kernel
theorem dX8_hasRoom_4 : decode cX8_hasRoom 4 = .ok (.getfield 41, 3) := by decide +kernel
theorem dX8_hasRoom_7 : decode cX8_hasRoom 7 = .ok (.aload_n 1, 1) := by decide +kernel
theorem dX8_hasRoom_8 : decode cX8_hasRoom 8 = .ok (.getfield 41, 3) := by decide +kernel
theorem dX8_hasRoom_11 : decode cX8_hasRoom 11 = .ok (.iadd, 1) := by decide +kernel
theorem dX8_hasRoom_12 : decode cX8_hasRoom 12 = .ok (.sipush 200, 3) := by decide +kernel
theorem dX8_hasRoom_15 : decode cX8_hasRoom 15 = .ok (.if_icmp .gt 7, 3) := by decide +kernel
theorem dX8_hasRoom_18 : decode cX8_hasRoom 18 = .ok (.iconst 1, 1) := by decide +kernel
theorem dX8_hasRoom_19 : decode cX8_hasRoom 19 = .ok (.goto 4, 3) := by decide +kernel
theorem dX8_hasRoom_22 : decode cX8_hasRoom 22 = .ok (.iconst 0, 1) := by decide +kernel
theorem dX8_hasRoom_23 : decode cX8_hasRoom 23 = .ok (.ireturn, 1) := by decide +kernel
set_option maxRecDepth 20000 in
theorem ggX8_write_X6_addAll : GoodIn wsX8_write wsX6_addAll := goodIn_r _ [10, 11, 12, 18, 19] rfl (by decide +kernel)
set_option maxRecDepth 20000 in
theorem gX8_write_X6_addAll : GoodIn wsX8_write (wsV RX8 37 RX6 yX6_addAll wsX6_addAll) := goodIn_app (goodIn_of _ (by decide +kernel)) ggX8_write_X6_addAll
theorem dX8_write_0 : decode cX8_write 0 = .ok (.aload_n 0, 1) := by decide +kernel
theorem dX8_write_1 : decode cX8_write 1 = .ok (.getfield 16, 3) := by decide +kernel
theorem dX8_write_4 : decode cX8_write 4 = .ok (.aload_n 1, 1) := by decide +kernel
theorem dX8_write_5 : decode cX8_write 5 = .ok (.invokevirtual 37, 3) := by decide +kernel
theorem dX8_write_8 : decode cX8_write 8 = .ok (.aload_n 0, 1) := by decide +kernel
theorem dX8_write_9 : decode cX8_write 9 = .ok (.getfield 20, 3) := by decide +kernel
theorem dX8_write_12 : decode cX8_write 12 = .ok (.aload_n 0, 1) := by decide +kernel
theorem dX8_write_13 : decode cX8_write 13 = .ok (.getfield 30, 3) := by decide +kernel
theorem dX8_write_16 : decode cX8_write 16 = .ok (.sipush 255, 3) := by decide +kernel
theorem dX8_write_19 : decode cX8_write 19 = .ok (.iand, 1) := by decide +kernel
theorem dX8_write_20 : decode cX8_write 20 = .ok (.iload_n 2, 1) := by decide +kernel
theorem dX8_write_21 : decode cX8_write 21 = .ok (.iastore, 1) := by decide +kernel
theorem dX8_write_22 : decode cX8_write 22 = .ok (.aload_n 0, 1) := by decide +kernel
theorem dX8_write_23 : decode cX8_write 23 = .ok (.getfield 24, 3) := by decide +kernel
theorem dX8_write_26 : decode cX8_write 26 = .ok (.aload_n 0, 1) := by decide +kernel
theorem dX8_write_27 : decode cX8_write 27 = .ok (.getfield 30, 3) := by decide +kernel
theorem dX8_write_30 : decode cX8_write 30 = .ok (.sipush 255, 3) := by decide +kernel
theorem dX8_write_33 : decode cX8_write 33 = .ok (.iand, 1) := by decide +kernel
theorem dX8_write_34 : decode cX8_write 34 = .ok (.aload_n 1, 1) := by decide +kernel
theorem dX8_write_35 : decode cX8_write 35 = .ok (.getfield 41, 3) := by decide +kernel
theorem dX8_write_38 : decode cX8_write 38 = .ok (.iastore, 1) := by decide +kernel
theorem dX8_write_39 : decode cX8_write 39 = .ok (.aload_n 0, 1) := by decide +kernel
theorem dX8_write_40 : decode cX8_write 40 = .ok (.dup, 1) := by decide +kernel
theorem dX8_write_41 : decode cX8_write 41 = .ok (.getfield 30, 3) := by decide +kernel
theorem dX8_write_44 : decode cX8_write 44 = .ok (.iconst 1, 1) := by decide +kernel
theorem dX8_write_45 : decode cX8_write 45 = .ok (.iadd, 1) := by decide +kernel
theorem dX8_write_46 : decode cX8_write 46 = .ok (.putfield 30, 3) := by decide +kernel
theorem dX8_write_49 : decode cX8_write 49 = .ok (.return_, 1) := by decide +kernel
set_option maxRecDepth 20000 in
theorem ggX8_deliverTo_X9_changeCapacity : GoodIn wsX8_deliverTo wsX9_changeCapacity := goodIn_r _ [10, 11, 12, 13, 14, 9, 15, 16, 17, 18, 19, 50, 51, 52, 53, 54, 55, 56] rfl (by decide +kernel)
set_option maxRecDepth 20000 in
theorem gX8_deliverTo_X9_changeCapacity : GoodIn wsX8_deliverTo (wsV RX8 44 RX9 yX9_changeCapacity wsX9_changeCapacity) := goodIn_app (goodIn_of _ (by decide +kernel)) ggX8_deliverTo_X9_changeCapacity
set_option maxRecDepth 20000 in
theorem ggX8_deliverTo_X3_at : GoodIn wsX8_deliverTo wsX3_at := goodIn_r _ [24, 25, 26, 57, 58] rfl (by decide +kernel)
set_option maxRecDepth 20000 in
theorem gX8_deliverTo_X3_at : GoodIn wsX8_deliverTo (wsV RX8 55 RX3 yX3_at wsX3_at) := goodIn_app (goodIn_of _ (by decide +kernel)) ggX8_deliverTo_X3_at
set_option maxRecDepth 20000 in
theorem ggX8_deliverTo_X2_entrySize : GoodIn wsX8_deliverTo wsX2_entrySize := goodIn_r _ [31, 32, 33, 34, 59, 60, 61, 62] rfl (by decide +kernel)
set_option maxRecDepth 20000 in
theorem gX8_deliverTo_X2_entrySize : GoodIn wsX8_deliverTo (wsV RX8 61 RX2 yX2_entrySize wsX2_entrySize) := goodIn_app (goodIn_of _ (by decide +kernel)) ggX8_deliverTo_X2_entrySize
set_option maxRecDepth 20000 in
theorem ggX8_deliverTo_X9_insert : GoodIn wsX8_deliverTo wsX9_insert := goodIn_r _ [38, 11, 17, 39, 19, 40, 18, 12, 13, 14, 9, 15, 16, 50, 51, 52, 53, 54, 55, 56] rfl (by decide +kernel)
set_option maxRecDepth 20000 in
theorem gX8_deliverTo_X9_insert : GoodIn wsX8_deliverTo (wsV RX8 67 RX9 yX9_insert wsX9_insert) := goodIn_app (goodIn_of _ (by decide +kernel)) ggX8_deliverTo_X9_insert
theorem dX8_deliverTo_0 : decode cX8_deliverTo 0 = .ok (.aload_n 0, 1) := by decide +kernel
theorem dX8_deliverTo_1 : decode cX8_deliverTo 1 = .ok (.getfield 34, 3) := by decide +kernel
theorem dX8_deliverTo_4 : decode cX8_deliverTo 4 = .ok (.aload_n 0, 1) := by decide +kernel
theorem dX8_deliverTo_5 : decode cX8_deliverTo 5 = .ok (.getfield 30, 3) := by decide +kernel
theorem dX8_deliverTo_8 : decode cX8_deliverTo 8 = .ok (.if_icmp .lt 5, 3) := by decide +kernel
theorem dX8_deliverTo_11 : decode cX8_deliverTo 11 = .ok (.iconst 0, 1) := by decide +kernel
theorem dX8_deliverTo_12 : decode cX8_deliverTo 12 = .ok (.ireturn, 1) := by decide +kernel
theorem dX8_deliverTo_13 : decode cX8_deliverTo 13 = .ok (.aload_n 0, 1) := by decide +kernel
theorem dX8_deliverTo_14 : decode cX8_deliverTo 14 = .ok (.getfield 34, 3) := by decide +kernel
theorem dX8_deliverTo_17 : decode cX8_deliverTo 17 = .ok (.sipush 255, 3) := by decide +kernel
theorem dX8_deliverTo_20 : decode cX8_deliverTo 20 = .ok (.iand, 1) := by decide +kernel
theorem dX8_deliverTo_21 : decode cX8_deliverTo 21 = .ok (.istore_n 3, 1) := by decide +kernel
theorem dX8_deliverTo_22 : decode cX8_deliverTo 22 = .ok (.aload_n 0, 1) := by decide +kernel
theorem dX8_deliverTo_23 : decode cX8_deliverTo 23 = .ok (.getfield 24, 3) := by decide +kernel
theorem dX8_deliverTo_26 : decode cX8_deliverTo 26 = .ok (.iload_n 3, 1) := by decide +kernel
theorem dX8_deliverTo_27 : decode cX8_deliverTo 27 = .ok (.dup2, 1) := by decide +kernel
theorem dX8_deliverTo_28 : decode cX8_deliverTo 28 = .ok (.iaload, 1) := by decide +kernel
theorem dX8_deliverTo_29 : decode cX8_deliverTo 29 = .ok (.iconst 1, 1) := by decide +kernel
theorem dX8_deliverTo_30 : decode cX8_deliverTo 30 = .ok (.isub, 1) := by decide +kernel
theorem dX8_deliverTo_31 : decode cX8_deliverTo 31 = .ok (.iastore, 1) := by decide +kernel
theorem dX8_deliverTo_32 : decode cX8_deliverTo 32 = .ok (.aload_n 0, 1) := by decide +kernel
theorem dX8_deliverTo_33 : decode cX8_deliverTo 33 = .ok (.getfield 24, 3) := by decide +kernel
theorem dX8_deliverTo_36 : decode cX8_deliverTo 36 = .ok (.iload_n 3, 1) := by decide +kernel
theorem dX8_deliverTo_37 : decode cX8_deliverTo 37 = .ok (.iaload, 1) := by decide +kernel
theorem dX8_deliverTo_38 : decode cX8_deliverTo 38 = .ok (.ifCond .le 5, 3) := by decide +kernel
theorem dX8_deliverTo_41 : decode cX8_deliverTo 41 = .ok (.iconst 0, 1) := by decide +kernel
theorem dX8_deliverTo_42 : decode cX8_deliverTo 42 = .ok (.ireturn, 1) := by decide +kernel
theorem dX8_deliverTo_43 : decode cX8_deliverTo 43 = .ok (.aload_n 0, 1) := by decide +kernel
theorem dX8_deliverTo_44 : decode cX8_deliverTo 44 = .ok (.dup, 1) := by decide +kernel
theorem dX8_deliverTo_45 : decode cX8_deliverTo 45 = .ok (.getfield 34, 3) := by decide +kernel
theorem dX8_deliverTo_48 : decode cX8_deliverTo 48 = .ok (.iconst 1, 1) := by decide +kernel
theorem dX8_deliverTo_49 : decode cX8_deliverTo 49 = .ok (.iadd, 1) := by decide +kernel
theorem dX8_deliverTo_50 : decode cX8_deliverTo 50 = .ok (.putfield 34, 3) := by decide +kernel
theorem dX8_deliverTo_53 : decode cX8_deliverTo 53 = .ok (.aload_n 0, 1) := by decide +kernel
theorem dX8_deliverTo_54 : decode cX8_deliverTo 54 = .ok (.getfield 20, 3) := by decide +kernel
theorem dX8_deliverTo_57 : decode cX8_deliverTo 57 = .ok (.iload_n 3, 1) := by decide +kernel
theorem dX8_deliverTo_58 : decode cX8_deliverTo 58 = .ok (.iaload, 1) := by decide +kernel
theorem dX8_deliverTo_59 : decode cX8_deliverTo 59 = .ok (.istore 4, 2) := by decide +kernel
theorem dX8_deliverTo_61 : decode cX8_deliverTo 61 = .ok (.iload 4, 2) := by decide +kernel
theorem dX8_deliverTo_63 : decode cX8_deliverTo 63 = .ok (.ifCond .ge 13, 3) := by decide +kernel
theorem dX8_deliverTo_66 : decode cX8_deliverTo 66 = .ok (.aload_n 1, 1) := by decide +kernel
theorem dX8_deliverTo_67 : decode cX8_deliverTo 67 = .ok (.iconst (-1), 1) := by decide +kernel
theorem dX8_deliverTo_68 : decode cX8_deliverTo 68 = .ok (.iload 4, 2) := by decide +kernel
theorem dX8_deliverTo_70 : decode cX8_deliverTo 70 = .ok (.isub, 1) := by decide +kernel
theorem dX8_deliverTo_71 : decode cX8_deliverTo 71 = .ok (.invokevirtual 44, 3) := by decide +kernel
theorem dX8_deliverTo_74 : decode cX8_deliverTo 74 = .ok (.iconst 1, 1) := by decide +kernel
theorem dX8_deliverTo_75 : decode cX8_deliverTo 75 = .ok (.ireturn, 1) := by decide +kernel
theorem dX8_deliverTo_76 : decode cX8_deliverTo 76 = .ok (.aload_n 2, 1) := by decide +kernel
theorem dX8_deliverTo_77 : decode cX8_deliverTo 77 = .ok (.getfield 49, 3) := by decide +kernel
theorem dX8_deliverTo_80 : decode cX8_deliverTo 80 = .ok (.iload 4, 2) := by decide +kernel
theorem dX8_deliverTo_82 : decode cX8_deliverTo 82 = .ok (.invokevirtual 55, 3) := by decide +kernel
theorem dX8_deliverTo_85 : decode cX8_deliverTo 85 = .ok (.astore 5, 2) := by decide +kernel
theorem dX8_deliverTo_87 : decode cX8_deliverTo 87 = .ok (.aload 5, 2) := by decide +kernel
theorem dX8_deliverTo_89 : decode cX8_deliverTo 89 = .ok (.ifnull 15, 3) := by decide +kernel
theorem dX8_deliverTo_92 : decode cX8_deliverTo 92 = .ok (.aload_n 1, 1) := by decide +kernel
theorem dX8_deliverTo_93 : decode cX8_deliverTo 93 = .ok (.iload 4, 2) := by decide +kernel
theorem dX8_deliverTo_95 : decode cX8_deliverTo 95 = .ok (.aload 5, 2) := by decide +kernel
theorem dX8_deliverTo_97 : decode cX8_deliverTo 97 = .ok (.invokevirtual 61, 3) := by decide +kernel
theorem dX8_deliverTo_100 : decode cX8_deliverTo 100 = .ok (.invokevirtual 67, 3) := by decide +kernel
theorem dX8_deliverTo_103 : decode cX8_deliverTo 103 = .ok (.pop, 1) := by decide +kernel
theorem dX8_deliverTo_104 : decode cX8_deliverTo 104 = .ok (.iconst 1, 1) := by decide +kernel
theorem dX8_deliverTo_105 : decode cX8_deliverTo 105 = .ok (.ireturn, 1) := by decide +kernel
theorem dX9_init_0 : decode cX9_init 0 = .ok (.aload_n 0, 1) := by decide +kernel
theorem dX9_init_1 : decode cX9_init 1 = .ok (.invokespecial 5, 3) := by decide +kernel
theorem dX9_init_4 : decode cX9_init 4 = .ok (.aload_n 0, 1) := by decide +kernel
theorem dX9_init_5 : decode cX9_init 5 = .ok (.bipush 64, 2) := by decide +kernel
theorem dX9_init_7 : decode cX9_init 7 = .ok (.newarray .int, 2) := by decide +kernel
theorem dX9_init_9 : decode cX9_init 9 = .ok (.putfield 11, 3) := by decide +kernel
theorem dX9_init_12 : decode cX9_init 12 = .ok (.aload_n 0, 1) := by decide +kernel
theorem dX9_init_13 : decode cX9_init 13 = .ok (.bipush 64, 2) := by decide +kernel
theorem dX9_init_15 : decode cX9_init 15 = .ok (.newarray .int, 2) := by decide +kernel
theorem dX9_init_17 : decode cX9_init 17 = .ok (.putfield 15, 3) := by decide +kernel
theorem dX9_init_20 : decode cX9_init 20 = .ok (.aload_n 0, 1) := by decide +kernel
theorem dX9_init_21 : decode cX9_init 21 = .ok (.bipush 64, 2) := by decide +kernel
theorem dX9_init_23 : decode cX9_init 23 = .ok (.newarray .long, 2) := by decide +kernel
theorem dX9_init_25 : decode cX9_init 25 = .ok (.putfield 18, 3) := by decide +kernel
theorem dX9_init_28 : decode cX9_init 28 = .ok (.return_, 1) := by decide +kernel
theorem dX9_restart_0 : decode cX9_restart 0 = .ok (.aload_n 0, 1) := by decide +kernel
theorem dX9_restart_1 : decode cX9_restart 1 = .ok (.iconst 0, 1) := by decide +kernel
theorem dX9_restart_2 : decode cX9_restart 2 = .ok (.putfield 22, 3) := by decide +kernel
theorem dX9_restart_5 : decode cX9_restart 5 = .ok (.aload_n 0, 1) := by decide +kernel
theorem dX9_restart_6 : decode cX9_restart 6 = .ok (.iconst 0, 1) := by decide +kernel
theorem dX9_restart_7 : decode cX9_restart 7 = .ok (.putfield 26, 3) := by decide +kernel
theorem dX9_restart_10 : decode cX9_restart 10 = .ok (.aload_n 0, 1) := by decide +kernel
theorem dX9_restart_11 : decode cX9_restart 11 = .ok (.iconst 0, 1) := by decide +kernel
theorem dX9_restart_12 : decode cX9_restart 12 = .ok (.putfield 29, 3) := by decide +kernel
theorem dX9_restart_15 : decode cX9_restart 15 = .ok (.aload_n 0, 1) := by decide +kernel
theorem dX9_restart_16 : decode cX9_restart 16 = .ok (.iconst 0, 1) := by decide +kernel
theorem dX9_restart_17 : decode cX9_restart 17 = .ok (.putfield 32, 3) := by decide +kernel
theorem dX9_restart_20 : decode cX9_restart 20 = .ok (.return_, 1) := by decide +kernel
theorem dX9_copyOf_0 : decode cX9_copyOf 0 = .ok (.iconst 0, 1) := by decide +kernel
theorem dX9_copyOf_1 : decode cX9_copyOf 1 = .ok (.istore_n 2, 1) := by decide +kernel
theorem dX9_copyOf_2 : decode cX9_copyOf 2 = .ok (.iload_n 2, 1) := by decide +kernel
theorem dX9_copyOf_3 : decode cX9_copyOf 3 = .ok (.bipush 64, 2) := by decide +kernel
theorem dX9_copyOf_5 : decode cX9_copyOf 5 = .ok (.if_icmp .ge 45, 3) := by decide +kernel
theorem dX9_copyOf_8 : decode cX9_copyOf 8 = .ok (.aload_n 0, 1) := by decide +kernel
theorem dX9_copyOf_9 : decode cX9_copyOf 9 = .ok (.getfield 11, 3) := by decide +kernel
theorem dX9_copyOf_12 : decode cX9_copyOf 12 = .ok (.iload_n 2, 1) := by decide +kernel
theorem dX9_copyOf_13 : decode cX9_copyOf 13 = .ok (.aload_n 1, 1) := by decide +kernel
theorem dX9_copyOf_14 : decode cX9_copyOf 14 = .ok (.getfield 11, 3) := by decide +kernel
theorem dX9_copyOf_17 : decode cX9_copyOf 17 = .ok (.iload_n 2, 1) := by decide +kernel
theorem dX9_copyOf_18 : decode cX9_copyOf 18 = .ok (.iaload, 1) := by decide +kernel
theorem dX9_copyOf_19 : decode cX9_copyOf 19 = .ok (.iastore, 1) := by decide +kernel
theorem dX9_copyOf_20 : decode cX9_copyOf 20 = .ok (.aload_n 0, 1) := by decide +kernel
theorem dX9_copyOf_21 : decode cX9_copyOf 21 = .ok (.getfield 15, 3) := by decide +kernel
theorem dX9_copyOf_24 : decode cX9_copyOf 24 = .ok (.iload_n 2, 1) := by decide +kernel
theorem dX9_copyOf_25 : decode cX9_copyOf 25 = .ok (.aload_n 1, 1) := by decide +kernel
theorem dX9_copyOf_26 : decode cX9_copyOf 26 = .ok (.getfield 15, 3) := by decide +kernel
theorem dX9_copyOf_29 : decode cX9_copyOf 29 = .ok (.iload_n 2, 1) := by decide +kernel
theorem dX9_copyOf_30 : decode cX9_copyOf 30 = .ok (.iaload, 1) := by decide +kernel
theorem dX9_copyOf_31 : decode cX9_copyOf 31 = .ok (.iastore, 1) := by decide +kernel
theorem dX9_copyOf_32 : decode cX9_copyOf 32 = .ok (.aload_n 0, 1) := by decide +kernel
theorem dX9_copyOf_33 : decode cX9_copyOf 33 = .ok (.getfield 18, 3) := by decide +kernel
theorem dX9_copyOf_36 : decode cX9_copyOf 36 = .ok (.iload_n 2, 1) := by decide +kernel
theorem dX9_copyOf_37 : decode cX9_copyOf 37 = .ok (.aload_n 1, 1) := by decide +kernel
theorem dX9_copyOf_38 : decode cX9_copyOf 38 = .ok (.getfield 18, 3) := by decide +kernel
theorem dX9_copyOf_41 : decode cX9_copyOf 41 = .ok (.iload_n 2, 1) := by decide +kernel
theorem dX9_copyOf_42 : decode cX9_copyOf 42 = .ok (.laload, 1) := by decide +kernel
theorem dX9_copyOf_43 : decode cX9_copyOf 43 = .ok (.lastore, 1) := by decide +kernel
theorem dX9_copyOf_44 : decode cX9_copyOf 44 = .ok (.iinc 2 1, 3) := by decide +kernel
theorem dX9_copyOf_47 : decode cX9_copyOf 47 = .ok (.goto (-45), 3) := by decide +kernel
theorem dX9_copyOf_50 : decode cX9_copyOf 50 = .ok (.aload_n 0, 1) := by decide +kernel
theorem dX9_copyOf_51 : decode cX9_copyOf 51 = .ok (.aload_n 1, 1) := by decide +kernel
theorem dX9_copyOf_52 : decode cX9_copyOf 52 = .ok (.getfield 22, 3) := by decide +kernel
theorem dX9_copyOf_55 : decode cX9_copyOf 55 = .ok (.putfield 22, 3) := by decide +kernel
theorem dX9_copyOf_58 : decode cX9_copyOf 58 = .ok (.aload_n 0, 1) := by decide +kernel
theorem dX9_copyOf_59 : decode cX9_copyOf 59 = .ok (.aload_n 1, 1) := by decide +kernel
theorem dX9_copyOf_60 : decode cX9_copyOf 60 = .ok (.getfield 26, 3) := by decide +kernel
theorem dX9_copyOf_63 : decode cX9_copyOf 63 = .ok (.putfield 26, 3) := by decide +kernel
theorem dX9_copyOf_66 : decode cX9_copyOf 66 = .ok (.aload_n 0, 1) := by decide +kernel
theorem dX9_copyOf_67 : decode cX9_copyOf 67 = .ok (.aload_n 1, 1) := by decide +kernel
theorem dX9_copyOf_68 : decode cX9_copyOf 68 = .ok (.getfield 29, 3) := by decide +kernel
theorem dX9_copyOf_71 : decode cX9_copyOf 71 = .ok (.putfield 29, 3) := by decide +kernel
theorem dX9_copyOf_74 : decode cX9_copyOf 74 = .ok (.aload_n 0, 1) := by decide +kernel
theorem dX9_copyOf_75 : decode cX9_copyOf 75 = .ok (.aload_n 1, 1) := by decide +kernel
theorem dX9_copyOf_76 : decode cX9_copyOf 76 = .ok (.getfield 32, 3) := by decide +kernel
theorem dX9_copyOf_79 : decode cX9_copyOf 79 = .ok (.putfield 32, 3) := by decide +kernel
theorem dX9_copyOf_82 : decode cX9_copyOf 82 = .ok (.return_, 1) := by decide +kernel
theorem dX9_has_0 : decode cX9_has 0 = .ok (.iload_n 1, 1) := by decide +kernel
theorem dX9_has_1 : decode cX9_has 1 = .ok (.aload_n 0, 1) := by decide +kernel
theorem dX9_has_2 : decode cX9_has 2 = .ok (.getfield 26, 3) := by decide +kernel
theorem dX9_has_5 : decode cX9_has 5 = .ok (.if_icmp .lt 15, 3) := by decide +kernel
theorem dX9_has_8 : decode cX9_has 8 = .ok (.iload_n 1, 1) := by decide +kernel
theorem dX9_has_9 : decode cX9_has 9 = .ok (.aload_n 0, 1) := by decide +kernel
theorem dX9_has_10 : decode cX9_has 10 = .ok (.getfield 22, 3) := by decide +kernel
theorem dX9_has_13 : decode cX9_has 13 = .ok (.if_icmp .ge 7, 3) := by decide +kernel
theorem dX9_has_16 : decode cX9_has 16 = .ok (.iconst 1, 1) := by decide +kernel
theorem dX9_has_17 : decode cX9_has 17 = .ok (.goto 4, 3) := by decide +kernel
theorem dX9_has_20 : decode cX9_has 20 = .ok (.iconst 0, 1) := by decide +kernel
theorem dX9_has_21 : decode cX9_has 21 = .ok (.ireturn, 1) := by decide +kernel
theorem dX9_fieldAt_0 : decode cX9_fieldAt 0 = .ok (.aload_n 0, 1) := by decide +kernel
theorem dX9_fieldAt_1 : decode cX9_fieldAt 1 = .ok (.getfield 11, 3) := by decide +kernel
theorem dX9_fieldAt_4 : decode cX9_fieldAt 4 = .ok (.iload_n 1, 1) := by decide +kernel
theorem dX9_fieldAt_5 : decode cX9_fieldAt 5 = .ok (.bipush 63, 2) := by decide +kernel
theorem dX9_fieldAt_7 : decode cX9_fieldAt 7 = .ok (.iand, 1) := by decide +kernel
theorem dX9_fieldAt_8 : decode cX9_fieldAt 8 = .ok (.iaload, 1) := by decide +kernel
theorem dX9_fieldAt_9 : decode cX9_fieldAt 9 = .ok (.ireturn, 1) := by decide +kernel
theorem dX9_sizeAt_0 : decode cX9_sizeAt 0 = .ok (.aload_n 0, 1) := by decide +kernel
theorem dX9_sizeAt_1 : decode cX9_sizeAt 1 = .ok (.getfield 15, 3) := by decide +kernel
theorem dX9_sizeAt_4 : decode cX9_sizeAt 4 = .ok (.iload_n 1, 1) := by decide +kernel
theorem dX9_sizeAt_5 : decode cX9_sizeAt 5 = .ok (.bipush 63, 2) := by decide +kernel
theorem dX9_sizeAt_7 : decode cX9_sizeAt 7 = .ok (.iand, 1) := by decide +kernel
theorem dX9_sizeAt_8 : decode cX9_sizeAt 8 = .ok (.iaload, 1) := by decide +kernel
theorem dX9_sizeAt_9 : decode cX9_sizeAt 9 = .ok (.ireturn, 1) := by decide +kernel
theorem dX9_holdersAt_0 : decode cX9_holdersAt 0 = .ok (.aload_n 0, 1) := by decide +kernel
theorem dX9_holdersAt_1 : decode cX9_holdersAt 1 = .ok (.getfield 18, 3) := by decide +kernel
theorem dX9_holdersAt_4 : decode cX9_holdersAt 4 = .ok (.iload_n 1, 1) := by decide +kernel
theorem dX9_holdersAt_5 : decode cX9_holdersAt 5 = .ok (.bipush 63, 2) := by decide +kernel
theorem dX9_holdersAt_7 : decode cX9_holdersAt 7 = .ok (.iand, 1) := by decide +kernel
theorem dX9_holdersAt_8 : decode cX9_holdersAt 8 = .ok (.laload, 1) := by decide +kernel
theorem dX9_holdersAt_9 : decode cX9_holdersAt 9 = .ok (.lreturn, 1) := by decide +kernel
theorem dX9_hold_0 : decode cX9_hold 0 = .ok (.aload_n 0, 1) := by decide +kernel
theorem dX9_hold_1 : decode cX9_hold 1 = .ok (.getfield 18, 3) := by decide +kernel
theorem dX9_hold_4 : decode cX9_hold 4 = .ok (.iload_n 1, 1) := by decide +kernel
theorem dX9_hold_5 : decode cX9_hold 5 = .ok (.bipush 63, 2) := by decide +kernel
theorem dX9_hold_7 : decode cX9_hold 7 = .ok (.iand, 1) := by decide +kernel
theorem dX9_hold_8 : decode cX9_hold 8 = .ok (.dup2, 1) := by decide +kernel
theorem dX9_hold_9 : decode cX9_hold 9 = .ok (.laload, 1) := by decide +kernel
theorem dX9_hold_10 : decode cX9_hold 10 = .ok (.lconst 1, 1) := by decide +kernel
theorem dX9_hold_11 : decode cX9_hold 11 = .ok (.iload_n 2, 1) := by decide +kernel
theorem dX9_hold_12 : decode cX9_hold 12 = .ok (.lshl, 1) := by decide +kernel
theorem dX9_hold_13 : decode cX9_hold 13 = .ok (.lor, 1) := by decide +kernel
theorem dX9_hold_14 : decode cX9_hold 14 = .ok (.lastore, 1) := by decide +kernel
theorem dX9_hold_15 : decode cX9_hold 15 = .ok (.return_, 1) := by decide +kernel
theorem dX9_release_0 : decode cX9_release 0 = .ok (.iconst 0, 1) := by decide +kernel
theorem dX9_release_1 : decode cX9_release 1 = .ok (.istore_n 2, 1) := by decide +kernel
theorem dX9_release_2 : decode cX9_release 2 = .ok (.iload_n 2, 1) := by decide +kernel
theorem dX9_release_3 : decode cX9_release 3 = .ok (.bipush 64, 2) := by decide +kernel
theorem dX9_release_5 : decode cX9_release 5 = .ok (.if_icmp .ge 25, 3) := by decide +kernel
theorem dX9_release_8 : decode cX9_release 8 = .ok (.aload_n 0, 1) := by decide +kernel
theorem dX9_release_9 : decode cX9_release 9 = .ok (.getfield 18, 3) := by decide +kernel
theorem dX9_release_12 : decode cX9_release 12 = .ok (.iload_n 2, 1) := by decide +kernel
theorem dX9_release_13 : decode cX9_release 13 = .ok (.dup2, 1) := by decide +kernel
theorem dX9_release_14 : decode cX9_release 14 = .ok (.laload, 1) := by decide +kernel
theorem dX9_release_15 : decode cX9_release 15 = .ok (.lconst 1, 1) := by decide +kernel
theorem dX9_release_16 : decode cX9_release 16 = .ok (.iload_n 1, 1) := by decide +kernel
theorem dX9_release_17 : decode cX9_release 17 = .ok (.lshl, 1) := by decide +kernel
theorem dX9_release_18 : decode cX9_release 18 = .ok (.ldc2_w 35, 3) := by decide +kernel
theorem dX9_release_21 : decode cX9_release 21 = .ok (.lxor, 1) := by decide +kernel
theorem dX9_release_22 : decode cX9_release 22 = .ok (.land, 1) := by decide +kernel
theorem dX9_release_23 : decode cX9_release 23 = .ok (.lastore, 1) := by decide +kernel
theorem dX9_release_24 : decode cX9_release 24 = .ok (.iinc 2 1, 3) := by decide +kernel
theorem dX9_release_27 : decode cX9_release 27 = .ok (.goto (-25), 3) := by decide +kernel
theorem dX9_release_30 : decode cX9_release 30 = .ok (.return_, 1) := by decide +kernel
theorem dX9_tooMany_0 : decode cX9_tooMany 0 = .ok (.aload_n 0, 1) := by decide +kernel
theorem dX9_tooMany_1 : decode cX9_tooMany 1 = .ok (.getfield 29, 3) := by decide +kernel
theorem dX9_tooMany_4 : decode cX9_tooMany 4 = .ok (.istore_n 2, 1) := by decide +kernel
theorem dX9_tooMany_5 : decode cX9_tooMany 5 = .ok (.iconst 0, 1) := by decide +kernel
theorem dX9_tooMany_6 : decode cX9_tooMany 6 = .ok (.istore_n 3, 1) := by decide +kernel
theorem dX9_tooMany_7 : decode cX9_tooMany 7 = .ok (.aload_n 0, 1) := by decide +kernel
theorem dX9_tooMany_8 : decode cX9_tooMany 8 = .ok (.getfield 26, 3) := by decide +kernel
theorem dX9_tooMany_11 : decode cX9_tooMany 11 = .ok (.istore 4, 2) := by decide +kernel
theorem dX9_tooMany_13 : decode cX9_tooMany 13 = .ok (.iload 4, 2) := by decide +kernel
theorem dX9_tooMany_15 : decode cX9_tooMany 15 = .ok (.aload_n 0, 1) := by decide +kernel
theorem dX9_tooMany_16 : decode cX9_tooMany 16 = .ok (.getfield 22, 3) := by decide +kernel
theorem dX9_tooMany_19 : decode cX9_tooMany 19 = .ok (.if_icmp .ge 30, 3) := by decide +kernel
theorem dX9_tooMany_22 : decode cX9_tooMany 22 = .ok (.iload_n 2, 1) := by decide +kernel
theorem dX9_tooMany_23 : decode cX9_tooMany 23 = .ok (.iload_n 1, 1) := by decide +kernel
theorem dX9_tooMany_24 : decode cX9_tooMany 24 = .ok (.if_icmp .le 25, 3) := by decide +kernel
theorem dX9_tooMany_27 : decode cX9_tooMany 27 = .ok (.iload_n 2, 1) := by decide +kernel
theorem dX9_tooMany_28 : decode cX9_tooMany 28 = .ok (.aload_n 0, 1) := by decide +kernel
theorem dX9_tooMany_29 : decode cX9_tooMany 29 = .ok (.getfield 15, 3) := by decide +kernel
theorem dX9_tooMany_32 : decode cX9_tooMany 32 = .ok (.iload 4, 2) := by decide +kernel
theorem dX9_tooMany_34 : decode cX9_tooMany 34 = .ok (.bipush 63, 2) := by decide +kernel
theorem dX9_tooMany_36 : decode cX9_tooMany 36 = .ok (.iand, 1) := by decide +kernel
theorem dX9_tooMany_37 : decode cX9_tooMany 37 = .ok (.iaload, 1) := by decide +kernel
theorem dX9_tooMany_38 : decode cX9_tooMany 38 = .ok (.isub, 1) := by decide +kernel
theorem dX9_tooMany_39 : decode cX9_tooMany 39 = .ok (.istore_n 2, 1) := by decide +kernel
theorem dX9_tooMany_40 : decode cX9_tooMany 40 = .ok (.iinc 3 1, 3) := by decide +kernel
theorem dX9_tooMany_43 : decode cX9_tooMany 43 = .ok (.iinc 4 1, 3) := by decide +kernel
theorem dX9_tooMany_46 : decode cX9_tooMany 46 = .ok (.goto (-33), 3) := by decide +kernel
theorem dX9_tooMany_49 : decode cX9_tooMany 49 = .ok (.iload_n 3, 1) := by decide +kernel
theorem dX9_tooMany_50 : decode cX9_tooMany 50 = .ok (.ireturn, 1) := by decide +kernel
theorem dX9_evictable_0 : decode cX9_evictable 0 = .ok (.aload_n 0, 1) := by decide +kernel
theorem dX9_evictable_1 : decode cX9_evictable 1 = .ok (.getfield 22, 3) := by decide +kernel
theorem dX9_evictable_4 : decode cX9_evictable 4 = .ok (.iload_n 1, 1) := by decide +kernel
theorem dX9_evictable_5 : decode cX9_evictable 5 = .ok (.invokestatic 37, 3) := by decide +kernel
theorem dX9_evictable_8 : decode cX9_evictable 8 = .ok (.istore_n 2, 1) := by decide +kernel
theorem dX9_evictable_9 : decode cX9_evictable 9 = .ok (.iconst 0, 1) := by decide +kernel
theorem dX9_evictable_10 : decode cX9_evictable 10 = .ok (.istore_n 3, 1) := by decide +kernel
theorem dX9_evictable_11 : decode cX9_evictable 11 = .ok (.aload_n 0, 1) := by decide +kernel
theorem dX9_evictable_12 : decode cX9_evictable 12 = .ok (.getfield 26, 3) := by decide +kernel
theorem dX9_evictable_15 : decode cX9_evictable 15 = .ok (.istore 4, 2) := by decide +kernel
theorem dX9_evictable_17 : decode cX9_evictable 17 = .ok (.iload 4, 2) := by decide +kernel
theorem dX9_evictable_19 : decode cX9_evictable 19 = .ok (.iload_n 2, 1) := by decide +kernel
theorem dX9_evictable_20 : decode cX9_evictable 20 = .ok (.if_icmp .ge 27, 3) := by decide +kernel
theorem dX9_evictable_23 : decode cX9_evictable 23 = .ok (.aload_n 0, 1) := by decide +kernel
theorem dX9_evictable_24 : decode cX9_evictable 24 = .ok (.getfield 18, 3) := by decide +kernel
theorem dX9_evictable_27 : decode cX9_evictable 27 = .ok (.iload 4, 2) := by decide +kernel
theorem dX9_evictable_29 : decode cX9_evictable 29 = .ok (.bipush 63, 2) := by decide +kernel
theorem dX9_evictable_31 : decode cX9_evictable 31 = .ok (.iand, 1) := by decide +kernel
theorem dX9_evictable_32 : decode cX9_evictable 32 = .ok (.laload, 1) := by decide +kernel
theorem dX9_evictable_33 : decode cX9_evictable 33 = .ok (.lconst 0, 1) := by decide +kernel
theorem dX9_evictable_34 : decode cX9_evictable 34 = .ok (.lcmp, 1) := by decide +kernel
theorem dX9_evictable_35 : decode cX9_evictable 35 = .ok (.ifCond .ne 12, 3) := by decide +kernel
theorem dX9_evictable_38 : decode cX9_evictable 38 = .ok (.iinc 3 1, 3) := by decide +kernel
theorem dX9_evictable_41 : decode cX9_evictable 41 = .ok (.iinc 4 1, 3) := by decide +kernel
theorem dX9_evictable_44 : decode cX9_evictable 44 = .ok (.goto (-27), 3) := by decide +kernel
theorem dX9_evictable_47 : decode cX9_evictable 47 = .ok (.iload_n 3, 1) := by decide +kernel
theorem dX9_evictable_48 : decode cX9_evictable 48 = .ok (.ireturn, 1) := by decide +kernel
set_option maxRecDepth 20000 in
theorem ggX9_canShrink_X9_tooMany : GoodIn wsX9_canShrink wsX9_tooMany := goodIn_r _ [5, 6, 7, 8, 9, 19, 20, 21, 22, 23, 24, 25] rfl (by decide +kernel)
set_option maxRecDepth 20000 in
theorem gX9_canShrink_X9_tooMany : GoodIn wsX9_canShrink (wsV RX9 43 RX9 yX9_tooMany wsX9_tooMany) := goodIn_app (goodIn_of _ (by decide +kernel)) ggX9_canShrink_X9_tooMany
set_option maxRecDepth 20000 in
theorem ggX9_canShrink_X9_evictable : GoodIn wsX9_canShrink wsX9_evictable := goodIn_r _ [13, 8, 14, 15, 16, 17, 7, 18, 19, 20, 21, 22, 23, 24, 25] rfl (by decide +kernel)
set_option maxRecDepth 20000 in
theorem gX9_canShrink_X9_evictable : GoodIn wsX9_canShrink (wsV RX9 47 RX9 yX9_evictable wsX9_evictable) := goodIn_app (goodIn_of _ (by decide +kernel)) ggX9_canShrink_X9_evictable
theorem dX9_canShrink_0 : decode cX9_canShrink 0 = .ok (.aload_n 0, 1) := by decide +kernel
theorem dX9_canShrink_1 : decode cX9_canShrink 1 = .ok (.iload_n 1, 1) := by decide +kernel
theorem dX9_canShrink_2 : decode cX9_canShrink 2 = .ok (.invokevirtual 43, 3) := by decide +kernel
theorem dX9_canShrink_5 : decode cX9_canShrink 5 = .ok (.aload_n 0, 1) := by decide +kernel
theorem dX9_canShrink_6 : decode cX9_canShrink 6 = .ok (.iload_n 2, 1) := by decide +kernel
theorem dX9_canShrink_7 : decode cX9_canShrink 7 = .ok (.invokevirtual 47, 3) := by decide +kernel
theorem dX9_canShrink_10 : decode cX9_canShrink 10 = .ok (.if_icmp .gt 7, 3) := by decide +kernel
theorem dX9_canShrink_13 : decode cX9_canShrink 13 = .ok (.iconst 1, 1) := by decide +kernel
theorem dX9_canShrink_14 : decode cX9_canShrink 14 = .ok (.goto 4, 3) := by decide +kernel
theorem dX9_canShrink_17 : decode cX9_canShrink 17 = .ok (.iconst 0, 1) := by decide +kernel
theorem dX9_canShrink_18 : decode cX9_canShrink 18 = .ok (.ireturn, 1) := by decide +kernel
set_option maxRecDepth 20000 in
theorem ggX9_canInsert_X9_tooMany : GoodIn wsX9_canInsert wsX9_tooMany := goodIn_r _ [6, 7, 8, 9, 10, 20, 21, 22, 23, 24, 25, 26] rfl (by decide +kernel)
set_option maxRecDepth 20000 in
theorem gX9_canInsert_X9_tooMany : GoodIn wsX9_canInsert (wsV RX9 43 RX9 yX9_tooMany wsX9_tooMany) := goodIn_app (goodIn_of _ (by decide +kernel)) ggX9_canInsert_X9_tooMany
set_option maxRecDepth 20000 in
theorem ggX9_canInsert_X9_evictable : GoodIn wsX9_canInsert wsX9_evictable := goodIn_r _ [14, 9, 15, 16, 17, 18, 8, 19, 20, 21, 22, 23, 24, 25, 26] rfl (by decide +kernel)
set_option maxRecDepth 20000 in
theorem gX9_canInsert_X9_evictable : GoodIn wsX9_canInsert (wsV RX9 47 RX9 yX9_evictable wsX9_evictable) := goodIn_app (goodIn_of _ (by decide +kernel)) ggX9_canInsert_X9_evictable
theorem dX9_canInsert_0 : decode cX9_canInsert 0 = .ok (.iload_n 1, 1) := by decide +kernel
theorem dX9_canInsert_1 : decode cX9_canInsert 1 = .ok (.aload_n 0, 1) := by decide +kernel
theorem dX9_canInsert_2 : decode cX9_canInsert 2 = .ok (.getfield 32, 3) := by decide +kernel
theorem dX9_canInsert_5 : decode cX9_canInsert 5 = .ok (.if_icmp .gt 25, 3) := by decide +kernel
theorem dX9_canInsert_8 : decode cX9_canInsert 8 = .ok (.aload_n 0, 1) := by decide +kernel
theorem dX9_canInsert_9 : decode cX9_canInsert 9 = .ok (.aload_n 0, 1) := by decide +kernel
theorem dX9_canInsert_10 : decode cX9_canInsert 10 = .ok (.getfield 32, 3) := by decide +kernel
theorem dX9_canInsert_13 : decode cX9_canInsert 13 = .ok (.iload_n 1, 1) := by decide +kernel
theorem dX9_canInsert_14 : decode cX9_canInsert 14 = .ok (.isub, 1) := by decide +kernel
theorem dX9_canInsert_15 : decode cX9_canInsert 15 = .ok (.invokevirtual 43, 3) := by decide +kernel
theorem dX9_canInsert_18 : decode cX9_canInsert 18 = .ok (.aload_n 0, 1) := by decide +kernel
theorem dX9_canInsert_19 : decode cX9_canInsert 19 = .ok (.iload_n 2, 1) := by decide +kernel
theorem dX9_canInsert_20 : decode cX9_canInsert 20 = .ok (.invokevirtual 47, 3) := by decide +kernel
theorem dX9_canInsert_23 : decode cX9_canInsert 23 = .ok (.if_icmp .gt 7, 3) := by decide +kernel
theorem dX9_canInsert_26 : decode cX9_canInsert 26 = .ok (.iconst 1, 1) := by decide +kernel
theorem dX9_canInsert_27 : decode cX9_canInsert 27 = .ok (.goto 4, 3) := by decide +kernel
theorem dX9_canInsert_30 : decode cX9_canInsert 30 = .ok (.iconst 0, 1) := by decide +kernel
theorem dX9_canInsert_31 : decode cX9_canInsert 31 = .ok (.ireturn, 1) := by decide +kernel
theorem dX9_shrink_0 : decode cX9_shrink 0 = .ok (.aload_n 0, 1) := by decide +kernel
theorem dX9_shrink_1 : decode cX9_shrink 1 = .ok (.getfield 26, 3) := by decide +kernel
theorem dX9_shrink_4 : decode cX9_shrink 4 = .ok (.aload_n 0, 1) := by decide +kernel
theorem dX9_shrink_5 : decode cX9_shrink 5 = .ok (.getfield 22, 3) := by decide +kernel
theorem dX9_shrink_8 : decode cX9_shrink 8 = .ok (.if_icmp .ge 45, 3) := by decide +kernel
theorem dX9_shrink_11 : decode cX9_shrink 11 = .ok (.aload_n 0, 1) := by decide +kernel
theorem dX9_shrink_12 : decode cX9_shrink 12 = .ok (.getfield 29, 3) := by decide +kernel
theorem dX9_shrink_15 : decode cX9_shrink 15 = .ok (.iload_n 1, 1) := by decide +kernel
theorem dX9_shrink_16 : decode cX9_shrink 16 = .ok (.if_icmp .le 37, 3) := by decide +kernel
theorem dX9_shrink_19 : decode cX9_shrink 19 = .ok (.aload_n 0, 1) := by decide +kernel
theorem dX9_shrink_20 : decode cX9_shrink 20 = .ok (.dup, 1) := by decide +kernel
theorem dX9_shrink_21 : decode cX9_shrink 21 = .ok (.getfield 29, 3) := by decide +kernel
theorem dX9_shrink_24 : decode cX9_shrink 24 = .ok (.aload_n 0, 1) := by decide +kernel
theorem dX9_shrink_25 : decode cX9_shrink 25 = .ok (.getfield 15, 3) := by decide +kernel
theorem dX9_shrink_28 : decode cX9_shrink 28 = .ok (.aload_n 0, 1) := by decide +kernel
theorem dX9_shrink_29 : decode cX9_shrink 29 = .ok (.getfield 26, 3) := by decide +kernel
theorem dX9_shrink_32 : decode cX9_shrink 32 = .ok (.bipush 63, 2) := by decide +kernel
theorem dX9_shrink_34 : decode cX9_shrink 34 = .ok (.iand, 1) := by decide +kernel
theorem dX9_shrink_35 : decode cX9_shrink 35 = .ok (.iaload, 1) := by decide +kernel
theorem dX9_shrink_36 : decode cX9_shrink 36 = .ok (.isub, 1) := by decide +kernel
theorem dX9_shrink_37 : decode cX9_shrink 37 = .ok (.putfield 29, 3) := by decide +kernel
theorem dX9_shrink_40 : decode cX9_shrink 40 = .ok (.aload_n 0, 1) := by decide +kernel
theorem dX9_shrink_41 : decode cX9_shrink 41 = .ok (.dup, 1) := by decide +kernel
theorem dX9_shrink_42 : decode cX9_shrink 42 = .ok (.getfield 26, 3) := by decide +kernel
theorem dX9_shrink_45 : decode cX9_shrink 45 = .ok (.iconst 1, 1) := by decide +kernel
theorem dX9_shrink_46 : decode cX9_shrink 46 = .ok (.iadd, 1) := by decide +kernel
theorem dX9_shrink_47 : decode cX9_shrink 47 = .ok (.putfield 26, 3) := by decide +kernel
theorem dX9_shrink_50 : decode cX9_shrink 50 = .ok (.goto (-50), 3) := by decide +kernel
theorem dX9_shrink_53 : decode cX9_shrink 53 = .ok (.return_, 1) := by decide +kernel
set_option maxRecDepth 20000 in
theorem ggX9_changeCapacity_X9_shrink : GoodIn wsX9_changeCapacity wsX9_shrink := goodIn_r _ [6, 7, 8, 9, 10, 11, 12, 13, 14, 15, 16, 17] rfl (by decide +kernel)
set_option maxRecDepth 20000 in
theorem gX9_changeCapacity_X9_shrink : GoodIn wsX9_changeCapacity (wsV RX9 50 RX9 yX9_shrink wsX9_shrink) := goodIn_app (goodIn_of _ (by decide +kernel)) ggX9_changeCapacity_X9_shrink
theorem dX9_changeCapacity_0 : decode cX9_changeCapacity 0 = .ok (.aload_n 0, 1) := by decide +kernel
theorem dX9_changeCapacity_1 : decode cX9_changeCapacity 1 = .ok (.iload_n 1, 1) := by decide +kernel
theorem dX9_changeCapacity_2 : decode cX9_changeCapacity 2 = .ok (.invokevirtual 50, 3) := by decide +kernel
theorem dX9_changeCapacity_5 : decode cX9_changeCapacity 5 = .ok (.aload_n 0, 1) := by decide +kernel
theorem dX9_changeCapacity_6 : decode cX9_changeCapacity 6 = .ok (.iload_n 1, 1) := by decide +kernel
theorem dX9_changeCapacity_7 : decode cX9_changeCapacity 7 = .ok (.putfield 32, 3) := by decide +kernel
theorem dX9_changeCapacity_10 : decode cX9_changeCapacity 10 = .ok (.return_, 1) := by decide +kernel
set_option maxRecDepth 20000 in
theorem ggX9_insert_X9_shrink : GoodIn wsX9_insert wsX9_shrink := goodIn_r _ [11, 12, 2, 6, 4, 13, 14, 15, 16, 17, 18, 19] rfl (by decide +kernel)
set_option maxRecDepth 20000 in
theorem gX9_insert_X9_shrink : GoodIn wsX9_insert (wsV RX9 50 RX9 yX9_shrink wsX9_shrink) := goodIn_app (goodIn_of _ (by decide +kernel)) ggX9_insert_X9_shrink
theorem dX9_insert_0 : decode cX9_insert 0 = .ok (.aload_n 0, 1) := by decide +kernel
theorem dX9_insert_1 : decode cX9_insert 1 = .ok (.aload_n 0, 1) := by decide +kernel
theorem dX9_insert_2 : decode cX9_insert 2 = .ok (.getfield 32, 3) := by decide +kernel
theorem dX9_insert_5 : decode cX9_insert 5 = .ok (.iload_n 2, 1) := by decide +kernel
theorem dX9_insert_6 : decode cX9_insert 6 = .ok (.isub, 1) := by decide +kernel
theorem dX9_insert_7 : decode cX9_insert 7 = .ok (.invokevirtual 50, 3) := by decide +kernel
theorem dX9_insert_10 : decode cX9_insert 10 = .ok (.aload_n 0, 1) := by decide +kernel
theorem dX9_insert_11 : decode cX9_insert 11 = .ok (.getfield 22, 3) := by decide +kernel
theorem dX9_insert_14 : decode cX9_insert 14 = .ok (.istore_n 3, 1) := by decide +kernel
theorem dX9_insert_15 : decode cX9_insert 15 = .ok (.aload_n 0, 1) := by decide +kernel
theorem dX9_insert_16 : decode cX9_insert 16 = .ok (.getfield 11, 3) := by decide +kernel
theorem dX9_insert_19 : decode cX9_insert 19 = .ok (.iload_n 3, 1) := by decide +kernel
theorem dX9_insert_20 : decode cX9_insert 20 = .ok (.bipush 63, 2) := by decide +kernel
theorem dX9_insert_22 : decode cX9_insert 22 = .ok (.iand, 1) := by decide +kernel
theorem dX9_insert_23 : decode cX9_insert 23 = .ok (.iload_n 1, 1) := by decide +kernel
theorem dX9_insert_24 : decode cX9_insert 24 = .ok (.iastore, 1) := by decide +kernel
theorem dX9_insert_25 : decode cX9_insert 25 = .ok (.aload_n 0, 1) := by decide +kernel
theorem dX9_insert_26 : decode cX9_insert 26 = .ok (.getfield 15, 3) := by decide +kernel
theorem dX9_insert_29 : decode cX9_insert 29 = .ok (.iload_n 3, 1) := by decide +kernel
theorem dX9_insert_30 : decode cX9_insert 30 = .ok (.bipush 63, 2) := by decide +kernel
theorem dX9_insert_32 : decode cX9_insert 32 = .ok (.iand, 1) := by decide +kernel
theorem dX9_insert_33 : decode cX9_insert 33 = .ok (.iload_n 2, 1) := by decide +kernel
theorem dX9_insert_34 : decode cX9_insert 34 = .ok (.iastore, 1) := by decide +kernel
theorem dX9_insert_35 : decode cX9_insert 35 = .ok (.aload_n 0, 1) := by decide +kernel
theorem dX9_insert_36 : decode cX9_insert 36 = .ok (.getfield 18, 3) := by decide +kernel
theorem dX9_insert_39 : decode cX9_insert 39 = .ok (.iload_n 3, 1) := by decide +kernel
theorem dX9_insert_40 : decode cX9_insert 40 = .ok (.bipush 63, 2) := by decide +kernel
theorem dX9_insert_42 : decode cX9_insert 42 = .ok (.iand, 1) := by decide +kernel
theorem dX9_insert_43 : decode cX9_insert 43 = .ok (.lconst 0, 1) := by decide +kernel
theorem dX9_insert_44 : decode cX9_insert 44 = .ok (.lastore, 1) := by decide +kernel
theorem dX9_insert_45 : decode cX9_insert 45 = .ok (.aload_n 0, 1) := by decide +kernel
theorem dX9_insert_46 : decode cX9_insert 46 = .ok (.dup, 1) := by decide +kernel
theorem dX9_insert_47 : decode cX9_insert 47 = .ok (.getfield 29, 3) := by decide +kernel
theorem dX9_insert_50 : decode cX9_insert 50 = .ok (.iload_n 2, 1) := by decide +kernel
theorem dX9_insert_51 : decode cX9_insert 51 = .ok (.iadd, 1) := by decide +kernel
theorem dX9_insert_52 : decode cX9_insert 52 = .ok (.putfield 29, 3) := by decide +kernel
theorem dX9_insert_55 : decode cX9_insert 55 = .ok (.aload_n 0, 1) := by decide +kernel
theorem dX9_insert_56 : decode cX9_insert 56 = .ok (.dup, 1) := by decide +kernel
theorem dX9_insert_57 : decode cX9_insert 57 = .ok (.getfield 22, 3) := by decide +kernel
theorem dX9_insert_60 : decode cX9_insert 60 = .ok (.iconst 1, 1) := by decide +kernel
theorem dX9_insert_61 : decode cX9_insert 61 = .ok (.iadd, 1) := by decide +kernel
theorem dX9_insert_62 : decode cX9_insert 62 = .ok (.putfield 22, 3) := by decide +kernel
theorem dX9_insert_65 : decode cX9_insert 65 = .ok (.iload_n 3, 1) := by decide +kernel
theorem dX9_insert_66 : decode cX9_insert 66 = .ok (.ireturn, 1) := by decide +kernel
set_option maxRecDepth 20000 in
theorem ggX9_highestLike_X9_fieldAt : GoodIn wsX9_highestLike wsX9_fieldAt := goodIn_r _ [11, 12, 13, 14, 15, 16, 17, 18, 19] rfl (by decide +kernel)
set_option maxRecDepth 20000 in
theorem gX9_highestLike_X9_fieldAt : GoodIn wsX9_highestLike (wsV RX9 54 RX9 yX9_fieldAt wsX9_fieldAt) := goodIn_app (goodIn_of _ (by decide +kernel)) ggX9_highestLike_X9_fieldAt
theorem dX9_highestLike_0 : decode cX9_highestLike 0 = .ok (.iload_n 2, 1) := by decide +kernel
theorem dX9_highestLike_1 : decode cX9_highestLike 1 = .ok (.aload_n 0, 1) := by decide +kernel
theorem dX9_highestLike_2 : decode cX9_highestLike 2 = .ok (.getfield 22, 3) := by decide +kernel
theorem dX9_highestLike_5 : decode cX9_highestLike 5 = .ok (.invokestatic 37, 3) := by decide +kernel
theorem dX9_highestLike_8 : decode cX9_highestLike 8 = .ok (.iconst 1, 1) := by decide +kernel
theorem dX9_highestLike_9 : decode cX9_highestLike 9 = .ok (.isub, 1) := by decide +kernel
theorem dX9_highestLike_10 : decode cX9_highestLike 10 = .ok (.istore_n 3, 1) := by decide +kernel
theorem dX9_highestLike_11 : decode cX9_highestLike 11 = .ok (.iload_n 3, 1) := by decide +kernel
theorem dX9_highestLike_12 : decode cX9_highestLike 12 = .ok (.aload_n 0, 1) := by decide +kernel
theorem dX9_highestLike_13 : decode cX9_highestLike 13 = .ok (.getfield 26, 3) := by decide +kernel
theorem dX9_highestLike_16 : decode cX9_highestLike 16 = .ok (.if_icmp .lt 20, 3) := by decide +kernel
theorem dX9_highestLike_19 : decode cX9_highestLike 19 = .ok (.aload_n 0, 1) := by decide +kernel
theorem dX9_highestLike_20 : decode cX9_highestLike 20 = .ok (.iload_n 3, 1) := by decide +kernel
theorem dX9_highestLike_21 : decode cX9_highestLike 21 = .ok (.invokevirtual 54, 3) := by decide +kernel
theorem dX9_highestLike_24 : decode cX9_highestLike 24 = .ok (.iload_n 1, 1) := by decide +kernel
theorem dX9_highestLike_25 : decode cX9_highestLike 25 = .ok (.if_icmp .ne 5, 3) := by decide +kernel
theorem dX9_highestLike_28 : decode cX9_highestLike 28 = .ok (.iload_n 3, 1) := by decide +kernel
theorem dX9_highestLike_29 : decode cX9_highestLike 29 = .ok (.ireturn, 1) := by decide +kernel
theorem dX9_highestLike_30 : decode cX9_highestLike 30 = .ok (.iinc 3 (-1), 3) := by decide +kernel
theorem dX9_highestLike_33 : decode cX9_highestLike 33 = .ok (.goto (-22), 3) := by decide +kernel
theorem dX9_highestLike_36 : decode cX9_highestLike 36 = .ok (.bipush (-9), 2) := by decide +kernel
theorem dX9_highestLike_38 : decode cX9_highestLike 38 = .ok (.ireturn, 1) := by decide +kernel
set_option maxRecDepth 20000 in
theorem ggX9_highestNamed_X9_fieldAt : GoodIn wsX9_highestNamed wsX9_fieldAt := goodIn_r _ [12, 13, 28, 29, 30, 31, 32, 33, 34] rfl (by decide +kernel)
set_option maxRecDepth 20000 in
theorem gX9_highestNamed_X9_fieldAt : GoodIn wsX9_highestNamed (wsV RX9 54 RX9 yX9_fieldAt wsX9_fieldAt) := goodIn_app (goodIn_of _ (by decide +kernel)) ggX9_highestNamed_X9_fieldAt
set_option maxRecDepth 20000 in
theorem ggX9_highestNamed_X3_at : GoodIn wsX9_highestNamed wsX3_at := goodIn_r _ [18, 19, 20, 37, 38] rfl (by decide +kernel)
set_option maxRecDepth 20000 in
theorem gX9_highestNamed_X3_at : GoodIn wsX9_highestNamed (wsV RX9 57 RX3 yX3_at wsX3_at) := goodIn_app (goodIn_of _ (by decide +kernel)) ggX9_highestNamed_X3_at
set_option maxRecDepth 20000 in
theorem ggX9_highestNamed_X6_same : GoodIn wsX9_highestNamed wsX6_same := goodIn_r _ [25, 26, 27, 39, 40] rfl (by decide +kernel)
set_option maxRecDepth 20000 in
theorem gX9_highestNamed_X6_same : GoodIn wsX9_highestNamed (wsV RX9 69 RX6 yX6_same wsX6_same) := goodIn_app (goodIn_of _ (by decide +kernel)) ggX9_highestNamed_X6_same
theorem dX9_highestNamed_0 : decode cX9_highestNamed 0 = .ok (.iload_n 3, 1) := by decide +kernel
theorem dX9_highestNamed_1 : decode cX9_highestNamed 1 = .ok (.aload_n 0, 1) := by decide +kernel
theorem dX9_highestNamed_2 : decode cX9_highestNamed 2 = .ok (.getfield 22, 3) := by decide +kernel
theorem dX9_highestNamed_5 : decode cX9_highestNamed 5 = .ok (.invokestatic 37, 3) := by decide +kernel
theorem dX9_highestNamed_8 : decode cX9_highestNamed 8 = .ok (.iconst 1, 1) := by decide +kernel
theorem dX9_highestNamed_9 : decode cX9_highestNamed 9 = .ok (.isub, 1) := by decide +kernel
theorem dX9_highestNamed_10 : decode cX9_highestNamed 10 = .ok (.istore 4, 2) := by decide +kernel
theorem dX9_highestNamed_12 : decode cX9_highestNamed 12 = .ok (.iload 4, 2) := by decide +kernel
theorem dX9_highestNamed_14 : decode cX9_highestNamed 14 = .ok (.aload_n 0, 1) := by decide +kernel
theorem dX9_highestNamed_15 : decode cX9_highestNamed 15 = .ok (.getfield 26, 3) := by decide +kernel
theorem dX9_highestNamed_18 : decode cX9_highestNamed 18 = .ok (.if_icmp .lt 41, 3) := by decide +kernel
theorem dX9_highestNamed_21 : decode cX9_highestNamed 21 = .ok (.aload_n 2, 1) := by decide +kernel
theorem dX9_highestNamed_22 : decode cX9_highestNamed 22 = .ok (.aload_n 0, 1) := by decide +kernel
theorem dX9_highestNamed_23 : decode cX9_highestNamed 23 = .ok (.iload 4, 2) := by decide +kernel
theorem dX9_highestNamed_25 : decode cX9_highestNamed 25 = .ok (.invokevirtual 54, 3) := by decide +kernel
theorem dX9_highestNamed_28 : decode cX9_highestNamed 28 = .ok (.invokevirtual 57, 3) := by decide +kernel
theorem dX9_highestNamed_31 : decode cX9_highestNamed 31 = .ok (.astore 5, 2) := by decide +kernel
theorem dX9_highestNamed_33 : decode cX9_highestNamed 33 = .ok (.aload 5, 2) := by decide +kernel
theorem dX9_highestNamed_35 : decode cX9_highestNamed 35 = .ok (.ifnull 18, 3) := by decide +kernel
theorem dX9_highestNamed_38 : decode cX9_highestNamed 38 = .ok (.aload 5, 2) := by decide +kernel
theorem dX9_highestNamed_40 : decode cX9_highestNamed 40 = .ok (.getfield 63, 3) := by decide +kernel
theorem dX9_highestNamed_43 : decode cX9_highestNamed 43 = .ok (.aload_n 1, 1) := by decide +kernel
theorem dX9_highestNamed_44 : decode cX9_highestNamed 44 = .ok (.invokevirtual 69, 3) := by decide +kernel
theorem dX9_highestNamed_47 : decode cX9_highestNamed 47 = .ok (.ifCond .eq 6, 3) := by decide +kernel
theorem dX9_highestNamed_50 : decode cX9_highestNamed 50 = .ok (.iload 4, 2) := by decide +kernel
theorem dX9_highestNamed_52 : decode cX9_highestNamed 52 = .ok (.ireturn, 1) := by decide +kernel
theorem dX9_highestNamed_53 : decode cX9_highestNamed 53 = .ok (.iinc 4 (-1), 3) := by decide +kernel
theorem dX9_highestNamed_56 : decode cX9_highestNamed 56 = .ok (.goto (-44), 3) := by decide +kernel
theorem dX9_highestNamed_59 : decode cX9_highestNamed 59 = .ok (.bipush (-9), 2) := by decide +kernel
theorem dX9_highestNamed_61 : decode cX9_highestNamed 61 = .ok (.ireturn, 1) := by decide +kernel
set_option maxRecDepth 20000 in
theorem ggX10_init_X9_init : GoodIn wsX10_init wsX9_init := goodIn_r _ [19, 20, 2, 3, 21, 22, 23, 24, 25, 43, 44, 45, 46, 47, 48, 49] rfl (by decide +kernel)
set_option maxRecDepth 20000 in
theorem gX10_init_X9_init_n11 : GoodIn wsX10_init (wsX9_init) := ggX10_init_X9_init
set_option maxRecDepth 20000 in
theorem ggX10_init_X8_init : GoodIn wsX10_init wsX8_init := goodIn_r _ [27, 28, 2, 3, 29, 13, 14, 30, 21, 31, 32, 33, 34, 35, 36, 37, 38, 39, 40, 41, 63, 64, 58, 59, 60, 61, 62] rfl (by decide +kernel)
set_option maxRecDepth 20000 in
theorem gX10_init_X8_init_n20 : GoodIn wsX10_init (wsX8_init) := ggX10_init_X8_init
set_option maxRecDepth 20000 in
theorem ggX10_init_X6_init : GoodIn wsX10_init wsX6_init := goodIn_r _ [35, 36, 2, 3, 37, 38, 39, 40, 21, 41, 63, 64] rfl (by decide +kernel)
set_option maxRecDepth 20000 in
theorem gX10_init_X6_init : GoodIn wsX10_init (wsX6_init) := ggX10_init_X6_init
theorem dX10_init_0 : decode cX10_init 0 = .ok (.aload_n 0, 1) := by decide +kernel
theorem dX10_init_1 : decode cX10_init 1 = .ok (.invokespecial 3, 3) := by decide +kernel
theorem dX10_init_4 : decode cX10_init 4 = .ok (.aload_n 0, 1) := by decide +kernel
theorem dX10_init_5 : decode cX10_init 5 = .ok (.new 9, 3) := by decide +kernel
theorem dX10_init_8 : decode cX10_init 8 = .ok (.dup, 1) := by decide +kernel
theorem dX10_init_9 : decode cX10_init 9 = .ok (.invokespecial 11, 3) := by decide +kernel
theorem dX10_init_12 : decode cX10_init 12 = .ok (.putfield 12, 3) := by decide +kernel
theorem dX10_init_15 : decode cX10_init 15 = .ok (.aload_n 0, 1) := by decide +kernel
theorem dX10_init_16 : decode cX10_init 16 = .ok (.new 18, 3) := by decide +kernel
theorem dX10_init_19 : decode cX10_init 19 = .ok (.dup, 1) := by decide +kernel
theorem dX10_init_20 : decode cX10_init 20 = .ok (.invokespecial 20, 3) := by decide +kernel
theorem dX10_init_23 : decode cX10_init 23 = .ok (.putfield 21, 3) := by decide +kernel
theorem dX10_init_26 : decode cX10_init 26 = .ok (.aload_n 0, 1) := by decide +kernel
theorem dX10_init_27 : decode cX10_init 27 = .ok (.new 25, 3) := by decide +kernel
theorem dX10_init_30 : decode cX10_init 30 = .ok (.dup, 1) := by decide +kernel
theorem dX10_init_31 : decode cX10_init 31 = .ok (.bipush 32, 2) := by decide +kernel
theorem dX10_init_33 : decode cX10_init 33 = .ok (.invokespecial 27, 3) := by decide +kernel
theorem dX10_init_36 : decode cX10_init 36 = .ok (.putfield 30, 3) := by decide +kernel
theorem dX10_init_39 : decode cX10_init 39 = .ok (.aload_n 0, 1) := by decide +kernel
theorem dX10_init_40 : decode cX10_init 40 = .ok (.new 25, 3) := by decide +kernel
theorem dX10_init_43 : decode cX10_init 43 = .ok (.dup, 1) := by decide +kernel
theorem dX10_init_44 : decode cX10_init 44 = .ok (.bipush 96, 2) := by decide +kernel
theorem dX10_init_46 : decode cX10_init 46 = .ok (.invokespecial 27, 3) := by decide +kernel
theorem dX10_init_49 : decode cX10_init 49 = .ok (.putfield 34, 3) := by decide +kernel
theorem dX10_init_52 : decode cX10_init 52 = .ok (.aload_n 0, 1) := by decide +kernel
theorem dX10_init_53 : decode cX10_init 53 = .ok (.aload_n 1, 1) := by decide +kernel
theorem dX10_init_54 : decode cX10_init 54 = .ok (.putfield 37, 3) := by decide +kernel
theorem dX10_init_57 : decode cX10_init 57 = .ok (.return_, 1) := by decide +kernel
set_option maxRecDepth 20000 in
theorem ggX10_restart_X9_restart : GoodIn wsX10_restart wsX9_restart := goodIn_r _ [9, 10, 11, 12, 13, 36, 37, 38, 39, 40, 41, 42] rfl (by decide +kernel)
set_option maxRecDepth 20000 in
theorem gX10_restart_X9_restart : GoodIn wsX10_restart (wsV RX10 41 RX9 yX9_restart wsX9_restart) := goodIn_app (goodIn_of _ (by decide +kernel)) ggX10_restart_X9_restart
set_option maxRecDepth 20000 in
theorem ggX10_restart_X8_restart : GoodIn wsX10_restart wsX8_restart := goodIn_r _ [18, 19, 20, 21, 22, 23, 24, 25, 26, 27, 43, 44, 45, 46, 47, 48, 49] rfl (by decide +kernel)
set_option maxRecDepth 20000 in
theorem gX10_restart_X8_restart : GoodIn wsX10_restart (wsV RX10 44 RX8 yX8_restart wsX8_restart) := goodIn_app (goodIn_of _ (by decide +kernel)) ggX10_restart_X8_restart
theorem dX10_restart_0 : decode cX10_restart 0 = .ok (.aload_n 0, 1) := by decide +kernel
theorem dX10_restart_1 : decode cX10_restart 1 = .ok (.aload_n 1, 1) := by decide +kernel
theorem dX10_restart_2 : decode cX10_restart 2 = .ok (.putfield 37, 3) := by decide +kernel
theorem dX10_restart_5 : decode cX10_restart 5 = .ok (.aload_n 0, 1) := by decide +kernel
theorem dX10_restart_6 : decode cX10_restart 6 = .ok (.getfield 12, 3) := by decide +kernel
theorem dX10_restart_9 : decode cX10_restart 9 = .ok (.invokevirtual 41, 3) := by decide +kernel
theorem dX10_restart_12 : decode cX10_restart 12 = .ok (.aload_n 0, 1) := by decide +kernel
theorem dX10_restart_13 : decode cX10_restart 13 = .ok (.getfield 21, 3) := by decide +kernel
theorem dX10_restart_16 : decode cX10_restart 16 = .ok (.invokevirtual 44, 3) := by decide +kernel
theorem dX10_restart_19 : decode cX10_restart 19 = .ok (.aload_n 0, 1) := by decide +kernel
theorem dX10_restart_20 : decode cX10_restart 20 = .ok (.iconst 0, 1) := by decide +kernel
theorem dX10_restart_21 : decode cX10_restart 21 = .ok (.putfield 45, 3) := by decide +kernel
theorem dX10_restart_24 : decode cX10_restart 24 = .ok (.return_, 1) := by decide +kernel
set_option maxRecDepth 20000 in
theorem ggX10_copyOf_X9_copyOf : GoodIn wsX10_copyOf wsX9_copyOf := goodIn_r _ [9, 10, 11, 12, 13, 14, 15, 16, 42, 43, 44, 45, 46, 47, 48] rfl (by decide +kernel)
set_option maxRecDepth 20000 in
theorem gX10_copyOf_X9_copyOf : GoodIn wsX10_copyOf (wsV RX10 49 RX9 yX9_copyOf wsX9_copyOf) := goodIn_app (goodIn_of _ (by decide +kernel)) ggX10_copyOf_X9_copyOf
set_option maxRecDepth 20000 in
theorem ggX10_copyOf_X8_copyOf : GoodIn wsX10_copyOf wsX8_copyOf := goodIn_r _ [21, 22, 23, 24, 25, 26, 27, 28, 29, 30, 31, 32, 33, 49, 50, 51, 52, 53, 54, 55] rfl (by decide +kernel)
set_option maxRecDepth 20000 in
theorem gX10_copyOf_X8_copyOf : GoodIn wsX10_copyOf (wsV RX10 53 RX8 yX8_copyOf wsX8_copyOf) := goodIn_app (goodIn_of _ (by decide +kernel)) ggX10_copyOf_X8_copyOf
theorem dX10_copyOf_0 : decode cX10_copyOf 0 = .ok (.aload_n 0, 1) := by decide +kernel
theorem dX10_copyOf_1 : decode cX10_copyOf 1 = .ok (.aload_n 1, 1) := by decide +kernel
theorem dX10_copyOf_2 : decode cX10_copyOf 2 = .ok (.getfield 37, 3) := by decide +kernel
theorem dX10_copyOf_5 : decode cX10_copyOf 5 = .ok (.putfield 37, 3) := by decide +kernel
theorem dX10_copyOf_8 : decode cX10_copyOf 8 = .ok (.aload_n 0, 1) := by decide +kernel
theorem dX10_copyOf_9 : decode cX10_copyOf 9 = .ok (.getfield 12, 3) := by decide +kernel
theorem dX10_copyOf_12 : decode cX10_copyOf 12 = .ok (.aload_n 1, 1) := by decide +kernel
theorem dX10_copyOf_13 : decode cX10_copyOf 13 = .ok (.getfield 12, 3) := by decide +kernel
theorem dX10_copyOf_16 : decode cX10_copyOf 16 = .ok (.invokevirtual 49, 3) := by decide +kernel
theorem dX10_copyOf_19 : decode cX10_copyOf 19 = .ok (.aload_n 0, 1) := by decide +kernel
theorem dX10_copyOf_20 : decode cX10_copyOf 20 = .ok (.getfield 21, 3) := by decide +kernel
theorem dX10_copyOf_23 : decode cX10_copyOf 23 = .ok (.aload_n 1, 1) := by decide +kernel
theorem dX10_copyOf_24 : decode cX10_copyOf 24 = .ok (.getfield 21, 3) := by decide +kernel
theorem dX10_copyOf_27 : decode cX10_copyOf 27 = .ok (.invokevirtual 53, 3) := by decide +kernel
theorem dX10_copyOf_30 : decode cX10_copyOf 30 = .ok (.aload_n 0, 1) := by decide +kernel
theorem dX10_copyOf_31 : decode cX10_copyOf 31 = .ok (.aload_n 1, 1) := by decide +kernel
theorem dX10_copyOf_32 : decode cX10_copyOf 32 = .ok (.getfield 45, 3) := by decide +kernel
theorem dX10_copyOf_35 : decode cX10_copyOf 35 = .ok (.putfield 45, 3) := by decide +kernel
theorem dX10_copyOf_38 : decode cX10_copyOf 38 = .ok (.return_, 1) := by decide +kernel
set_option maxRecDepth 20000 in
theorem ggX10_changeCapacity_X9_canShrink : GoodIn wsX10_changeCapacity wsX9_canShrink := goodIn_r _ [12, 13, 14, 15, 11, 16, 17, 18, 19, 20, 21, 22, 23, 24, 25, 26, 27, 28, 29, 85, 86, 87, 88, 89, 90, 91] rfl (by decide +kernel)
set_option maxRecDepth 20000 in
theorem gX10_changeCapacity_X9_canShrink : GoodIn wsX10_changeCapacity (wsV RX10 62 RX9 yX9_canShrink wsX9_canShrink) := goodIn_app (goodIn_of _ (by decide +kernel)) ggX10_changeCapacity_X9_canShrink
set_option maxRecDepth 20000 in
theorem ggX10_changeCapacity_X6_empty : GoodIn wsX10_changeCapacity wsX6_empty := goodIn_r _ [34, 35, 92, 93] rfl (by decide +kernel)
set_option maxRecDepth 20000 in
theorem gX10_changeCapacity_X6_empty : GoodIn wsX10_changeCapacity (wsV RX10 66 RX6 yX6_empty wsX6_empty) := goodIn_app (goodIn_of _ (by decide +kernel)) ggX10_changeCapacity_X6_empty
set_option maxRecDepth 20000 in
theorem ggX10_changeCapacity_X6_addInteger : GoodIn wsX10_changeCapacity wsX6_addInteger := goodIn_r _ [39, 40, 41, 42, 33, 43, 35, 44, 92, 93] rfl (by decide +kernel)
set_option maxRecDepth 20000 in
theorem gX10_changeCapacity_X6_addInteger : GoodIn wsX10_changeCapacity (wsV RX10 69 RX6 yX6_addInteger wsX6_addInteger) := goodIn_app (goodIn_of _ (by decide +kernel)) ggX10_changeCapacity_X6_addInteger
set_option maxRecDepth 20000 in
theorem ggX10_changeCapacity_X8_hasRoom : GoodIn wsX10_changeCapacity wsX8_hasRoom := goodIn_r _ [49, 50, 51, 94, 95, 96, 97, 98, 92, 93] rfl (by decide +kernel)
set_option maxRecDepth 20000 in
theorem gX10_changeCapacity_X8_hasRoom : GoodIn wsX10_changeCapacity (wsV RX10 73 RX8 yX8_hasRoom wsX8_hasRoom) := goodIn_app (goodIn_of _ (by decide +kernel)) ggX10_changeCapacity_X8_hasRoom
set_option maxRecDepth 20000 in
theorem ggX10_changeCapacity_X8_write : GoodIn wsX10_changeCapacity wsX8_write := goodIn_r _ [55, 50, 56, 57, 58, 51, 59, 60, 61, 33, 62, 35, 44, 94, 95, 96, 97, 98, 92, 93] rfl (by decide +kernel)
set_option maxRecDepth 20000 in
theorem gX10_changeCapacity_X8_write : GoodIn wsX10_changeCapacity (wsV RX10 77 RX8 yX8_write wsX8_write) := goodIn_app (goodIn_of _ (by decide +kernel)) ggX10_changeCapacity_X8_write
set_option maxRecDepth 20000 in
theorem ggX10_changeCapacity_X9_tooMany : GoodIn wsX10_changeCapacity wsX9_tooMany := goodIn_r _ [16, 17, 18, 19, 20, 85, 86, 87, 88, 89, 90, 91] rfl (by decide +kernel)
set_option maxRecDepth 20000 in
theorem gX10_changeCapacity_X9_tooMany : GoodIn wsX10_changeCapacity (wsV RX10 81 RX9 yX9_tooMany wsX9_tooMany) := goodIn_app (goodIn_of _ (by decide +kernel)) ggX10_changeCapacity_X9_tooMany
set_option maxRecDepth 20000 in
theorem ggX10_changeCapacity_X9_changeCapacity : GoodIn wsX10_changeCapacity wsX9_changeCapacity := goodIn_r _ [67, 68, 69, 70, 71, 11, 72, 18, 19, 17, 20, 85, 86, 87, 88, 89, 90, 91] rfl (by decide +kernel)
set_option maxRecDepth 20000 in
theorem gX10_changeCapacity_X9_changeCapacity : GoodIn wsX10_changeCapacity (wsV RX10 85 RX9 yX9_changeCapacity wsX9_changeCapacity) := goodIn_app (goodIn_of _ (by decide +kernel)) ggX10_changeCapacity_X9_changeCapacity
theorem dX10_changeCapacity_0 : decode cX10_changeCapacity 0 = .ok (.iload_n 1, 1) := by decide +kernel
theorem dX10_changeCapacity_1 : decode cX10_changeCapacity 1 = .ok (.ifCond .lt 14, 3) := by decide +kernel
theorem dX10_changeCapacity_4 : decode cX10_changeCapacity 4 = .ok (.iload_n 1, 1) := by decide +kernel
theorem dX10_changeCapacity_5 : decode cX10_changeCapacity 5 = .ok (.aload_n 0, 1) := by decide +kernel
theorem dX10_changeCapacity_6 : decode cX10_changeCapacity 6 = .ok (.getfield 37, 3) := by decide +kernel
theorem dX10_changeCapacity_9 : decode cX10_changeCapacity 9 = .ok (.getfield 56, 3) := by decide +kernel
theorem dX10_changeCapacity_12 : decode cX10_changeCapacity 12 = .ok (.if_icmp .le 5, 3) := by decide +kernel
theorem dX10_changeCapacity_15 : decode cX10_changeCapacity 15 = .ok (.iconst (-1), 1) := by decide +kernel
theorem dX10_changeCapacity_16 : decode cX10_changeCapacity 16 = .ok (.ireturn, 1) := by decide +kernel
theorem dX10_changeCapacity_17 : decode cX10_changeCapacity 17 = .ok (.iload_n 1, 1) := by decide +kernel
theorem dX10_changeCapacity_18 : decode cX10_changeCapacity 18 = .ok (.aload_n 0, 1) := by decide +kernel
theorem dX10_changeCapacity_19 : decode cX10_changeCapacity 19 = .ok (.getfield 12, 3) := by decide +kernel
theorem dX10_changeCapacity_22 : decode cX10_changeCapacity 22 = .ok (.getfield 61, 3) := by decide +kernel
theorem dX10_changeCapacity_25 : decode cX10_changeCapacity 25 = .ok (.if_icmp .eq 18, 3) := by decide +kernel
theorem dX10_changeCapacity_28 : decode cX10_changeCapacity 28 = .ok (.aload_n 0, 1) := by decide +kernel
theorem dX10_changeCapacity_29 : decode cX10_changeCapacity 29 = .ok (.getfield 12, 3) := by decide +kernel
theorem dX10_changeCapacity_32 : decode cX10_changeCapacity 32 = .ok (.iload_n 1, 1) := by decide +kernel
theorem dX10_changeCapacity_33 : decode cX10_changeCapacity 33 = .ok (.aload_n 0, 1) := by decide +kernel
theorem dX10_changeCapacity_34 : decode cX10_changeCapacity 34 = .ok (.getfield 45, 3) := by decide +kernel
theorem dX10_changeCapacity_37 : decode cX10_changeCapacity 37 = .ok (.invokevirtual 62, 3) := by decide +kernel
theorem dX10_changeCapacity_40 : decode cX10_changeCapacity 40 = .ok (.ifCond .ne 6, 3) := by decide +kernel
theorem dX10_changeCapacity_43 : decode cX10_changeCapacity 43 = .ok (.bipush (-2), 2) := by decide +kernel
theorem dX10_changeCapacity_45 : decode cX10_changeCapacity 45 = .ok (.ireturn, 1) := by decide +kernel
theorem dX10_changeCapacity_46 : decode cX10_changeCapacity 46 = .ok (.aload_n 0, 1) := by decide +kernel
theorem dX10_changeCapacity_47 : decode cX10_changeCapacity 47 = .ok (.getfield 30, 3) := by decide +kernel
theorem dX10_changeCapacity_50 : decode cX10_changeCapacity 50 = .ok (.invokevirtual 66, 3) := by decide +kernel
theorem dX10_changeCapacity_53 : decode cX10_changeCapacity 53 = .ok (.aload_n 0, 1) := by decide +kernel
theorem dX10_changeCapacity_54 : decode cX10_changeCapacity 54 = .ok (.getfield 30, 3) := by decide +kernel
theorem dX10_changeCapacity_57 : decode cX10_changeCapacity 57 = .ok (.bipush 32, 2) := by decide +kernel
theorem dX10_changeCapacity_59 : decode cX10_changeCapacity 59 = .ok (.iconst 5, 1) := by decide +kernel
theorem dX10_changeCapacity_60 : decode cX10_changeCapacity 60 = .ok (.iload_n 1, 1) := by decide +kernel
theorem dX10_changeCapacity_61 : decode cX10_changeCapacity 61 = .ok (.invokevirtual 69, 3) := by decide +kernel
theorem dX10_changeCapacity_64 : decode cX10_changeCapacity 64 = .ok (.aload_n 0, 1) := by decide +kernel
theorem dX10_changeCapacity_65 : decode cX10_changeCapacity 65 = .ok (.getfield 21, 3) := by decide +kernel
theorem dX10_changeCapacity_68 : decode cX10_changeCapacity 68 = .ok (.aload_n 0, 1) := by decide +kernel
theorem dX10_changeCapacity_69 : decode cX10_changeCapacity 69 = .ok (.getfield 30, 3) := by decide +kernel
theorem dX10_changeCapacity_72 : decode cX10_changeCapacity 72 = .ok (.invokevirtual 73, 3) := by decide +kernel
theorem dX10_changeCapacity_75 : decode cX10_changeCapacity 75 = .ok (.ifCond .ne 6, 3) := by decide +kernel
theorem dX10_changeCapacity_78 : decode cX10_changeCapacity 78 = .ok (.bipush (-3), 2) := by decide +kernel
theorem dX10_changeCapacity_80 : decode cX10_changeCapacity 80 = .ok (.ireturn, 1) := by decide +kernel
theorem dX10_changeCapacity_81 : decode cX10_changeCapacity 81 = .ok (.aload_n 0, 1) := by decide +kernel
theorem dX10_changeCapacity_82 : decode cX10_changeCapacity 82 = .ok (.getfield 21, 3) := by decide +kernel
theorem dX10_changeCapacity_85 : decode cX10_changeCapacity 85 = .ok (.aload_n 0, 1) := by decide +kernel
theorem dX10_changeCapacity_86 : decode cX10_changeCapacity 86 = .ok (.getfield 30, 3) := by decide +kernel
theorem dX10_changeCapacity_89 : decode cX10_changeCapacity 89 = .ok (.iconst (-1), 1) := by decide +kernel
theorem dX10_changeCapacity_90 : decode cX10_changeCapacity 90 = .ok (.iload_n 1, 1) := by decide +kernel
theorem dX10_changeCapacity_91 : decode cX10_changeCapacity 91 = .ok (.isub, 1) := by decide +kernel
theorem dX10_changeCapacity_92 : decode cX10_changeCapacity 92 = .ok (.invokevirtual 77, 3) := by decide +kernel
theorem dX10_changeCapacity_95 : decode cX10_changeCapacity 95 = .ok (.aload_n 0, 1) := by decide +kernel
theorem dX10_changeCapacity_96 : decode cX10_changeCapacity 96 = .ok (.getfield 12, 3) := by decide +kernel
theorem dX10_changeCapacity_99 : decode cX10_changeCapacity 99 = .ok (.iload_n 1, 1) := by decide +kernel
theorem dX10_changeCapacity_100 : decode cX10_changeCapacity 100 = .ok (.invokevirtual 81, 3) := by decide +kernel
theorem dX10_changeCapacity_103 : decode cX10_changeCapacity 103 = .ok (.istore_n 2, 1) := by decide +kernel
theorem dX10_changeCapacity_104 : decode cX10_changeCapacity 104 = .ok (.aload_n 0, 1) := by decide +kernel
theorem dX10_changeCapacity_105 : decode cX10_changeCapacity 105 = .ok (.getfield 12, 3) := by decide +kernel
theorem dX10_changeCapacity_108 : decode cX10_changeCapacity 108 = .ok (.iload_n 1, 1) := by decide +kernel
theorem dX10_changeCapacity_109 : decode cX10_changeCapacity 109 = .ok (.invokevirtual 85, 3) := by decide +kernel
theorem dX10_changeCapacity_112 : decode cX10_changeCapacity 112 = .ok (.iload_n 2, 1) := by decide +kernel
theorem dX10_changeCapacity_113 : decode cX10_changeCapacity 113 = .ok (.ireturn, 1) := by decide +kernel
set_option maxRecDepth 20000 in
theorem ggX10_insertField_X3_at : GoodIn wsX10_insertField wsX3_at := goodIn_r _ [8, 9, 10, 138, 139] rfl (by decide +kernel)
set_option maxRecDepth 20000 in
theorem gX10_insertField_X3_at : GoodIn wsX10_insertField (wsV RX10 92 RX3 yX3_at wsX3_at) := goodIn_app (goodIn_of _ (by decide +kernel)) ggX10_insertField_X3_at
set_option maxRecDepth 20000 in
theorem ggX10_insertField_X6_empty : GoodIn wsX10_insertField wsX6_empty := goodIn_r _ [15, 16, 140, 141] rfl (by decide +kernel)
set_option maxRecDepth 20000 in
theorem gX10_insertField_X6_empty : GoodIn wsX10_insertField (wsV RX10 66 RX6 yX6_empty wsX6_empty) := goodIn_app (goodIn_of _ (by decide +kernel)) ggX10_insertField_X6_empty
set_option maxRecDepth 20000 in
theorem ggX10_insertField_X10_formInsertion : GoodIn wsX10_insertField wsX10_formInsertion := goodIn_r _ [21, 1, 22, 23, 24, 2, 25, 3, 26, 27, 28, 29, 7, 30, 9, 31, 32, 5, 6, 8, 10, 33, 34, 35, 14, 36, 16, 37, 38, 39, 40, 41, 42, 43, 44, 45, 46, 47, 48, 49, 50, 51, 52, 53, 54, 55, 56, 57, 58, 59, 60, 61, 62, 63, 64, 65, 66, 67, 68, 69, 70, 71, 72, 126, 127, 128, 129, 130, 131, 132, 133, 134, 135, 136, 137, 142, 143, 144, 145, 146, 147, 148, 149, 150, 138, 139, 140, 141] rfl (by decide +kernel)
set_option maxRecDepth 20000 in
theorem gX10_insertField_X10_formInsertion : GoodIn wsX10_insertField (wsV RX10 98 RX10 yX10_formInsertion wsX10_formInsertion) := goodIn_app (goodIn_of _ (by decide +kernel)) ggX10_insertField_X10_formInsertion
set_option maxRecDepth 20000 in
theorem ggX10_insertField_X2_entrySize : GoodIn wsX10_insertField wsX2_entrySize := goodIn_r _ [77, 78, 79, 80, 142, 143, 140, 141] rfl (by decide +kernel)
set_option maxRecDepth 20000 in
theorem gX10_insertField_X2_entrySize : GoodIn wsX10_insertField (wsV RX10 102 RX2 yX2_entrySize wsX2_entrySize) := goodIn_app (goodIn_of _ (by decide +kernel)) ggX10_insertField_X2_entrySize
set_option maxRecDepth 20000 in
theorem ggX10_insertField_X10_insert : GoodIn wsX10_insertField wsX10_insert := goodIn_r _ [84, 23, 85, 86, 3, 87, 88, 89, 41, 90, 91, 92, 93, 94, 95, 96, 48, 43, 97, 98, 99, 100, 101, 44, 45, 46, 47, 102, 103, 104, 105, 106, 107, 108, 109, 110, 111, 112, 113, 114, 115, 116, 117, 70, 71, 14, 72, 16, 37, 118, 119, 120, 121, 54, 122, 123, 124, 125, 126, 127, 128, 129, 130, 131, 132, 133, 144, 145, 146, 147, 148, 149, 150, 151, 152, 153, 154, 155, 140, 141] rfl (by decide +kernel)
set_option maxRecDepth 20000 in
theorem gX10_insertField_X10_insert : GoodIn wsX10_insertField (wsV RX10 108 RX10 yX10_insert wsX10_insert) := goodIn_app (goodIn_of _ (by decide +kernel)) ggX10_insertField_X10_insert
theorem dX10_insertField_0 : decode cX10_insertField 0 = .ok (.aload_n 0, 1) := by decide +kernel
theorem dX10_insertField_1 : decode cX10_insertField 1 = .ok (.getfield 37, 3) := by decide +kernel
theorem dX10_insertField_4 : decode cX10_insertField 4 = .ok (.getfield 88, 3) := by decide +kernel
theorem dX10_insertField_7 : decode cX10_insertField 7 = .ok (.iload_n 1, 1) := by decide +kernel
theorem dX10_insertField_8 : decode cX10_insertField 8 = .ok (.invokevirtual 92, 3) := by decide +kernel
theorem dX10_insertField_11 : decode cX10_insertField 11 = .ok (.astore_n 2, 1) := by decide +kernel
theorem dX10_insertField_12 : decode cX10_insertField 12 = .ok (.aload_n 2, 1) := by decide +kernel
theorem dX10_insertField_13 : decode cX10_insertField 13 = .ok (.ifnonnull 5, 3) := by decide +kernel
theorem dX10_insertField_16 : decode cX10_insertField 16 = .ok (.iconst (-1), 1) := by decide +kernel
theorem dX10_insertField_17 : decode cX10_insertField 17 = .ok (.ireturn, 1) := by decide +kernel
theorem dX10_insertField_18 : decode cX10_insertField 18 = .ok (.aload_n 0, 1) := by decide +kernel
theorem dX10_insertField_19 : decode cX10_insertField 19 = .ok (.getfield 30, 3) := by decide +kernel
theorem dX10_insertField_22 : decode cX10_insertField 22 = .ok (.invokevirtual 66, 3) := by decide +kernel
theorem dX10_insertField_25 : decode cX10_insertField 25 = .ok (.aload_n 0, 1) := by decide +kernel
theorem dX10_insertField_26 : decode cX10_insertField 26 = .ok (.aload_n 2, 1) := by decide +kernel
theorem dX10_insertField_27 : decode cX10_insertField 27 = .ok (.invokevirtual 98, 3) := by decide +kernel
theorem dX10_insertField_30 : decode cX10_insertField 30 = .ok (.aload_n 0, 1) := by decide +kernel
theorem dX10_insertField_31 : decode cX10_insertField 31 = .ok (.iload_n 1, 1) := by decide +kernel
theorem dX10_insertField_32 : decode cX10_insertField 32 = .ok (.aload_n 2, 1) := by decide +kernel
theorem dX10_insertField_33 : decode cX10_insertField 33 = .ok (.invokevirtual 102, 3) := by decide +kernel
theorem dX10_insertField_36 : decode cX10_insertField 36 = .ok (.invokevirtual 108, 3) := by decide +kernel
theorem dX10_insertField_39 : decode cX10_insertField 39 = .ok (.ireturn, 1) := by decide +kernel
set_option maxRecDepth 20000 in
theorem ggX10_formInsertion_X3_lowestNamed : GoodIn wsX10_formInsertion wsX3_lowestNamed := goodIn_r _ [13, 14, 15, 16, 17, 18, 12, 19, 20, 21, 22, 23, 24, 25, 26, 27, 84, 85, 75, 76, 86, 87] rfl (by decide +kernel)
set_option maxRecDepth 20000 in
theorem gX10_formInsertion_X3_lowestNamed : GoodIn wsX10_formInsertion (wsV RX10 115 RX3 yX3_lowestNamed wsX3_lowestNamed) := goodIn_app (goodIn_of _ (by decide +kernel)) ggX10_formInsertion_X3_lowestNamed
set_option maxRecDepth 20000 in
theorem ggX10_formInsertion_X9_highestNamed : GoodIn wsX10_formInsertion wsX9_highestNamed := goodIn_r _ [32, 33, 34, 35, 36, 37, 38, 39, 40, 41, 42, 31, 43, 44, 45, 17, 18, 12, 19, 14, 20, 46, 22, 23, 24, 25, 26, 27, 77, 78, 79, 80, 81, 82, 83, 75, 76, 84, 85, 86, 87] rfl (by decide +kernel)
set_option maxRecDepth 20000 in
theorem gX10_formInsertion_X9_highestNamed : GoodIn wsX10_formInsertion (wsV RX10 125 RX9 yX9_highestNamed wsX9_highestNamed) := goodIn_app (goodIn_of _ (by decide +kernel)) ggX10_formInsertion_X9_highestNamed
set_option maxRecDepth 20000 in
theorem ggX10_formInsertion_X6_addInteger : GoodIn wsX10_formInsertion wsX6_addInteger := goodIn_r _ [50, 51, 52, 53, 24, 54, 26, 27, 86, 87] rfl (by decide +kernel)
set_option maxRecDepth 20000 in
theorem gX10_formInsertion_X6_addInteger : GoodIn wsX10_formInsertion (wsV RX10 69 RX6 yX6_addInteger wsX6_addInteger) := goodIn_app (goodIn_of _ (by decide +kernel)) ggX10_formInsertion_X6_addInteger
set_option maxRecDepth 20000 in
theorem ggX10_formInsertion_X6_addWord : GoodIn wsX10_formInsertion wsX6_addWord := goodIn_r _ [58, 26, 51, 52, 53, 24, 54, 27, 59, 60, 61, 62, 86, 87] rfl (by decide +kernel)
set_option maxRecDepth 20000 in
theorem gX10_formInsertion_X6_addWord : GoodIn wsX10_formInsertion (wsV RX10 129 RX6 yX6_addWord wsX6_addWord) := goodIn_app (goodIn_of _ (by decide +kernel)) ggX10_formInsertion_X6_addWord
theorem dX10_formInsertion_0 : decode cX10_formInsertion 0 = .ok (.aload_n 0, 1) := by decide +kernel
theorem dX10_formInsertion_1 : decode cX10_formInsertion 1 = .ok (.getfield 37, 3) := by decide +kernel
theorem dX10_formInsertion_4 : decode cX10_formInsertion 4 = .ok (.getfield 112, 3) := by decide +kernel
theorem dX10_formInsertion_7 : decode cX10_formInsertion 7 = .ok (.aload_n 1, 1) := by decide +kernel
theorem dX10_formInsertion_8 : decode cX10_formInsertion 8 = .ok (.invokevirtual 115, 3) := by decide +kernel
theorem dX10_formInsertion_11 : decode cX10_formInsertion 11 = .ok (.istore_n 2, 1) := by decide +kernel
theorem dX10_formInsertion_12 : decode cX10_formInsertion 12 = .ok (.aload_n 0, 1) := by decide +kernel
theorem dX10_formInsertion_13 : decode cX10_formInsertion 13 = .ok (.getfield 12, 3) := by decide +kernel
theorem dX10_formInsertion_16 : decode cX10_formInsertion 16 = .ok (.aload_n 1, 1) := by decide +kernel
theorem dX10_formInsertion_17 : decode cX10_formInsertion 17 = .ok (.getfield 119, 3) := by decide +kernel
theorem dX10_formInsertion_20 : decode cX10_formInsertion 20 = .ok (.aload_n 0, 1) := by decide +kernel
theorem dX10_formInsertion_21 : decode cX10_formInsertion 21 = .ok (.getfield 37, 3) := by decide +kernel
theorem dX10_formInsertion_24 : decode cX10_formInsertion 24 = .ok (.getfield 88, 3) := by decide +kernel
theorem dX10_formInsertion_27 : decode cX10_formInsertion 27 = .ok (.aload_n 0, 1) := by decide +kernel
theorem dX10_formInsertion_28 : decode cX10_formInsertion 28 = .ok (.getfield 12, 3) := by decide +kernel
theorem dX10_formInsertion_31 : decode cX10_formInsertion 31 = .ok (.getfield 122, 3) := by decide +kernel
theorem dX10_formInsertion_34 : decode cX10_formInsertion 34 = .ok (.invokevirtual 125, 3) := by decide +kernel
theorem dX10_formInsertion_37 : decode cX10_formInsertion 37 = .ok (.istore_n 3, 1) := by decide +kernel
theorem dX10_formInsertion_38 : decode cX10_formInsertion 38 = .ok (.iload_n 2, 1) := by decide +kernel
theorem dX10_formInsertion_39 : decode cX10_formInsertion 39 = .ok (.ifCond .lt 19, 3) := by decide +kernel
theorem dX10_formInsertion_42 : decode cX10_formInsertion 42 = .ok (.aload_n 0, 1) := by decide +kernel
theorem dX10_formInsertion_43 : decode cX10_formInsertion 43 = .ok (.getfield 30, 3) := by decide +kernel
theorem dX10_formInsertion_46 : decode cX10_formInsertion 46 = .ok (.sipush 192, 3) := by decide +kernel
theorem dX10_formInsertion_49 : decode cX10_formInsertion 49 = .ok (.bipush 6, 2) := by decide +kernel
theorem dX10_formInsertion_51 : decode cX10_formInsertion 51 = .ok (.iload_n 2, 1) := by decide +kernel
theorem dX10_formInsertion_52 : decode cX10_formInsertion 52 = .ok (.invokevirtual 69, 3) := by decide +kernel
theorem dX10_formInsertion_55 : decode cX10_formInsertion 55 = .ok (.goto 46, 3) := by decide +kernel
theorem dX10_formInsertion_58 : decode cX10_formInsertion 58 = .ok (.iload_n 3, 1) := by decide +kernel
theorem dX10_formInsertion_59 : decode cX10_formInsertion 59 = .ok (.ifCond .lt 29, 3) := by decide +kernel
theorem dX10_formInsertion_62 : decode cX10_formInsertion 62 = .ok (.aload_n 0, 1) := by decide +kernel
theorem dX10_formInsertion_63 : decode cX10_formInsertion 63 = .ok (.getfield 30, 3) := by decide +kernel
theorem dX10_formInsertion_66 : decode cX10_formInsertion 66 = .ok (.sipush 128, 3) := by decide +kernel
theorem dX10_formInsertion_69 : decode cX10_formInsertion 69 = .ok (.bipush 6, 2) := by decide +kernel
theorem dX10_formInsertion_71 : decode cX10_formInsertion 71 = .ok (.aload_n 0, 1) := by decide +kernel
theorem dX10_formInsertion_72 : decode cX10_formInsertion 72 = .ok (.getfield 12, 3) := by decide +kernel
theorem dX10_formInsertion_75 : decode cX10_formInsertion 75 = .ok (.getfield 122, 3) := by decide +kernel
theorem dX10_formInsertion_78 : decode cX10_formInsertion 78 = .ok (.iconst 1, 1) := by decide +kernel
theorem dX10_formInsertion_79 : decode cX10_formInsertion 79 = .ok (.isub, 1) := by decide +kernel
theorem dX10_formInsertion_80 : decode cX10_formInsertion 80 = .ok (.iload_n 3, 1) := by decide +kernel
theorem dX10_formInsertion_81 : decode cX10_formInsertion 81 = .ok (.isub, 1) := by decide +kernel
theorem dX10_formInsertion_82 : decode cX10_formInsertion 82 = .ok (.invokevirtual 69, 3) := by decide +kernel
theorem dX10_formInsertion_85 : decode cX10_formInsertion 85 = .ok (.goto 16, 3) := by decide +kernel
theorem dX10_formInsertion_88 : decode cX10_formInsertion 88 = .ok (.aload_n 0, 1) := by decide +kernel
theorem dX10_formInsertion_89 : decode cX10_formInsertion 89 = .ok (.getfield 30, 3) := by decide +kernel
theorem dX10_formInsertion_92 : decode cX10_formInsertion 92 = .ok (.bipush 64, 2) := by decide +kernel
theorem dX10_formInsertion_94 : decode cX10_formInsertion 94 = .ok (.aload_n 1, 1) := by decide +kernel
theorem dX10_formInsertion_95 : decode cX10_formInsertion 95 = .ok (.getfield 119, 3) := by decide +kernel
theorem dX10_formInsertion_98 : decode cX10_formInsertion 98 = .ok (.invokevirtual 129, 3) := by decide +kernel
theorem dX10_formInsertion_101 : decode cX10_formInsertion 101 = .ok (.aload_n 0, 1) := by decide +kernel
theorem dX10_formInsertion_102 : decode cX10_formInsertion 102 = .ok (.getfield 30, 3) := by decide +kernel
theorem dX10_formInsertion_105 : decode cX10_formInsertion 105 = .ok (.iconst 0, 1) := by decide +kernel
theorem dX10_formInsertion_106 : decode cX10_formInsertion 106 = .ok (.aload_n 1, 1) := by decide +kernel
theorem dX10_formInsertion_107 : decode cX10_formInsertion 107 = .ok (.getfield 133, 3) := by decide +kernel
theorem dX10_formInsertion_110 : decode cX10_formInsertion 110 = .ok (.invokevirtual 129, 3) := by decide +kernel
theorem dX10_formInsertion_113 : decode cX10_formInsertion 113 = .ok (.return_, 1) := by decide +kernel
set_option maxRecDepth 20000 in
theorem ggX10_repeatEntry_X9_has : GoodIn wsX10_repeatEntry wsX9_has := goodIn_r _ [8, 9, 10, 96, 97, 98, 99, 100, 101, 102] rfl (by decide +kernel)
set_option maxRecDepth 20000 in
theorem gX10_repeatEntry_X9_has : GoodIn wsX10_repeatEntry (wsV RX10 136 RX9 yX9_has wsX9_has) := goodIn_app (goodIn_of _ (by decide +kernel)) ggX10_repeatEntry_X9_has
set_option maxRecDepth 20000 in
theorem ggX10_repeatEntry_X6_empty : GoodIn wsX10_repeatEntry wsX6_empty := goodIn_r _ [15, 16, 103, 104] rfl (by decide +kernel)
set_option maxRecDepth 20000 in
theorem gX10_repeatEntry_X6_empty : GoodIn wsX10_repeatEntry (wsV RX10 66 RX6 yX6_empty wsX6_empty) := goodIn_app (goodIn_of _ (by decide +kernel)) ggX10_repeatEntry_X6_empty
set_option maxRecDepth 20000 in
theorem ggX10_repeatEntry_X6_addInteger : GoodIn wsX10_repeatEntry wsX6_addInteger := goodIn_r _ [20, 21, 22, 23, 14, 24, 16, 25, 103, 104] rfl (by decide +kernel)
set_option maxRecDepth 20000 in
theorem gX10_repeatEntry_X6_addInteger : GoodIn wsX10_repeatEntry (wsV RX10 69 RX6 yX6_addInteger wsX6_addInteger) := goodIn_app (goodIn_of _ (by decide +kernel)) ggX10_repeatEntry_X6_addInteger
set_option maxRecDepth 20000 in
theorem ggX10_repeatEntry_X9_fieldAt : GoodIn wsX10_repeatEntry wsX9_fieldAt := goodIn_r _ [29, 30, 96, 97, 98, 99, 100, 101, 102] rfl (by decide +kernel)
set_option maxRecDepth 20000 in
theorem gX10_repeatEntry_X9_fieldAt : GoodIn wsX10_repeatEntry (wsV RX10 140 RX9 yX9_fieldAt wsX9_fieldAt) := goodIn_app (goodIn_of _ (by decide +kernel)) ggX10_repeatEntry_X9_fieldAt
set_option maxRecDepth 20000 in
theorem ggX10_repeatEntry_X9_sizeAt : GoodIn wsX10_repeatEntry wsX9_sizeAt := goodIn_r _ [34, 35, 96, 97, 98, 99, 100, 101, 102] rfl (by decide +kernel)
set_option maxRecDepth 20000 in
theorem gX10_repeatEntry_X9_sizeAt : GoodIn wsX10_repeatEntry (wsV RX10 143 RX9 yX9_sizeAt wsX9_sizeAt) := goodIn_app (goodIn_of _ (by decide +kernel)) ggX10_repeatEntry_X9_sizeAt
set_option maxRecDepth 20000 in
theorem ggX10_repeatEntry_X10_insert : GoodIn wsX10_repeatEntry wsX10_insert := goodIn_r _ [40, 1, 41, 42, 2, 43, 44, 45, 7, 46, 47, 48, 49, 50, 51, 52, 9, 10, 35, 53, 54, 55, 56, 57, 58, 59, 60, 61, 62, 63, 64, 65, 66, 67, 68, 69, 70, 71, 72, 73, 74, 75, 76, 77, 78, 14, 79, 16, 25, 80, 81, 82, 83, 30, 84, 85, 86, 87, 88, 89, 90, 91, 92, 93, 94, 95, 96, 97, 98, 99, 100, 101, 102, 105, 106, 107, 108, 109, 103, 104] rfl (by decide +kernel)
set_option maxRecDepth 20000 in
theorem gX10_repeatEntry_X10_insert : GoodIn wsX10_repeatEntry (wsV RX10 108 RX10 yX10_insert wsX10_insert) := goodIn_app (goodIn_of _ (by decide +kernel)) ggX10_repeatEntry_X10_insert
theorem dX10_repeatEntry_0 : decode cX10_repeatEntry 0 = .ok (.aload_n 0, 1) := by decide +kernel
theorem dX10_repeatEntry_1 : decode cX10_repeatEntry 1 = .ok (.getfield 12, 3) := by decide +kernel
theorem dX10_repeatEntry_4 : decode cX10_repeatEntry 4 = .ok (.iload_n 1, 1) := by decide +kernel
theorem dX10_repeatEntry_5 : decode cX10_repeatEntry 5 = .ok (.invokevirtual 136, 3) := by decide +kernel
theorem dX10_repeatEntry_8 : decode cX10_repeatEntry 8 = .ok (.ifCond .ne 5, 3) := by decide +kernel
theorem dX10_repeatEntry_11 : decode cX10_repeatEntry 11 = .ok (.iconst (-1), 1) := by decide +kernel
theorem dX10_repeatEntry_12 : decode cX10_repeatEntry 12 = .ok (.ireturn, 1) := by decide +kernel
theorem dX10_repeatEntry_13 : decode cX10_repeatEntry 13 = .ok (.aload_n 0, 1) := by decide +kernel
theorem dX10_repeatEntry_14 : decode cX10_repeatEntry 14 = .ok (.getfield 30, 3) := by decide +kernel
theorem dX10_repeatEntry_17 : decode cX10_repeatEntry 17 = .ok (.invokevirtual 66, 3) := by decide +kernel
theorem dX10_repeatEntry_20 : decode cX10_repeatEntry 20 = .ok (.aload_n 0, 1) := by decide +kernel
theorem dX10_repeatEntry_21 : decode cX10_repeatEntry 21 = .ok (.getfield 30, 3) := by decide +kernel
theorem dX10_repeatEntry_24 : decode cX10_repeatEntry 24 = .ok (.iconst 0, 1) := by decide +kernel
theorem dX10_repeatEntry_25 : decode cX10_repeatEntry 25 = .ok (.iconst 5, 1) := by decide +kernel
theorem dX10_repeatEntry_26 : decode cX10_repeatEntry 26 = .ok (.aload_n 0, 1) := by decide +kernel
theorem dX10_repeatEntry_27 : decode cX10_repeatEntry 27 = .ok (.getfield 12, 3) := by decide +kernel
theorem dX10_repeatEntry_30 : decode cX10_repeatEntry 30 = .ok (.getfield 122, 3) := by decide +kernel
theorem dX10_repeatEntry_33 : decode cX10_repeatEntry 33 = .ok (.iconst 1, 1) := by decide +kernel
theorem dX10_repeatEntry_34 : decode cX10_repeatEntry 34 = .ok (.isub, 1) := by decide +kernel
theorem dX10_repeatEntry_35 : decode cX10_repeatEntry 35 = .ok (.iload_n 1, 1) := by decide +kernel
theorem dX10_repeatEntry_36 : decode cX10_repeatEntry 36 = .ok (.isub, 1) := by decide +kernel
theorem dX10_repeatEntry_37 : decode cX10_repeatEntry 37 = .ok (.invokevirtual 69, 3) := by decide +kernel
theorem dX10_repeatEntry_40 : decode cX10_repeatEntry 40 = .ok (.aload_n 0, 1) := by decide +kernel
theorem dX10_repeatEntry_41 : decode cX10_repeatEntry 41 = .ok (.aload_n 0, 1) := by decide +kernel
theorem dX10_repeatEntry_42 : decode cX10_repeatEntry 42 = .ok (.getfield 12, 3) := by decide +kernel
theorem dX10_repeatEntry_45 : decode cX10_repeatEntry 45 = .ok (.iload_n 1, 1) := by decide +kernel
theorem dX10_repeatEntry_46 : decode cX10_repeatEntry 46 = .ok (.invokevirtual 140, 3) := by decide +kernel
theorem dX10_repeatEntry_49 : decode cX10_repeatEntry 49 = .ok (.aload_n 0, 1) := by decide +kernel
theorem dX10_repeatEntry_50 : decode cX10_repeatEntry 50 = .ok (.getfield 12, 3) := by decide +kernel
theorem dX10_repeatEntry_53 : decode cX10_repeatEntry 53 = .ok (.iload_n 1, 1) := by decide +kernel
theorem dX10_repeatEntry_54 : decode cX10_repeatEntry 54 = .ok (.invokevirtual 143, 3) := by decide +kernel
theorem dX10_repeatEntry_57 : decode cX10_repeatEntry 57 = .ok (.invokevirtual 108, 3) := by decide +kernel
theorem dX10_repeatEntry_60 : decode cX10_repeatEntry 60 = .ok (.ireturn, 1) := by decide +kernel
set_option maxRecDepth 20000 in
theorem ggX10_insert_X9_canInsert : GoodIn wsX10_insert wsX9_canInsert := goodIn_r _ [9, 10, 11, 12, 13, 8, 14, 15, 16, 17, 18, 19, 20, 21, 22, 23, 24, 25, 26, 27, 66, 67, 68, 69, 70, 71, 72] rfl (by decide +kernel)
set_option maxRecDepth 20000 in
theorem gX10_insert_X9_canInsert : GoodIn wsX10_insert (wsV RX10 146 RX9 yX9_canInsert wsX9_canInsert) := goodIn_app (goodIn_of _ (by decide +kernel)) ggX10_insert_X9_canInsert
set_option maxRecDepth 20000 in
theorem ggX10_insert_X8_hasRoom : GoodIn wsX10_insert wsX8_hasRoom := goodIn_r _ [32, 33, 34, 73, 74, 75, 76, 77, 78, 79] rfl (by decide +kernel)
set_option maxRecDepth 20000 in
theorem gX10_insert_X8_hasRoom : GoodIn wsX10_insert (wsV RX10 73 RX8 yX8_hasRoom wsX8_hasRoom) := goodIn_app (goodIn_of _ (by decide +kernel)) ggX10_insert_X8_hasRoom
set_option maxRecDepth 20000 in
theorem ggX10_insert_X8_write : GoodIn wsX10_insert wsX8_write := goodIn_r _ [38, 33, 39, 40, 41, 34, 42, 43, 44, 45, 46, 47, 48, 73, 74, 75, 76, 77, 78, 79] rfl (by decide +kernel)
set_option maxRecDepth 20000 in
theorem gX10_insert_X8_write : GoodIn wsX10_insert (wsV RX10 77 RX8 yX8_write wsX8_write) := goodIn_app (goodIn_of _ (by decide +kernel)) ggX10_insert_X8_write
set_option maxRecDepth 20000 in
theorem ggX10_insert_X9_insert : GoodIn wsX10_insert wsX9_insert := goodIn_r _ [52, 10, 17, 53, 18, 27, 15, 54, 55, 56, 8, 57, 16, 66, 67, 68, 69, 70, 71, 72] rfl (by decide +kernel)
set_option maxRecDepth 20000 in
theorem gX10_insert_X9_insert : GoodIn wsX10_insert (wsV RX10 149 RX9 yX9_insert wsX9_insert) := goodIn_app (goodIn_of _ (by decide +kernel)) ggX10_insert_X9_insert
theorem dX10_insert_0 : decode cX10_insert 0 = .ok (.aload_n 0, 1) := by decide +kernel
theorem dX10_insert_1 : decode cX10_insert 1 = .ok (.getfield 12, 3) := by decide +kernel
theorem dX10_insert_4 : decode cX10_insert 4 = .ok (.iload_n 2, 1) := by decide +kernel
theorem dX10_insert_5 : decode cX10_insert 5 = .ok (.aload_n 0, 1) := by decide +kernel
theorem dX10_insert_6 : decode cX10_insert 6 = .ok (.getfield 45, 3) := by decide +kernel
theorem dX10_insert_9 : decode cX10_insert 9 = .ok (.invokevirtual 146, 3) := by decide +kernel
theorem dX10_insert_12 : decode cX10_insert 12 = .ok (.ifCond .ne 6, 3) := by decide +kernel
theorem dX10_insert_15 : decode cX10_insert 15 = .ok (.bipush (-2), 2) := by decide +kernel
theorem dX10_insert_17 : decode cX10_insert 17 = .ok (.ireturn, 1) := by decide +kernel
theorem dX10_insert_18 : decode cX10_insert 18 = .ok (.aload_n 0, 1) := by decide +kernel
theorem dX10_insert_19 : decode cX10_insert 19 = .ok (.getfield 21, 3) := by decide +kernel
theorem dX10_insert_22 : decode cX10_insert 22 = .ok (.aload_n 0, 1) := by decide +kernel
theorem dX10_insert_23 : decode cX10_insert 23 = .ok (.getfield 30, 3) := by decide +kernel
theorem dX10_insert_26 : decode cX10_insert 26 = .ok (.invokevirtual 73, 3) := by decide +kernel
theorem dX10_insert_29 : decode cX10_insert 29 = .ok (.ifCond .ne 6, 3) := by decide +kernel
theorem dX10_insert_32 : decode cX10_insert 32 = .ok (.bipush (-3), 2) := by decide +kernel
theorem dX10_insert_34 : decode cX10_insert 34 = .ok (.ireturn, 1) := by decide +kernel
theorem dX10_insert_35 : decode cX10_insert 35 = .ok (.aload_n 0, 1) := by decide +kernel
theorem dX10_insert_36 : decode cX10_insert 36 = .ok (.getfield 21, 3) := by decide +kernel
theorem dX10_insert_39 : decode cX10_insert 39 = .ok (.aload_n 0, 1) := by decide +kernel
theorem dX10_insert_40 : decode cX10_insert 40 = .ok (.getfield 30, 3) := by decide +kernel
theorem dX10_insert_43 : decode cX10_insert 43 = .ok (.iload_n 1, 1) := by decide +kernel
theorem dX10_insert_44 : decode cX10_insert 44 = .ok (.invokevirtual 77, 3) := by decide +kernel
theorem dX10_insert_47 : decode cX10_insert 47 = .ok (.aload_n 0, 1) := by decide +kernel
theorem dX10_insert_48 : decode cX10_insert 48 = .ok (.getfield 12, 3) := by decide +kernel
theorem dX10_insert_51 : decode cX10_insert 51 = .ok (.iload_n 1, 1) := by decide +kernel
theorem dX10_insert_52 : decode cX10_insert 52 = .ok (.iload_n 2, 1) := by decide +kernel
theorem dX10_insert_53 : decode cX10_insert 53 = .ok (.invokevirtual 149, 3) := by decide +kernel
theorem dX10_insert_56 : decode cX10_insert 56 = .ok (.ireturn, 1) := by decide +kernel
set_option maxRecDepth 20000 in
theorem ggX10_encode_X6_empty : GoodIn wsX10_encode wsX6_empty := goodIn_r _ [16, 17, 204, 205] rfl (by decide +kernel)
set_option maxRecDepth 20000 in
theorem gX10_encode_X6_empty : GoodIn wsX10_encode (wsV RX10 66 RX6 yX6_empty wsX6_empty) := goodIn_app (goodIn_of _ (by decide +kernel)) ggX10_encode_X6_empty
set_option maxRecDepth 20000 in
theorem ggX10_encode_X6_at : GoodIn wsX10_encode wsX6_at := goodIn_r _ [21, 17, 22, 204, 205] rfl (by decide +kernel)
set_option maxRecDepth 20000 in
theorem gX10_encode_X6_at : GoodIn wsX10_encode (wsV RX10 167 RX6 yX6_at wsX6_at) := goodIn_app (goodIn_of _ (by decide +kernel)) ggX10_encode_X6_at
set_option maxRecDepth 20000 in
theorem ggX10_encode_X3_at : GoodIn wsX10_encode wsX3_at := goodIn_r _ [27, 28, 29, 210, 211] rfl (by decide +kernel)
set_option maxRecDepth 20000 in
theorem gX10_encode_X3_at : GoodIn wsX10_encode (wsV RX10 92 RX3 yX3_at wsX3_at) := goodIn_app (goodIn_of _ (by decide +kernel)) ggX10_encode_X3_at
set_option maxRecDepth 20000 in
theorem ggX10_encode_X10_encodeField : GoodIn wsX10_encode wsX10_encodeField := goodIn_r _ [34, 9, 35, 6, 3, 2, 5, 36, 37, 38, 26, 39, 28, 40, 41, 42, 24, 25, 27, 29, 43, 44, 45, 15, 46, 17, 22, 47, 48, 49, 50, 51, 52, 53, 54, 55, 56, 57, 33, 58, 1, 4, 59, 60, 61, 62, 63, 64, 65, 66, 67, 68, 69, 70, 71, 72, 73, 74, 75, 76, 77, 78, 79, 10, 80, 23, 12, 13, 14, 16, 81, 82, 83, 84, 85, 86, 87, 88, 89, 90, 91, 92, 93, 94, 95, 96, 97, 98, 99, 100, 101, 102, 103, 104, 105, 106, 107, 108, 109, 110, 111, 112, 113, 114, 115, 116, 117, 118, 119, 120, 121, 122, 123, 124, 125, 126, 127, 128, 129, 130, 131, 132, 133, 134, 135, 136, 137, 138, 139, 140, 141, 142, 143, 144, 145, 146, 147, 148, 149, 150, 151, 152, 153, 154, 155, 156, 157, 158, 159, 160, 161, 162, 163, 164, 165, 166, 167, 168, 169, 170, 171, 172, 173, 174, 181, 182, 183, 184, 185, 186, 187, 188, 206, 207, 208, 209, 196, 197, 198, 199, 200, 201, 202, 203, 210, 211, 212, 213, 204, 205, 189, 190, 191, 192, 193, 194, 195, 214, 215, 216, 217, 218] rfl (by decide +kernel)
set_option maxRecDepth 20000 in
theorem gX10_encode_X10_encodeField : GoodIn wsX10_encode (wsV RX10 169 RX10 yX10_encodeField wsX10_encodeField) := goodIn_app (goodIn_of _ (by decide +kernel)) ggX10_encode_X10_encodeField
set_option maxRecDepth 20000 in
theorem ggX10_encode_X10_encodeStart : GoodIn wsX10_encode wsX10_encodeStart := goodIn_r _ [178, 9, 179, 166, 11, 5, 47, 48, 49, 15, 50, 51, 52, 53, 54, 17, 22, 181, 182, 183, 184, 185, 186, 187, 188, 206, 207, 208, 209, 196, 197, 198, 199, 200, 201, 202, 203, 204, 205] rfl (by decide +kernel)
set_option maxRecDepth 20000 in
theorem gX10_encode_X10_encodeStart : GoodIn wsX10_encode (wsV RX10 173 RX10 yX10_encodeStart wsX10_encodeStart) := goodIn_app (goodIn_of _ (by decide +kernel)) ggX10_encode_X10_encodeStart
set_option maxRecDepth 20000 in
theorem ggX10_encode_X6_addAll : GoodIn wsX10_encode wsX6_addAll := goodIn_r _ [105, 17, 22, 204, 205] rfl (by decide +kernel)
set_option maxRecDepth 20000 in
theorem gX10_encode_X6_addAll : GoodIn wsX10_encode (wsV RX10 180 RX6 yX6_addAll wsX6_addAll) := goodIn_app (goodIn_of _ (by decide +kernel)) ggX10_encode_X6_addAll
theorem dX10_encode_0 : decode cX10_encode 0 = .ok (.aload_n 0, 1) := by decide +kernel
theorem dX10_encode_1 : decode cX10_encode 1 = .ok (.iload_n 2, 1) := by decide +kernel
theorem dX10_encode_2 : decode cX10_encode 2 = .ok (.putfield 150, 3) := by decide +kernel
theorem dX10_encode_5 : decode cX10_encode 5 = .ok (.aload_n 0, 1) := by decide +kernel
theorem dX10_encode_6 : decode cX10_encode 6 = .ok (.iload_n 2, 1) := by decide +kernel
theorem dX10_encode_7 : decode cX10_encode 7 = .ok (.ifCond .eq 11, 3) := by decide +kernel
theorem dX10_encode_10 : decode cX10_encode 10 = .ok (.iload_n 3, 1) := by decide +kernel
theorem dX10_encode_11 : decode cX10_encode 11 = .ok (.ifCond .eq 7, 3) := by decide +kernel
theorem dX10_encode_14 : decode cX10_encode 14 = .ok (.iconst 1, 1) := by decide +kernel
theorem dX10_encode_15 : decode cX10_encode 15 = .ok (.goto 4, 3) := by decide +kernel
theorem dX10_encode_18 : decode cX10_encode 18 = .ok (.iconst 0, 1) := by decide +kernel
theorem dX10_encode_19 : decode cX10_encode 19 = .ok (.putfield 154, 3) := by decide +kernel
theorem dX10_encode_22 : decode cX10_encode 22 = .ok (.aload_n 1, 1) := by decide +kernel
theorem dX10_encode_23 : decode cX10_encode 23 = .ok (.aload_n 0, 1) := by decide +kernel
theorem dX10_encode_24 : decode cX10_encode 24 = .ok (.getfield 12, 3) := by decide +kernel
theorem dX10_encode_27 : decode cX10_encode 27 = .ok (.getfield 122, 3) := by decide +kernel
theorem dX10_encode_30 : decode cX10_encode 30 = .ok (.putfield 157, 3) := by decide +kernel
theorem dX10_encode_33 : decode cX10_encode 33 = .ok (.aload_n 0, 1) := by decide +kernel
theorem dX10_encode_34 : decode cX10_encode 34 = .ok (.getfield 34, 3) := by decide +kernel
theorem dX10_encode_37 : decode cX10_encode 37 = .ok (.invokevirtual 66, 3) := by decide +kernel
theorem dX10_encode_40 : decode cX10_encode 40 = .ok (.iconst 0, 1) := by decide +kernel
theorem dX10_encode_41 : decode cX10_encode 41 = .ok (.istore 4, 2) := by decide +kernel
theorem dX10_encode_43 : decode cX10_encode 43 = .ok (.iload 4, 2) := by decide +kernel
theorem dX10_encode_45 : decode cX10_encode 45 = .ok (.aload_n 1, 1) := by decide +kernel
theorem dX10_encode_46 : decode cX10_encode 46 = .ok (.getfield 162, 3) := by decide +kernel
theorem dX10_encode_49 : decode cX10_encode 49 = .ok (.getfield 164, 3) := by decide +kernel
theorem dX10_encode_52 : decode cX10_encode 52 = .ok (.if_icmp .ge 48, 3) := by decide +kernel
theorem dX10_encode_55 : decode cX10_encode 55 = .ok (.aload_n 1, 1) := by decide +kernel
theorem dX10_encode_56 : decode cX10_encode 56 = .ok (.getfield 162, 3) := by decide +kernel
theorem dX10_encode_59 : decode cX10_encode 59 = .ok (.iload 4, 2) := by decide +kernel
theorem dX10_encode_61 : decode cX10_encode 61 = .ok (.invokevirtual 167, 3) := by decide +kernel
theorem dX10_encode_64 : decode cX10_encode 64 = .ok (.istore 5, 2) := by decide +kernel
theorem dX10_encode_66 : decode cX10_encode 66 = .ok (.aload_n 0, 1) := by decide +kernel
theorem dX10_encode_67 : decode cX10_encode 67 = .ok (.getfield 37, 3) := by decide +kernel
theorem dX10_encode_70 : decode cX10_encode 70 = .ok (.getfield 88, 3) := by decide +kernel
theorem dX10_encode_73 : decode cX10_encode 73 = .ok (.iload 5, 2) := by decide +kernel
theorem dX10_encode_75 : decode cX10_encode 75 = .ok (.invokevirtual 92, 3) := by decide +kernel
theorem dX10_encode_78 : decode cX10_encode 78 = .ok (.astore 6, 2) := by decide +kernel
theorem dX10_encode_80 : decode cX10_encode 80 = .ok (.aload 6, 2) := by decide +kernel
theorem dX10_encode_82 : decode cX10_encode 82 = .ok (.ifnull 12, 3) := by decide +kernel
theorem dX10_encode_85 : decode cX10_encode 85 = .ok (.aload_n 0, 1) := by decide +kernel
theorem dX10_encode_86 : decode cX10_encode 86 = .ok (.aload_n 1, 1) := by decide +kernel
theorem dX10_encode_87 : decode cX10_encode 87 = .ok (.iload 5, 2) := by decide +kernel
theorem dX10_encode_89 : decode cX10_encode 89 = .ok (.aload 6, 2) := by decide +kernel
theorem dX10_encode_91 : decode cX10_encode 91 = .ok (.invokevirtual 169, 3) := by decide +kernel
theorem dX10_encode_94 : decode cX10_encode 94 = .ok (.iinc 4 1, 3) := by decide +kernel
theorem dX10_encode_97 : decode cX10_encode 97 = .ok (.goto (-54), 3) := by decide +kernel
theorem dX10_encode_100 : decode cX10_encode 100 = .ok (.aload_n 0, 1) := by decide +kernel
theorem dX10_encode_101 : decode cX10_encode 101 = .ok (.aload_n 1, 1) := by decide +kernel
theorem dX10_encode_102 : decode cX10_encode 102 = .ok (.invokevirtual 173, 3) := by decide +kernel
theorem dX10_encode_105 : decode cX10_encode 105 = .ok (.aload_n 1, 1) := by decide +kernel
theorem dX10_encode_106 : decode cX10_encode 106 = .ok (.getfield 177, 3) := by decide +kernel
theorem dX10_encode_109 : decode cX10_encode 109 = .ok (.aload_n 0, 1) := by decide +kernel
theorem dX10_encode_110 : decode cX10_encode 110 = .ok (.getfield 34, 3) := by decide +kernel
theorem dX10_encode_113 : decode cX10_encode 113 = .ok (.invokevirtual 180, 3) := by decide +kernel
theorem dX10_encode_116 : decode cX10_encode 116 = .ok (.return_, 1) := by decide +kernel
set_option maxRecDepth 20000 in
theorem ggX10_encodeStart_X6_addInteger : GoodIn wsX10_encodeStart wsX6_addInteger := goodIn_r _ [10, 11, 12, 13, 9, 14, 15, 16, 37, 38] rfl (by decide +kernel)
set_option maxRecDepth 20000 in
theorem gX10_encodeStart_X6_addInteger : GoodIn wsX10_encodeStart (wsV RX10 69 RX6 yX6_addInteger wsX6_addInteger) := goodIn_app (goodIn_of _ (by decide +kernel)) ggX10_encodeStart_X6_addInteger
theorem dX10_encodeStart_0 : decode cX10_encodeStart 0 = .ok (.aload_n 0, 1) := by decide +kernel
theorem dX10_encodeStart_1 : decode cX10_encodeStart 1 = .ok (.getfield 37, 3) := by decide +kernel
theorem dX10_encodeStart_4 : decode cX10_encodeStart 4 = .ok (.getfield 56, 3) := by decide +kernel
theorem dX10_encodeStart_7 : decode cX10_encodeStart 7 = .ok (.iconst 4, 1) := by decide +kernel
theorem dX10_encodeStart_8 : decode cX10_encodeStart 8 = .ok (.idiv, 1) := by decide +kernel
theorem dX10_encodeStart_9 : decode cX10_encodeStart 9 = .ok (.iconst 2, 1) := by decide +kernel
theorem dX10_encodeStart_10 : decode cX10_encodeStart 10 = .ok (.imul, 1) := by decide +kernel
theorem dX10_encodeStart_11 : decode cX10_encodeStart 11 = .ok (.istore_n 2, 1) := by decide +kernel
theorem dX10_encodeStart_12 : decode cX10_encodeStart 12 = .ok (.aload_n 1, 1) := by decide +kernel
theorem dX10_encodeStart_13 : decode cX10_encodeStart 13 = .ok (.getfield 184, 3) := by decide +kernel
theorem dX10_encodeStart_16 : decode cX10_encodeStart 16 = .ok (.ifCond .eq 7, 3) := by decide +kernel
theorem dX10_encodeStart_19 : decode cX10_encodeStart 19 = .ok (.iload_n 2, 1) := by decide +kernel
theorem dX10_encodeStart_20 : decode cX10_encodeStart 20 = .ok (.ifCond .ne 26, 3) := by decide +kernel
theorem dX10_encodeStart_23 : decode cX10_encodeStart 23 = .ok (.aload_n 1, 1) := by decide +kernel
theorem dX10_encodeStart_24 : decode cX10_encodeStart 24 = .ok (.getfield 177, 3) := by decide +kernel
theorem dX10_encodeStart_27 : decode cX10_encodeStart 27 = .ok (.iconst 0, 1) := by decide +kernel
theorem dX10_encodeStart_28 : decode cX10_encodeStart 28 = .ok (.bipush 8, 2) := by decide +kernel
theorem dX10_encodeStart_30 : decode cX10_encodeStart 30 = .ok (.iconst 0, 1) := by decide +kernel
theorem dX10_encodeStart_31 : decode cX10_encodeStart 31 = .ok (.invokevirtual 69, 3) := by decide +kernel
theorem dX10_encodeStart_34 : decode cX10_encodeStart 34 = .ok (.aload_n 1, 1) := by decide +kernel
theorem dX10_encodeStart_35 : decode cX10_encodeStart 35 = .ok (.getfield 177, 3) := by decide +kernel
theorem dX10_encodeStart_38 : decode cX10_encodeStart 38 = .ok (.iconst 0, 1) := by decide +kernel
theorem dX10_encodeStart_39 : decode cX10_encodeStart 39 = .ok (.bipush 7, 2) := by decide +kernel
theorem dX10_encodeStart_41 : decode cX10_encodeStart 41 = .ok (.iconst 0, 1) := by decide +kernel
theorem dX10_encodeStart_42 : decode cX10_encodeStart 42 = .ok (.invokevirtual 69, 3) := by decide +kernel
theorem dX10_encodeStart_45 : decode cX10_encodeStart 45 = .ok (.return_, 1) := by decide +kernel
theorem dX10_encodeStart_46 : decode cX10_encodeStart 46 = .ok (.aload_n 1, 1) := by decide +kernel
theorem dX10_encodeStart_47 : decode cX10_encodeStart 47 = .ok (.getfield 177, 3) := by decide +kernel
theorem dX10_encodeStart_50 : decode cX10_encodeStart 50 = .ok (.iconst 0, 1) := by decide +kernel
theorem dX10_encodeStart_51 : decode cX10_encodeStart 51 = .ok (.bipush 8, 2) := by decide +kernel
theorem dX10_encodeStart_53 : decode cX10_encodeStart 53 = .ok (.aload_n 1, 1) := by decide +kernel
theorem dX10_encodeStart_54 : decode cX10_encodeStart 54 = .ok (.getfield 184, 3) := by decide +kernel
theorem dX10_encodeStart_57 : decode cX10_encodeStart 57 = .ok (.iload_n 2, 1) := by decide +kernel
theorem dX10_encodeStart_58 : decode cX10_encodeStart 58 = .ok (.irem, 1) := by decide +kernel
theorem dX10_encodeStart_59 : decode cX10_encodeStart 59 = .ok (.iconst 1, 1) := by decide +kernel
theorem dX10_encodeStart_60 : decode cX10_encodeStart 60 = .ok (.iadd, 1) := by decide +kernel
theorem dX10_encodeStart_61 : decode cX10_encodeStart 61 = .ok (.invokevirtual 69, 3) := by decide +kernel
theorem dX10_encodeStart_64 : decode cX10_encodeStart 64 = .ok (.aload_n 1, 1) := by decide +kernel
theorem dX10_encodeStart_65 : decode cX10_encodeStart 65 = .ok (.getfield 157, 3) := by decide +kernel
theorem dX10_encodeStart_68 : decode cX10_encodeStart 68 = .ok (.aload_n 1, 1) := by decide +kernel
theorem dX10_encodeStart_69 : decode cX10_encodeStart 69 = .ok (.getfield 184, 3) := by decide +kernel
theorem dX10_encodeStart_72 : decode cX10_encodeStart 72 = .ok (.if_icmp .lt 25, 3) := by decide +kernel
theorem dX10_encodeStart_75 : decode cX10_encodeStart 75 = .ok (.aload_n 1, 1) := by decide +kernel
theorem dX10_encodeStart_76 : decode cX10_encodeStart 76 = .ok (.getfield 177, 3) := by decide +kernel
theorem dX10_encodeStart_79 : decode cX10_encodeStart 79 = .ok (.iconst 0, 1) := by decide +kernel
theorem dX10_encodeStart_80 : decode cX10_encodeStart 80 = .ok (.bipush 7, 2) := by decide +kernel
theorem dX10_encodeStart_82 : decode cX10_encodeStart 82 = .ok (.aload_n 1, 1) := by decide +kernel
theorem dX10_encodeStart_83 : decode cX10_encodeStart 83 = .ok (.getfield 157, 3) := by decide +kernel
theorem dX10_encodeStart_86 : decode cX10_encodeStart 86 = .ok (.aload_n 1, 1) := by decide +kernel
theorem dX10_encodeStart_87 : decode cX10_encodeStart 87 = .ok (.getfield 184, 3) := by decide +kernel
theorem dX10_encodeStart_90 : decode cX10_encodeStart 90 = .ok (.isub, 1) := by decide +kernel
theorem dX10_encodeStart_91 : decode cX10_encodeStart 91 = .ok (.invokevirtual 69, 3) := by decide +kernel
theorem dX10_encodeStart_94 : decode cX10_encodeStart 94 = .ok (.goto 26, 3) := by decide +kernel
theorem dX10_encodeStart_97 : decode cX10_encodeStart 97 = .ok (.aload_n 1, 1) := by decide +kernel
theorem dX10_encodeStart_98 : decode cX10_encodeStart 98 = .ok (.getfield 177, 3) := by decide +kernel
theorem dX10_encodeStart_101 : decode cX10_encodeStart 101 = .ok (.sipush 128, 3) := by decide +kernel
theorem dX10_encodeStart_104 : decode cX10_encodeStart 104 = .ok (.bipush 7, 2) := by decide +kernel
theorem dX10_encodeStart_106 : decode cX10_encodeStart 106 = .ok (.aload_n 1, 1) := by decide +kernel
theorem dX10_encodeStart_107 : decode cX10_encodeStart 107 = .ok (.getfield 184, 3) := by decide +kernel
theorem dX10_encodeStart_110 : decode cX10_encodeStart 110 = .ok (.aload_n 1, 1) := by decide +kernel
theorem dX10_encodeStart_111 : decode cX10_encodeStart 111 = .ok (.getfield 157, 3) := by decide +kernel
theorem dX10_encodeStart_114 : decode cX10_encodeStart 114 = .ok (.isub, 1) := by decide +kernel
theorem dX10_encodeStart_115 : decode cX10_encodeStart 115 = .ok (.iconst 1, 1) := by decide +kernel
theorem dX10_encodeStart_116 : decode cX10_encodeStart 116 = .ok (.isub, 1) := by decide +kernel
theorem dX10_encodeStart_117 : decode cX10_encodeStart 117 = .ok (.invokevirtual 69, 3) := by decide +kernel
theorem dX10_encodeStart_120 : decode cX10_encodeStart 120 = .ok (.return_, 1) := by decide +kernel
set_option maxRecDepth 20000 in
theorem ggX10_encodeField_X3_lowestLike : GoodIn wsX10_encodeField wsX3_lowestLike := goodIn_r _ [11, 12, 13, 14, 15, 16, 17, 10, 18, 19, 20, 21, 22, 23, 24, 25, 26, 184, 185, 186, 187, 188, 189] rfl (by decide +kernel)
set_option maxRecDepth 20000 in
theorem gX10_encodeField_X3_lowestLike : GoodIn wsX10_encodeField (wsV RX10 187 RX3 yX3_lowestLike wsX3_lowestLike) := goodIn_app (goodIn_of _ (by decide +kernel)) ggX10_encodeField_X3_lowestLike
set_option maxRecDepth 20000 in
theorem ggX10_encodeField_X6_addInteger : GoodIn wsX10_encodeField wsX6_addInteger := goodIn_r _ [30, 31, 32, 33, 23, 34, 25, 26, 188, 189] rfl (by decide +kernel)
set_option maxRecDepth 20000 in
theorem gX10_encodeField_X6_addInteger : GoodIn wsX10_encodeField (wsV RX10 69 RX6 yX6_addInteger wsX6_addInteger) := goodIn_app (goodIn_of _ (by decide +kernel)) ggX10_encodeField_X6_addInteger
set_option maxRecDepth 20000 in
theorem ggX10_encodeField_X10_top : GoodIn wsX10_encodeField wsX10_top := goodIn_r _ [39, 40, 4, 41, 42, 164, 165, 166, 167, 168, 169, 170, 171, 190, 191, 192, 193, 194, 195, 196] rfl (by decide +kernel)
set_option maxRecDepth 20000 in
theorem gX10_encodeField_X10_top : GoodIn wsX10_encodeField (wsV RX10 190 RX10 yX10_top wsX10_top) := goodIn_app (goodIn_of _ (by decide +kernel)) ggX10_encodeField_X10_top
set_option maxRecDepth 20000 in
theorem ggX10_encodeField_X9_highestLike : GoodIn wsX10_encodeField wsX9_highestLike := goodIn_r _ [47, 48, 49, 50, 51, 52, 53, 54, 55, 56, 46, 57, 58, 190, 191, 192, 193, 194, 195, 196] rfl (by decide +kernel)
set_option maxRecDepth 20000 in
theorem gX10_encodeField_X9_highestLike : GoodIn wsX10_encodeField (wsV RX10 193 RX9 yX9_highestLike wsX9_highestLike) := goodIn_app (goodIn_of _ (by decide +kernel)) ggX10_encodeField_X9_highestLike
set_option maxRecDepth 20000 in
theorem ggX10_encodeField_X10_insertField : GoodIn wsX10_encodeField wsX10_insertField := goodIn_r _ [62, 1, 63, 64, 65, 16, 17, 10, 18, 12, 19, 66, 67, 68, 23, 69, 25, 70, 71, 72, 38, 73, 2, 4, 74, 41, 75, 76, 77, 78, 79, 13, 15, 20, 21, 22, 24, 26, 80, 81, 82, 46, 83, 48, 49, 50, 51, 52, 53, 84, 54, 55, 56, 57, 58, 85, 86, 27, 28, 29, 30, 31, 32, 33, 34, 87, 88, 89, 90, 91, 92, 93, 94, 95, 96, 97, 98, 99, 100, 101, 102, 103, 104, 105, 106, 42, 107, 108, 109, 110, 111, 112, 113, 114, 115, 116, 117, 118, 119, 120, 121, 122, 123, 124, 125, 126, 127, 128, 129, 130, 131, 132, 133, 134, 135, 136, 137, 138, 139, 140, 141, 142, 143, 144, 145, 146, 164, 165, 166, 167, 168, 169, 170, 171, 172, 173, 174, 175, 184, 185, 188, 189, 186, 187, 190, 191, 192, 193, 194, 195, 196, 197, 198, 199, 200, 201] rfl (by decide +kernel)
set_option maxRecDepth 20000 in
theorem gX10_encodeField_X10_insertField : GoodIn wsX10_encodeField (wsV RX10 196 RX10 yX10_insertField wsX10_insertField) := goodIn_app (goodIn_of _ (by decide +kernel)) ggX10_encodeField_X10_insertField
set_option maxRecDepth 20000 in
theorem ggX10_encodeField_X10_encodeValue : GoodIn wsX10_encodeField wsX10_encodeValue := goodIn_r _ [150, 1, 2, 4, 74, 63, 3, 6, 75, 76, 77, 78, 10, 79, 12, 13, 15, 16, 17, 18, 19, 20, 21, 22, 23, 24, 25, 26, 35, 36, 37, 38, 39, 40, 41, 42, 80, 81, 82, 46, 83, 48, 49, 50, 51, 52, 53, 84, 54, 55, 56, 57, 58, 85, 86, 27, 28, 29, 30, 31, 32, 33, 34, 87, 88, 89, 90, 91, 92, 93, 94, 151, 152, 153, 154, 155, 156, 157, 158, 159, 160, 161, 162, 163, 123, 164, 165, 166, 167, 168, 169, 170, 171, 172, 173, 174, 175, 186, 187, 176, 177, 178, 179, 180, 181, 182, 183, 184, 185, 188, 189, 190, 191, 192, 193, 194, 195, 196] rfl (by decide +kernel)
set_option maxRecDepth 20000 in
theorem gX10_encodeField_X10_encodeValue : GoodIn wsX10_encodeField (wsV RX10 199 RX10 yX10_encodeValue wsX10_encodeValue) := goodIn_app (goodIn_of _ (by decide +kernel)) ggX10_encodeField_X10_encodeValue
set_option maxRecDepth 20000 in
theorem ggX10_encodeField_X10_refer : GoodIn wsX10_encodeField wsX10_refer := goodIn_r _ [154, 155, 156, 157, 51, 158, 4, 159, 160, 161, 162, 46, 163, 123, 176, 177, 178, 179, 180, 181, 182, 183, 164, 165, 166, 167, 168, 169, 170, 171, 190, 191, 192, 193, 194, 195, 196] rfl (by decide +kernel)
set_option maxRecDepth 20000 in
theorem gX10_encodeField_X10_refer : GoodIn wsX10_encodeField (wsV RX10 203 RX10 yX10_refer wsX10_refer) := goodIn_app (goodIn_of _ (by decide +kernel)) ggX10_encodeField_X10_refer
theorem dX10_encodeField_0 : decode cX10_encodeField 0 = .ok (.aload_n 0, 1) := by decide +kernel
theorem dX10_encodeField_1 : decode cX10_encodeField 1 = .ok (.getfield 37, 3) := by decide +kernel
theorem dX10_encodeField_4 : decode cX10_encodeField 4 = .ok (.getfield 112, 3) := by decide +kernel
theorem dX10_encodeField_7 : decode cX10_encodeField 7 = .ok (.aload_n 3, 1) := by decide +kernel
theorem dX10_encodeField_8 : decode cX10_encodeField 8 = .ok (.invokevirtual 187, 3) := by decide +kernel
theorem dX10_encodeField_11 : decode cX10_encodeField 11 = .ok (.istore 4, 2) := by decide +kernel
theorem dX10_encodeField_13 : decode cX10_encodeField 13 = .ok (.iload 4, 2) := by decide +kernel
theorem dX10_encodeField_15 : decode cX10_encodeField 15 = .ok (.ifCond .lt 18, 3) := by decide +kernel
theorem dX10_encodeField_18 : decode cX10_encodeField 18 = .ok (.aload_n 0, 1) := by decide +kernel
theorem dX10_encodeField_19 : decode cX10_encodeField 19 = .ok (.getfield 34, 3) := by decide +kernel
theorem dX10_encodeField_22 : decode cX10_encodeField 22 = .ok (.sipush 192, 3) := by decide +kernel
theorem dX10_encodeField_25 : decode cX10_encodeField 25 = .ok (.bipush 6, 2) := by decide +kernel
theorem dX10_encodeField_27 : decode cX10_encodeField 27 = .ok (.iload 4, 2) := by decide +kernel
theorem dX10_encodeField_29 : decode cX10_encodeField 29 = .ok (.invokevirtual 69, 3) := by decide +kernel
theorem dX10_encodeField_32 : decode cX10_encodeField 32 = .ok (.return_, 1) := by decide +kernel
theorem dX10_encodeField_33 : decode cX10_encodeField 33 = .ok (.aload_n 0, 1) := by decide +kernel
theorem dX10_encodeField_34 : decode cX10_encodeField 34 = .ok (.getfield 12, 3) := by decide +kernel
theorem dX10_encodeField_37 : decode cX10_encodeField 37 = .ok (.iload_n 2, 1) := by decide +kernel
theorem dX10_encodeField_38 : decode cX10_encodeField 38 = .ok (.aload_n 0, 1) := by decide +kernel
theorem dX10_encodeField_39 : decode cX10_encodeField 39 = .ok (.invokevirtual 190, 3) := by decide +kernel
theorem dX10_encodeField_42 : decode cX10_encodeField 42 = .ok (.invokevirtual 193, 3) := by decide +kernel
theorem dX10_encodeField_45 : decode cX10_encodeField 45 = .ok (.istore 5, 2) := by decide +kernel
theorem dX10_encodeField_47 : decode cX10_encodeField 47 = .ok (.iload 5, 2) := by decide +kernel
theorem dX10_encodeField_49 : decode cX10_encodeField 49 = .ok (.ifCond .ge 17, 3) := by decide +kernel
theorem dX10_encodeField_52 : decode cX10_encodeField 52 = .ok (.aload_n 0, 1) := by decide +kernel
theorem dX10_encodeField_53 : decode cX10_encodeField 53 = .ok (.getfield 154, 3) := by decide +kernel
theorem dX10_encodeField_56 : decode cX10_encodeField 56 = .ok (.ifCond .eq 10, 3) := by decide +kernel
theorem dX10_encodeField_59 : decode cX10_encodeField 59 = .ok (.aload_n 0, 1) := by decide +kernel
theorem dX10_encodeField_60 : decode cX10_encodeField 60 = .ok (.iload_n 2, 1) := by decide +kernel
theorem dX10_encodeField_61 : decode cX10_encodeField 61 = .ok (.invokevirtual 196, 3) := by decide +kernel
theorem dX10_encodeField_64 : decode cX10_encodeField 64 = .ok (.istore 5, 2) := by decide +kernel
theorem dX10_encodeField_66 : decode cX10_encodeField 66 = .ok (.iload 5, 2) := by decide +kernel
theorem dX10_encodeField_68 : decode cX10_encodeField 68 = .ok (.ifCond .ge 12, 3) := by decide +kernel
theorem dX10_encodeField_71 : decode cX10_encodeField 71 = .ok (.aload_n 0, 1) := by decide +kernel
theorem dX10_encodeField_72 : decode cX10_encodeField 72 = .ok (.aload_n 1, 1) := by decide +kernel
theorem dX10_encodeField_73 : decode cX10_encodeField 73 = .ok (.aload_n 3, 1) := by decide +kernel
theorem dX10_encodeField_74 : decode cX10_encodeField 74 = .ok (.invokevirtual 199, 3) := by decide +kernel
theorem dX10_encodeField_77 : decode cX10_encodeField 77 = .ok (.goto 67, 3) := by decide +kernel
theorem dX10_encodeField_80 : decode cX10_encodeField 80 = .ok (.iload 5, 2) := by decide +kernel
theorem dX10_encodeField_82 : decode cX10_encodeField 82 = .ok (.aload_n 1, 1) := by decide +kernel
theorem dX10_encodeField_83 : decode cX10_encodeField 83 = .ok (.getfield 157, 3) := by decide +kernel
theorem dX10_encodeField_86 : decode cX10_encodeField 86 = .ok (.if_icmp .ge 34, 3) := by decide +kernel
theorem dX10_encodeField_89 : decode cX10_encodeField 89 = .ok (.aload_n 0, 1) := by decide +kernel
theorem dX10_encodeField_90 : decode cX10_encodeField 90 = .ok (.getfield 34, 3) := by decide +kernel
theorem dX10_encodeField_93 : decode cX10_encodeField 93 = .ok (.sipush 128, 3) := by decide +kernel
theorem dX10_encodeField_96 : decode cX10_encodeField 96 = .ok (.bipush 6, 2) := by decide +kernel
theorem dX10_encodeField_98 : decode cX10_encodeField 98 = .ok (.aload_n 1, 1) := by decide +kernel
theorem dX10_encodeField_99 : decode cX10_encodeField 99 = .ok (.getfield 157, 3) := by decide +kernel
theorem dX10_encodeField_102 : decode cX10_encodeField 102 = .ok (.iconst 1, 1) := by decide +kernel
theorem dX10_encodeField_103 : decode cX10_encodeField 103 = .ok (.isub, 1) := by decide +kernel
theorem dX10_encodeField_104 : decode cX10_encodeField 104 = .ok (.iload 5, 2) := by decide +kernel
theorem dX10_encodeField_106 : decode cX10_encodeField 106 = .ok (.isub, 1) := by decide +kernel
theorem dX10_encodeField_107 : decode cX10_encodeField 107 = .ok (.invokevirtual 69, 3) := by decide +kernel
theorem dX10_encodeField_110 : decode cX10_encodeField 110 = .ok (.aload_n 0, 1) := by decide +kernel
theorem dX10_encodeField_111 : decode cX10_encodeField 111 = .ok (.aload_n 1, 1) := by decide +kernel
theorem dX10_encodeField_112 : decode cX10_encodeField 112 = .ok (.iload 5, 2) := by decide +kernel
theorem dX10_encodeField_114 : decode cX10_encodeField 114 = .ok (.invokevirtual 203, 3) := by decide +kernel
theorem dX10_encodeField_117 : decode cX10_encodeField 117 = .ok (.goto 27, 3) := by decide +kernel
theorem dX10_encodeField_120 : decode cX10_encodeField 120 = .ok (.aload_n 0, 1) := by decide +kernel
theorem dX10_encodeField_121 : decode cX10_encodeField 121 = .ok (.getfield 34, 3) := by decide +kernel
theorem dX10_encodeField_124 : decode cX10_encodeField 124 = .ok (.bipush 16, 2) := by decide +kernel
theorem dX10_encodeField_126 : decode cX10_encodeField 126 = .ok (.iconst 4, 1) := by decide +kernel
theorem dX10_encodeField_127 : decode cX10_encodeField 127 = .ok (.iload 5, 2) := by decide +kernel
theorem dX10_encodeField_129 : decode cX10_encodeField 129 = .ok (.aload_n 1, 1) := by decide +kernel
theorem dX10_encodeField_130 : decode cX10_encodeField 130 = .ok (.getfield 157, 3) := by decide +kernel
theorem dX10_encodeField_133 : decode cX10_encodeField 133 = .ok (.isub, 1) := by decide +kernel
theorem dX10_encodeField_134 : decode cX10_encodeField 134 = .ok (.invokevirtual 69, 3) := by decide +kernel
theorem dX10_encodeField_137 : decode cX10_encodeField 137 = .ok (.aload_n 0, 1) := by decide +kernel
theorem dX10_encodeField_138 : decode cX10_encodeField 138 = .ok (.aload_n 1, 1) := by decide +kernel
theorem dX10_encodeField_139 : decode cX10_encodeField 139 = .ok (.iload 5, 2) := by decide +kernel
theorem dX10_encodeField_141 : decode cX10_encodeField 141 = .ok (.invokevirtual 203, 3) := by decide +kernel
theorem dX10_encodeField_144 : decode cX10_encodeField 144 = .ok (.return_, 1) := by decide +kernel
set_option maxRecDepth 20000 in
theorem ggX10_encodeValue_X3_lowestNamed : GoodIn wsX10_encodeValue wsX3_lowestNamed := goodIn_r _ [13, 14, 15, 16, 17, 18, 12, 19, 20, 21, 22, 23, 24, 25, 26, 27, 107, 108, 97, 98, 109, 110] rfl (by decide +kernel)
set_option maxRecDepth 20000 in
theorem gX10_encodeValue_X3_lowestNamed : GoodIn wsX10_encodeValue (wsV RX10 115 RX3 yX3_lowestNamed wsX3_lowestNamed) := goodIn_app (goodIn_of _ (by decide +kernel)) ggX10_encodeValue_X3_lowestNamed
set_option maxRecDepth 20000 in
theorem ggX10_encodeValue_X10_top : GoodIn wsX10_encodeValue wsX10_top := goodIn_r _ [32, 33, 3, 34, 35, 85, 86, 87, 88, 89, 90, 91, 92, 111, 112, 113, 114, 115, 116, 117] rfl (by decide +kernel)
set_option maxRecDepth 20000 in
theorem gX10_encodeValue_X10_top : GoodIn wsX10_encodeValue (wsV RX10 190 RX10 yX10_top wsX10_top) := goodIn_app (goodIn_of _ (by decide +kernel)) ggX10_encodeValue_X10_top
set_option maxRecDepth 20000 in
theorem ggX10_encodeValue_X9_highestNamed : GoodIn wsX10_encodeValue wsX9_highestNamed := goodIn_r _ [40, 41, 42, 43, 44, 45, 46, 47, 48, 49, 50, 39, 51, 52, 53, 17, 18, 12, 19, 14, 20, 54, 22, 23, 24, 25, 26, 27, 111, 112, 113, 114, 115, 116, 117, 97, 98, 107, 108, 109, 110] rfl (by decide +kernel)
set_option maxRecDepth 20000 in
theorem gX10_encodeValue_X9_highestNamed : GoodIn wsX10_encodeValue (wsV RX10 125 RX9 yX9_highestNamed wsX9_highestNamed) := goodIn_app (goodIn_of _ (by decide +kernel)) ggX10_encodeValue_X9_highestNamed
set_option maxRecDepth 20000 in
theorem ggX10_encodeValue_X6_addInteger : GoodIn wsX10_encodeValue wsX6_addInteger := goodIn_r _ [58, 59, 60, 61, 24, 62, 26, 27, 109, 110] rfl (by decide +kernel)
set_option maxRecDepth 20000 in
theorem gX10_encodeValue_X6_addInteger : GoodIn wsX10_encodeValue (wsV RX10 69 RX6 yX6_addInteger wsX6_addInteger) := goodIn_app (goodIn_of _ (by decide +kernel)) ggX10_encodeValue_X6_addInteger
set_option maxRecDepth 20000 in
theorem ggX10_encodeValue_X6_addWord : GoodIn wsX10_encodeValue wsX6_addWord := goodIn_r _ [66, 26, 59, 60, 61, 24, 62, 27, 67, 68, 69, 70, 109, 110] rfl (by decide +kernel)
set_option maxRecDepth 20000 in
theorem gX10_encodeValue_X6_addWord : GoodIn wsX10_encodeValue (wsV RX10 129 RX6 yX6_addWord wsX6_addWord) := goodIn_app (goodIn_of _ (by decide +kernel)) ggX10_encodeValue_X6_addWord
set_option maxRecDepth 20000 in
theorem ggX10_encodeValue_X10_refer : GoodIn wsX10_encodeValue wsX10_refer := goodIn_r _ [74, 75, 76, 77, 44, 78, 3, 79, 80, 81, 82, 39, 83, 84, 99, 100, 101, 102, 103, 104, 105, 106, 85, 86, 87, 88, 89, 90, 91, 92, 111, 112, 113, 114, 115, 116, 117] rfl (by decide +kernel)
set_option maxRecDepth 20000 in
theorem gX10_encodeValue_X10_refer : GoodIn wsX10_encodeValue (wsV RX10 203 RX10 yX10_refer wsX10_refer) := goodIn_app (goodIn_of _ (by decide +kernel)) ggX10_encodeValue_X10_refer
theorem dX10_encodeValue_0 : decode cX10_encodeValue 0 = .ok (.aload_n 0, 1) := by decide +kernel
theorem dX10_encodeValue_1 : decode cX10_encodeValue 1 = .ok (.getfield 37, 3) := by decide +kernel
theorem dX10_encodeValue_4 : decode cX10_encodeValue 4 = .ok (.getfield 112, 3) := by decide +kernel
theorem dX10_encodeValue_7 : decode cX10_encodeValue 7 = .ok (.aload_n 2, 1) := by decide +kernel
theorem dX10_encodeValue_8 : decode cX10_encodeValue 8 = .ok (.invokevirtual 115, 3) := by decide +kernel
theorem dX10_encodeValue_11 : decode cX10_encodeValue 11 = .ok (.istore_n 3, 1) := by decide +kernel
theorem dX10_encodeValue_12 : decode cX10_encodeValue 12 = .ok (.aload_n 0, 1) := by decide +kernel
theorem dX10_encodeValue_13 : decode cX10_encodeValue 13 = .ok (.getfield 12, 3) := by decide +kernel
theorem dX10_encodeValue_16 : decode cX10_encodeValue 16 = .ok (.aload_n 2, 1) := by decide +kernel
theorem dX10_encodeValue_17 : decode cX10_encodeValue 17 = .ok (.getfield 119, 3) := by decide +kernel
theorem dX10_encodeValue_20 : decode cX10_encodeValue 20 = .ok (.aload_n 0, 1) := by decide +kernel
theorem dX10_encodeValue_21 : decode cX10_encodeValue 21 = .ok (.getfield 37, 3) := by decide +kernel
theorem dX10_encodeValue_24 : decode cX10_encodeValue 24 = .ok (.getfield 88, 3) := by decide +kernel
theorem dX10_encodeValue_27 : decode cX10_encodeValue 27 = .ok (.aload_n 0, 1) := by decide +kernel
theorem dX10_encodeValue_28 : decode cX10_encodeValue 28 = .ok (.invokevirtual 190, 3) := by decide +kernel
theorem dX10_encodeValue_31 : decode cX10_encodeValue 31 = .ok (.invokevirtual 125, 3) := by decide +kernel
theorem dX10_encodeValue_34 : decode cX10_encodeValue 34 = .ok (.istore 4, 2) := by decide +kernel
theorem dX10_encodeValue_36 : decode cX10_encodeValue 36 = .ok (.iload_n 3, 1) := by decide +kernel
theorem dX10_encodeValue_37 : decode cX10_encodeValue 37 = .ok (.ifCond .lt 17, 3) := by decide +kernel
theorem dX10_encodeValue_40 : decode cX10_encodeValue 40 = .ok (.aload_n 0, 1) := by decide +kernel
theorem dX10_encodeValue_41 : decode cX10_encodeValue 41 = .ok (.getfield 34, 3) := by decide +kernel
theorem dX10_encodeValue_44 : decode cX10_encodeValue 44 = .ok (.bipush 80, 2) := by decide +kernel
theorem dX10_encodeValue_46 : decode cX10_encodeValue 46 = .ok (.iconst 4, 1) := by decide +kernel
theorem dX10_encodeValue_47 : decode cX10_encodeValue 47 = .ok (.iload_n 3, 1) := by decide +kernel
theorem dX10_encodeValue_48 : decode cX10_encodeValue 48 = .ok (.invokevirtual 69, 3) := by decide +kernel
theorem dX10_encodeValue_51 : decode cX10_encodeValue 51 = .ok (.goto 85, 3) := by decide +kernel
theorem dX10_encodeValue_54 : decode cX10_encodeValue 54 = .ok (.iload 4, 2) := by decide +kernel
theorem dX10_encodeValue_56 : decode cX10_encodeValue 56 = .ok (.ifCond .ge 19, 3) := by decide +kernel
theorem dX10_encodeValue_59 : decode cX10_encodeValue 59 = .ok (.aload_n 0, 1) := by decide +kernel
theorem dX10_encodeValue_60 : decode cX10_encodeValue 60 = .ok (.getfield 34, 3) := by decide +kernel
theorem dX10_encodeValue_63 : decode cX10_encodeValue 63 = .ok (.bipush 32, 2) := by decide +kernel
theorem dX10_encodeValue_65 : decode cX10_encodeValue 65 = .ok (.aload_n 2, 1) := by decide +kernel
theorem dX10_encodeValue_66 : decode cX10_encodeValue 66 = .ok (.getfield 119, 3) := by decide +kernel
theorem dX10_encodeValue_69 : decode cX10_encodeValue 69 = .ok (.invokevirtual 129, 3) := by decide +kernel
theorem dX10_encodeValue_72 : decode cX10_encodeValue 72 = .ok (.goto 64, 3) := by decide +kernel
theorem dX10_encodeValue_75 : decode cX10_encodeValue 75 = .ok (.iload 4, 2) := by decide +kernel
theorem dX10_encodeValue_77 : decode cX10_encodeValue 77 = .ok (.aload_n 1, 1) := by decide +kernel
theorem dX10_encodeValue_78 : decode cX10_encodeValue 78 = .ok (.getfield 157, 3) := by decide +kernel
theorem dX10_encodeValue_81 : decode cX10_encodeValue 81 = .ok (.if_icmp .ge 32, 3) := by decide +kernel
theorem dX10_encodeValue_84 : decode cX10_encodeValue 84 = .ok (.aload_n 0, 1) := by decide +kernel
theorem dX10_encodeValue_85 : decode cX10_encodeValue 85 = .ok (.getfield 34, 3) := by decide +kernel
theorem dX10_encodeValue_88 : decode cX10_encodeValue 88 = .ok (.bipush 64, 2) := by decide +kernel
theorem dX10_encodeValue_90 : decode cX10_encodeValue 90 = .ok (.iconst 4, 1) := by decide +kernel
theorem dX10_encodeValue_91 : decode cX10_encodeValue 91 = .ok (.aload_n 1, 1) := by decide +kernel
theorem dX10_encodeValue_92 : decode cX10_encodeValue 92 = .ok (.getfield 157, 3) := by decide +kernel
theorem dX10_encodeValue_95 : decode cX10_encodeValue 95 = .ok (.iconst 1, 1) := by decide +kernel
theorem dX10_encodeValue_96 : decode cX10_encodeValue 96 = .ok (.isub, 1) := by decide +kernel
theorem dX10_encodeValue_97 : decode cX10_encodeValue 97 = .ok (.iload 4, 2) := by decide +kernel
theorem dX10_encodeValue_99 : decode cX10_encodeValue 99 = .ok (.isub, 1) := by decide +kernel
theorem dX10_encodeValue_100 : decode cX10_encodeValue 100 = .ok (.invokevirtual 69, 3) := by decide +kernel
theorem dX10_encodeValue_103 : decode cX10_encodeValue 103 = .ok (.aload_n 0, 1) := by decide +kernel
theorem dX10_encodeValue_104 : decode cX10_encodeValue 104 = .ok (.aload_n 1, 1) := by decide +kernel
theorem dX10_encodeValue_105 : decode cX10_encodeValue 105 = .ok (.iload 4, 2) := by decide +kernel
theorem dX10_encodeValue_107 : decode cX10_encodeValue 107 = .ok (.invokevirtual 203, 3) := by decide +kernel
theorem dX10_encodeValue_110 : decode cX10_encodeValue 110 = .ok (.goto 26, 3) := by decide +kernel
theorem dX10_encodeValue_113 : decode cX10_encodeValue 113 = .ok (.aload_n 0, 1) := by decide +kernel
theorem dX10_encodeValue_114 : decode cX10_encodeValue 114 = .ok (.getfield 34, 3) := by decide +kernel
theorem dX10_encodeValue_117 : decode cX10_encodeValue 117 = .ok (.iconst 0, 1) := by decide +kernel
theorem dX10_encodeValue_118 : decode cX10_encodeValue 118 = .ok (.iconst 3, 1) := by decide +kernel
theorem dX10_encodeValue_119 : decode cX10_encodeValue 119 = .ok (.iload 4, 2) := by decide +kernel
theorem dX10_encodeValue_121 : decode cX10_encodeValue 121 = .ok (.aload_n 1, 1) := by decide +kernel
theorem dX10_encodeValue_122 : decode cX10_encodeValue 122 = .ok (.getfield 157, 3) := by decide +kernel
theorem dX10_encodeValue_125 : decode cX10_encodeValue 125 = .ok (.isub, 1) := by decide +kernel
theorem dX10_encodeValue_126 : decode cX10_encodeValue 126 = .ok (.invokevirtual 69, 3) := by decide +kernel
theorem dX10_encodeValue_129 : decode cX10_encodeValue 129 = .ok (.aload_n 0, 1) := by decide +kernel
theorem dX10_encodeValue_130 : decode cX10_encodeValue 130 = .ok (.aload_n 1, 1) := by decide +kernel
theorem dX10_encodeValue_131 : decode cX10_encodeValue 131 = .ok (.iload 4, 2) := by decide +kernel
theorem dX10_encodeValue_133 : decode cX10_encodeValue 133 = .ok (.invokevirtual 203, 3) := by decide +kernel
theorem dX10_encodeValue_136 : decode cX10_encodeValue 136 = .ok (.aload_n 0, 1) := by decide +kernel
theorem dX10_encodeValue_137 : decode cX10_encodeValue 137 = .ok (.getfield 34, 3) := by decide +kernel
theorem dX10_encodeValue_140 : decode cX10_encodeValue 140 = .ok (.iconst 0, 1) := by decide +kernel
theorem dX10_encodeValue_141 : decode cX10_encodeValue 141 = .ok (.aload_n 2, 1) := by decide +kernel
theorem dX10_encodeValue_142 : decode cX10_encodeValue 142 = .ok (.getfield 133, 3) := by decide +kernel
theorem dX10_encodeValue_145 : decode cX10_encodeValue 145 = .ok (.invokevirtual 129, 3) := by decide +kernel
theorem dX10_encodeValue_148 : decode cX10_encodeValue 148 = .ok (.return_, 1) := by decide +kernel
theorem dX10_top_0 : decode cX10_top 0 = .ok (.aload_n 0, 1) := by decide +kernel
theorem dX10_top_1 : decode cX10_top 1 = .ok (.getfield 150, 3) := by decide +kernel
theorem dX10_top_4 : decode cX10_top 4 = .ok (.ifCond .eq 13, 3) := by decide +kernel
theorem dX10_top_7 : decode cX10_top 7 = .ok (.aload_n 0, 1) := by decide +kernel
theorem dX10_top_8 : decode cX10_top 8 = .ok (.getfield 12, 3) := by decide +kernel
theorem dX10_top_11 : decode cX10_top 11 = .ok (.getfield 122, 3) := by decide +kernel
theorem dX10_top_14 : decode cX10_top 14 = .ok (.goto 7, 3) := by decide +kernel
theorem dX10_top_17 : decode cX10_top 17 = .ok (.aload_n 0, 1) := by decide +kernel
theorem dX10_top_18 : decode cX10_top 18 = .ok (.getfield 45, 3) := by decide +kernel
theorem dX10_top_21 : decode cX10_top 21 = .ok (.ireturn, 1) := by decide +kernel
set_option maxRecDepth 20000 in
theorem ggX10_refer_X9_hold : GoodIn wsX10_refer wsX9_hold := goodIn_r _ [12, 13, 30, 31, 32, 33, 34, 35, 36] rfl (by decide +kernel)
set_option maxRecDepth 20000 in
theorem gX10_refer_X9_hold : GoodIn wsX10_refer (wsV RX10 215 RX9 yX9_hold wsX9_hold) := goodIn_app (goodIn_of _ (by decide +kernel)) ggX10_refer_X9_hold
theorem dX10_refer_0 : decode cX10_refer 0 = .ok (.aload_n 1, 1) := by decide +kernel
theorem dX10_refer_1 : decode cX10_refer 1 = .ok (.aload_n 1, 1) := by decide +kernel
theorem dX10_refer_2 : decode cX10_refer 2 = .ok (.getfield 184, 3) := by decide +kernel
theorem dX10_refer_5 : decode cX10_refer 5 = .ok (.iload_n 2, 1) := by decide +kernel
theorem dX10_refer_6 : decode cX10_refer 6 = .ok (.iconst 1, 1) := by decide +kernel
theorem dX10_refer_7 : decode cX10_refer 7 = .ok (.iadd, 1) := by decide +kernel
theorem dX10_refer_8 : decode cX10_refer 8 = .ok (.invokestatic 207, 3) := by decide +kernel
theorem dX10_refer_11 : decode cX10_refer 11 = .ok (.putfield 184, 3) := by decide +kernel
theorem dX10_refer_14 : decode cX10_refer 14 = .ok (.aload_n 0, 1) := by decide +kernel
theorem dX10_refer_15 : decode cX10_refer 15 = .ok (.getfield 12, 3) := by decide +kernel
theorem dX10_refer_18 : decode cX10_refer 18 = .ok (.iload_n 2, 1) := by decide +kernel
theorem dX10_refer_19 : decode cX10_refer 19 = .ok (.aload_n 1, 1) := by decide +kernel
theorem dX10_refer_20 : decode cX10_refer 20 = .ok (.getfield 212, 3) := by decide +kernel
theorem dX10_refer_23 : decode cX10_refer 23 = .ok (.invokevirtual 215, 3) := by decide +kernel
theorem dX10_refer_26 : decode cX10_refer 26 = .ok (.return_, 1) := by decide +kernel
set_option maxRecDepth 20000 in
theorem ggX10_hear_X1_at : GoodIn wsX10_hear wsX1_at := goodIn_r _ [14, 15, 16, 40, 41] rfl (by decide +kernel)
set_option maxRecDepth 20000 in
theorem gX10_hear_X1_at : GoodIn wsX10_hear (wsV RX10 219 RX1 yX1_at wsX1_at) := goodIn_app (goodIn_of _ (by decide +kernel)) ggX10_hear_X1_at
set_option maxRecDepth 20000 in
theorem ggX10_hear_X9_release : GoodIn wsX10_hear wsX9_release := goodIn_r _ [21, 22, 23, 42, 43, 44, 45, 46, 47, 48] rfl (by decide +kernel)
set_option maxRecDepth 20000 in
theorem gX10_hear_X9_release : GoodIn wsX10_hear (wsV RX10 227 RX9 yX9_release wsX9_release) := goodIn_app (goodIn_of _ (by decide +kernel)) ggX10_hear_X9_release
theorem dX10_hear_0 : decode cX10_hear 0 = .ok (.iload_n 1, 1) := by decide +kernel
theorem dX10_hear_1 : decode cX10_hear 1 = .ok (.ifCond .ge 4, 3) := by decide +kernel
theorem dX10_hear_4 : decode cX10_hear 4 = .ok (.return_, 1) := by decide +kernel
theorem dX10_hear_5 : decode cX10_hear 5 = .ok (.iload_n 1, 1) := by decide +kernel
theorem dX10_hear_6 : decode cX10_hear 6 = .ok (.bipush 64, 2) := by decide +kernel
theorem dX10_hear_8 : decode cX10_hear 8 = .ok (.if_icmp .ge 14, 3) := by decide +kernel
theorem dX10_hear_11 : decode cX10_hear 11 = .ok (.aload_n 0, 1) := by decide +kernel
theorem dX10_hear_12 : decode cX10_hear 12 = .ok (.dup, 1) := by decide +kernel
theorem dX10_hear_13 : decode cX10_hear 13 = .ok (.getfield 45, 3) := by decide +kernel
theorem dX10_hear_16 : decode cX10_hear 16 = .ok (.iload_n 1, 1) := by decide +kernel
theorem dX10_hear_17 : decode cX10_hear 17 = .ok (.iadd, 1) := by decide +kernel
theorem dX10_hear_18 : decode cX10_hear 18 = .ok (.putfield 45, 3) := by decide +kernel
theorem dX10_hear_21 : decode cX10_hear 21 = .ok (.return_, 1) := by decide +kernel
theorem dX10_hear_22 : decode cX10_hear 22 = .ok (.aload_n 2, 1) := by decide +kernel
theorem dX10_hear_23 : decode cX10_hear 23 = .ok (.iload_n 1, 1) := by decide +kernel
theorem dX10_hear_24 : decode cX10_hear 24 = .ok (.sipush 128, 3) := by decide +kernel
theorem dX10_hear_27 : decode cX10_hear 27 = .ok (.if_icmp .ge 10, 3) := by decide +kernel
theorem dX10_hear_30 : decode cX10_hear 30 = .ok (.iload_n 1, 1) := by decide +kernel
theorem dX10_hear_31 : decode cX10_hear 31 = .ok (.bipush 64, 2) := by decide +kernel
theorem dX10_hear_33 : decode cX10_hear 33 = .ok (.isub, 1) := by decide +kernel
theorem dX10_hear_34 : decode cX10_hear 34 = .ok (.goto 8, 3) := by decide +kernel
theorem dX10_hear_37 : decode cX10_hear 37 = .ok (.iload_n 1, 1) := by decide +kernel
theorem dX10_hear_38 : decode cX10_hear 38 = .ok (.sipush 128, 3) := by decide +kernel
theorem dX10_hear_41 : decode cX10_hear 41 = .ok (.isub, 1) := by decide +kernel
theorem dX10_hear_42 : decode cX10_hear 42 = .ok (.invokevirtual 219, 3) := by decide +kernel
theorem dX10_hear_45 : decode cX10_hear 45 = .ok (.astore_n 3, 1) := by decide +kernel
theorem dX10_hear_46 : decode cX10_hear 46 = .ok (.aload_n 3, 1) := by decide +kernel
theorem dX10_hear_47 : decode cX10_hear 47 = .ok (.ifnonnull 4, 3) := by decide +kernel
theorem dX10_hear_50 : decode cX10_hear 50 = .ok (.return_, 1) := by decide +kernel
theorem dX10_hear_51 : decode cX10_hear 51 = .ok (.aload_n 3, 1) := by decide +kernel
theorem dX10_hear_52 : decode cX10_hear 52 = .ok (.iconst 1, 1) := by decide +kernel
theorem dX10_hear_53 : decode cX10_hear 53 = .ok (.putfield 224, 3) := by decide +kernel
theorem dX10_hear_56 : decode cX10_hear 56 = .ok (.aload_n 0, 1) := by decide +kernel
theorem dX10_hear_57 : decode cX10_hear 57 = .ok (.getfield 12, 3) := by decide +kernel
theorem dX10_hear_60 : decode cX10_hear 60 = .ok (.aload_n 3, 1) := by decide +kernel
theorem dX10_hear_61 : decode cX10_hear 61 = .ok (.getfield 212, 3) := by decide +kernel
theorem dX10_hear_64 : decode cX10_hear 64 = .ok (.invokevirtual 227, 3) := by decide +kernel
theorem dX10_hear_67 : decode cX10_hear 67 = .ok (.iload_n 1, 1) := by decide +kernel
theorem dX10_hear_68 : decode cX10_hear 68 = .ok (.sipush 128, 3) := by decide +kernel
theorem dX10_hear_71 : decode cX10_hear 71 = .ok (.if_icmp .lt 18, 3) := by decide +kernel
theorem dX10_hear_74 : decode cX10_hear 74 = .ok (.aload_n 0, 1) := by decide +kernel
theorem dX10_hear_75 : decode cX10_hear 75 = .ok (.aload_n 0, 1) := by decide +kernel
theorem dX10_hear_76 : decode cX10_hear 76 = .ok (.getfield 45, 3) := by decide +kernel
theorem dX10_hear_79 : decode cX10_hear 79 = .ok (.aload_n 3, 1) := by decide +kernel
theorem dX10_hear_80 : decode cX10_hear 80 = .ok (.getfield 184, 3) := by decide +kernel
theorem dX10_hear_83 : decode cX10_hear 83 = .ok (.invokestatic 207, 3) := by decide +kernel
theorem dX10_hear_86 : decode cX10_hear 86 = .ok (.putfield 45, 3) := by decide +kernel
theorem dX10_hear_89 : decode cX10_hear 89 = .ok (.return_, 1) := by decide +kernel
set_option maxRecDepth 20000 in
theorem ggX11_init_X6_init : GoodIn wsX11_init wsX6_init := goodIn_r _ [38, 39, 2, 3, 40, 41, 42, 43, 44, 45, 133, 134] rfl (by decide +kernel)
set_option maxRecDepth 20000 in
theorem gX11_init_X6_init : GoodIn wsX11_init (wsX6_init) := ggX11_init_X6_init
set_option maxRecDepth 20000 in
theorem ggX11_init_X4_init : GoodIn wsX11_init wsX4_init := goodIn_r _ [48, 49, 2, 3, 50, 146, 147, 148, 149, 150, 151] rfl (by decide +kernel)
set_option maxRecDepth 20000 in
theorem gX11_init_X4_init : GoodIn wsX11_init (wsX4_init) := ggX11_init_X4_init
set_option maxRecDepth 20000 in
theorem ggX11_init_X7_init : GoodIn wsX11_init wsX7_init := goodIn_r _ [52, 53, 2, 3, 54, 55, 56, 57, 58, 59, 60, 61, 62, 63, 64, 65, 41, 42, 43, 66, 67, 68, 69, 70, 71, 72, 73, 5, 6, 74, 75, 76, 37, 38, 39, 40, 44, 45, 177, 178, 152, 153, 154, 155, 179, 180, 133, 134] rfl (by decide +kernel)
set_option maxRecDepth 20000 in
theorem gX11_init_X7_init_n35 : GoodIn wsX11_init (wsX7_init) := ggX11_init_X7_init
set_option maxRecDepth 20000 in
theorem ggX11_init_X1_init : GoodIn wsX11_init wsX1_init := goodIn_r _ [79, 80, 2, 3, 81, 82, 33, 34, 83, 84, 85, 86, 87, 5, 6, 88, 89, 90, 91, 37, 38, 39, 40, 41, 42, 43, 44, 45, 156, 157, 169, 170, 171, 172, 173, 174, 175, 176, 133, 134] rfl (by decide +kernel)
set_option maxRecDepth 20000 in
theorem gX11_init_X1_init : GoodIn wsX11_init (wsX1_init) := ggX11_init_X1_init
set_option maxRecDepth 20000 in
theorem ggX11_init_X10_init : GoodIn wsX11_init wsX10_init := goodIn_r _ [94, 95, 2, 3, 96, 97, 98, 99, 100, 101, 102, 103, 104, 5, 6, 105, 106, 107, 108, 109, 110, 44, 111, 112, 113, 114, 115, 116, 117, 118, 119, 120, 121, 122, 37, 38, 39, 40, 41, 42, 43, 45, 123, 181, 182, 183, 184, 185, 186, 187, 158, 159, 160, 161, 162, 163, 164, 165, 188, 189, 190, 191, 192, 133, 134] rfl (by decide +kernel)
set_option maxRecDepth 20000 in
theorem gX11_init_X10_init : GoodIn wsX11_init (wsX10_init) := ggX11_init_X10_init
set_option maxRecDepth 20000 in
theorem ggX11_init_X5_init : GoodIn wsX11_init wsX5_init := goodIn_r _ [125, 126, 2, 3, 127, 97, 98, 128, 129, 5, 6, 130, 108, 109, 110, 44, 111, 112, 113, 114, 131, 37, 38, 39, 40, 41, 42, 43, 45, 181, 182, 183, 184, 185, 186, 187, 166, 167, 168, 133, 134] rfl (by decide +kernel)
set_option maxRecDepth 20000 in
theorem gX11_init_X5_init_n61 : GoodIn wsX11_init (wsX5_init) := ggX11_init_X5_init
set_option maxRecDepth 20000 in
theorem ggX11_init_X0_init : GoodIn wsX11_init wsX0_init := goodIn_r _ [85, 86, 2, 3, 87, 5, 6, 88, 89, 90, 91, 37, 38, 39, 40, 41, 42, 43, 44, 45, 133, 134, 169, 170, 171, 172, 173, 174, 175, 176] rfl (by decide +kernel)
set_option maxRecDepth 20000 in
theorem gX11_init_X0_init : GoodIn wsX11_init (wsX0_init) := ggX11_init_X0_init
theorem dX11_init_0 : decode cX11_init 0 = .ok (.aload_n 0, 1) := by decide +kernel
theorem dX11_init_1 : decode cX11_init 1 = .ok (.invokespecial 1, 3) := by decide +kernel
theorem dX11_init_4 : decode cX11_init 4 = .ok (.aload_n 0, 1) := by decide +kernel
theorem dX11_init_5 : decode cX11_init 5 = .ok (.new 7, 3) := by decide +kernel
theorem dX11_init_8 : decode cX11_init 8 = .ok (.dup, 1) := by decide +kernel
theorem dX11_init_9 : decode cX11_init 9 = .ok (.sipush 200, 3) := by decide +kernel
theorem dX11_init_12 : decode cX11_init 12 = .ok (.invokespecial 11, 3) := by decide +kernel
theorem dX11_init_15 : decode cX11_init 15 = .ok (.putfield 14, 3) := by decide +kernel
theorem dX11_init_18 : decode cX11_init 18 = .ok (.aload_n 0, 1) := by decide +kernel
theorem dX11_init_19 : decode cX11_init 19 = .ok (.new 7, 3) := by decide +kernel
theorem dX11_init_22 : decode cX11_init 22 = .ok (.dup, 1) := by decide +kernel
theorem dX11_init_23 : decode cX11_init 23 = .ok (.bipush 6, 2) := by decide +kernel
theorem dX11_init_25 : decode cX11_init 25 = .ok (.invokespecial 11, 3) := by decide +kernel
theorem dX11_init_28 : decode cX11_init 28 = .ok (.putfield 18, 3) := by decide +kernel
theorem dX11_init_31 : decode cX11_init 31 = .ok (.aload_n 0, 1) := by decide +kernel
theorem dX11_init_32 : decode cX11_init 32 = .ok (.new 7, 3) := by decide +kernel
theorem dX11_init_35 : decode cX11_init 35 = .ok (.dup, 1) := by decide +kernel
theorem dX11_init_36 : decode cX11_init 36 = .ok (.bipush 8, 2) := by decide +kernel
theorem dX11_init_38 : decode cX11_init 38 = .ok (.invokespecial 11, 3) := by decide +kernel
theorem dX11_init_41 : decode cX11_init 41 = .ok (.putfield 21, 3) := by decide +kernel
theorem dX11_init_44 : decode cX11_init 44 = .ok (.aload_n 0, 1) := by decide +kernel
theorem dX11_init_45 : decode cX11_init 45 = .ok (.new 24, 3) := by decide +kernel
theorem dX11_init_48 : decode cX11_init 48 = .ok (.dup, 1) := by decide +kernel
theorem dX11_init_49 : decode cX11_init 49 = .ok (.aload_n 0, 1) := by decide +kernel
theorem dX11_init_50 : decode cX11_init 50 = .ok (.getfield 14, 3) := by decide +kernel
theorem dX11_init_53 : decode cX11_init 53 = .ok (.invokespecial 26, 3) := by decide +kernel
theorem dX11_init_56 : decode cX11_init 56 = .ok (.putfield 29, 3) := by decide +kernel
theorem dX11_init_59 : decode cX11_init 59 = .ok (.aload_n 0, 1) := by decide +kernel
theorem dX11_init_60 : decode cX11_init 60 = .ok (.new 33, 3) := by decide +kernel
theorem dX11_init_63 : decode cX11_init 63 = .ok (.dup, 1) := by decide +kernel
theorem dX11_init_64 : decode cX11_init 64 = .ok (.invokespecial 35, 3) := by decide +kernel
theorem dX11_init_67 : decode cX11_init 67 = .ok (.putfield 36, 3) := by decide +kernel
theorem dX11_init_70 : decode cX11_init 70 = .ok (.aload_n 0, 1) := by decide +kernel
theorem dX11_init_71 : decode cX11_init 71 = .ok (.new 33, 3) := by decide +kernel
theorem dX11_init_74 : decode cX11_init 74 = .ok (.dup, 1) := by decide +kernel
theorem dX11_init_75 : decode cX11_init 75 = .ok (.invokespecial 35, 3) := by decide +kernel
theorem dX11_init_78 : decode cX11_init 78 = .ok (.putfield 40, 3) := by decide +kernel
theorem dX11_init_81 : decode cX11_init 81 = .ok (.aload_n 0, 1) := by decide +kernel
theorem dX11_init_82 : decode cX11_init 82 = .ok (.new 43, 3) := by decide +kernel
theorem dX11_init_85 : decode cX11_init 85 = .ok (.dup, 1) := by decide +kernel
theorem dX11_init_86 : decode cX11_init 86 = .ok (.invokespecial 45, 3) := by decide +kernel
theorem dX11_init_89 : decode cX11_init 89 = .ok (.putfield 46, 3) := by decide +kernel
theorem dX11_init_92 : decode cX11_init 92 = .ok (.aload_n 0, 1) := by decide +kernel
theorem dX11_init_93 : decode cX11_init 93 = .ok (.new 50, 3) := by decide +kernel
theorem dX11_init_96 : decode cX11_init 96 = .ok (.dup, 1) := by decide +kernel
theorem dX11_init_97 : decode cX11_init 97 = .ok (.aload_n 0, 1) := by decide +kernel
theorem dX11_init_98 : decode cX11_init 98 = .ok (.getfield 36, 3) := by decide +kernel
theorem dX11_init_101 : decode cX11_init 101 = .ok (.invokespecial 52, 3) := by decide +kernel
theorem dX11_init_104 : decode cX11_init 104 = .ok (.putfield 55, 3) := by decide +kernel
theorem dX11_init_107 : decode cX11_init 107 = .ok (.aload_n 0, 1) := by decide +kernel
theorem dX11_init_108 : decode cX11_init 108 = .ok (.new 59, 3) := by decide +kernel
theorem dX11_init_111 : decode cX11_init 111 = .ok (.dup, 1) := by decide +kernel
theorem dX11_init_112 : decode cX11_init 112 = .ok (.invokespecial 61, 3) := by decide +kernel
theorem dX11_init_115 : decode cX11_init 115 = .ok (.putfield 62, 3) := by decide +kernel
theorem dX11_init_118 : decode cX11_init 118 = .ok (.aload_n 0, 1) := by decide +kernel
theorem dX11_init_119 : decode cX11_init 119 = .ok (.new 50, 3) := by decide +kernel
theorem dX11_init_122 : decode cX11_init 122 = .ok (.dup, 1) := by decide +kernel
theorem dX11_init_123 : decode cX11_init 123 = .ok (.aload_n 0, 1) := by decide +kernel
theorem dX11_init_124 : decode cX11_init 124 = .ok (.getfield 36, 3) := by decide +kernel
theorem dX11_init_127 : decode cX11_init 127 = .ok (.invokespecial 52, 3) := by decide +kernel
theorem dX11_init_130 : decode cX11_init 130 = .ok (.putfield 66, 3) := by decide +kernel
theorem dX11_init_133 : decode cX11_init 133 = .ok (.aload_n 0, 1) := by decide +kernel
theorem dX11_init_134 : decode cX11_init 134 = .ok (.new 69, 3) := by decide +kernel
theorem dX11_init_137 : decode cX11_init 137 = .ok (.dup, 1) := by decide +kernel
theorem dX11_init_138 : decode cX11_init 138 = .ok (.bipush 40, 2) := by decide +kernel
theorem dX11_init_140 : decode cX11_init 140 = .ok (.invokespecial 71, 3) := by decide +kernel
theorem dX11_init_143 : decode cX11_init 143 = .ok (.putfield 72, 3) := by decide +kernel
theorem dX11_init_146 : decode cX11_init 146 = .ok (.return_, 1) := by decide +kernel
set_option maxRecDepth 20000 in
theorem ggX11_restart_X6_empty : GoodIn wsX11_restart wsX6_empty := goodIn_r _ [12, 13, 64, 65] rfl (by decide +kernel)
set_option maxRecDepth 20000 in
theorem gX11_restart_X6_empty : GoodIn wsX11_restart (wsV RX11 76 RX6 yX6_empty wsX6_empty) := goodIn_app (goodIn_of _ (by decide +kernel)) ggX11_restart_X6_empty
set_option maxRecDepth 20000 in
theorem ggX11_restart_X10_restart : GoodIn wsX11_restart wsX10_restart := goodIn_r _ [18, 19, 20, 21, 22, 23, 24, 25, 26, 27, 28, 29, 30, 31, 32, 33, 34, 35, 36, 37, 38, 39, 40, 9, 10, 11, 12, 13, 66, 67, 68, 69, 70, 71, 72, 73, 74, 75, 76, 77, 78, 79, 80, 81, 82, 83, 84, 85, 64, 65] rfl (by decide +kernel)
set_option maxRecDepth 20000 in
theorem gX11_restart_X10_restart : GoodIn wsX11_restart (wsV RX11 83 RX10 yX10_restart wsX10_restart) := goodIn_app (goodIn_of _ (by decide +kernel)) ggX11_restart_X10_restart
set_option maxRecDepth 20000 in
theorem ggX11_restart_X5_restart : GoodIn wsX11_restart wsX5_restart := goodIn_r _ [45, 46, 47, 48, 49, 24, 25, 26, 27, 28, 29, 30, 31, 50, 9, 10, 11, 12, 13, 86, 87, 88, 74, 75, 76, 77, 78, 79, 80, 64, 65] rfl (by decide +kernel)
set_option maxRecDepth 20000 in
theorem gX11_restart_X5_restart : GoodIn wsX11_restart (wsV RX11 86 RX5 yX5_restart wsX5_restart) := goodIn_app (goodIn_of _ (by decide +kernel)) ggX11_restart_X5_restart
theorem dX11_restart_0 : decode cX11_restart 0 = .ok (.aload_n 0, 1) := by decide +kernel
theorem dX11_restart_1 : decode cX11_restart 1 = .ok (.getfield 14, 3) := by decide +kernel
theorem dX11_restart_4 : decode cX11_restart 4 = .ok (.invokevirtual 76, 3) := by decide +kernel
theorem dX11_restart_7 : decode cX11_restart 7 = .ok (.aload_n 0, 1) := by decide +kernel
theorem dX11_restart_8 : decode cX11_restart 8 = .ok (.getfield 18, 3) := by decide +kernel
theorem dX11_restart_11 : decode cX11_restart 11 = .ok (.invokevirtual 76, 3) := by decide +kernel
theorem dX11_restart_14 : decode cX11_restart 14 = .ok (.aload_n 0, 1) := by decide +kernel
theorem dX11_restart_15 : decode cX11_restart 15 = .ok (.getfield 46, 3) := by decide +kernel
theorem dX11_restart_18 : decode cX11_restart 18 = .ok (.iconst 0, 1) := by decide +kernel
theorem dX11_restart_19 : decode cX11_restart 19 = .ok (.putfield 79, 3) := by decide +kernel
theorem dX11_restart_22 : decode cX11_restart 22 = .ok (.aload_n 0, 1) := by decide +kernel
theorem dX11_restart_23 : decode cX11_restart 23 = .ok (.getfield 55, 3) := by decide +kernel
theorem dX11_restart_26 : decode cX11_restart 26 = .ok (.aload_n 0, 1) := by decide +kernel
theorem dX11_restart_27 : decode cX11_restart 27 = .ok (.getfield 36, 3) := by decide +kernel
theorem dX11_restart_30 : decode cX11_restart 30 = .ok (.invokevirtual 83, 3) := by decide +kernel
theorem dX11_restart_33 : decode cX11_restart 33 = .ok (.aload_n 0, 1) := by decide +kernel
theorem dX11_restart_34 : decode cX11_restart 34 = .ok (.getfield 62, 3) := by decide +kernel
theorem dX11_restart_37 : decode cX11_restart 37 = .ok (.invokevirtual 86, 3) := by decide +kernel
theorem dX11_restart_40 : decode cX11_restart 40 = .ok (.return_, 1) := by decide +kernel
set_option maxRecDepth 20000 in
theorem ggX11_type_X6_add : GoodIn wsX11_type wsX6_add := goodIn_r _ [7, 8, 9, 21, 22] rfl (by decide +kernel)
set_option maxRecDepth 20000 in
theorem gX11_type_X6_add : GoodIn wsX11_type (wsV RX11 88 RX6 yX6_add wsX6_add) := goodIn_app (goodIn_of _ (by decide +kernel)) ggX11_type_X6_add
theorem dX11_type_0 : decode cX11_type 0 = .ok (.iload_n 1, 1) := by decide +kernel
theorem dX11_type_1 : decode cX11_type 1 = .ok (.ifCond .lt 10, 3) := by decide +kernel
theorem dX11_type_4 : decode cX11_type 4 = .ok (.iload_n 1, 1) := by decide +kernel
theorem dX11_type_5 : decode cX11_type 5 = .ok (.sipush 255, 3) := by decide +kernel
theorem dX11_type_8 : decode cX11_type 8 = .ok (.if_icmp .le 5, 3) := by decide +kernel
theorem dX11_type_11 : decode cX11_type 11 = .ok (.iconst (-1), 1) := by decide +kernel
theorem dX11_type_12 : decode cX11_type 12 = .ok (.ireturn, 1) := by decide +kernel
theorem dX11_type_13 : decode cX11_type 13 = .ok (.aload_n 0, 1) := by decide +kernel
theorem dX11_type_14 : decode cX11_type 14 = .ok (.getfield 14, 3) := by decide +kernel
theorem dX11_type_17 : decode cX11_type 17 = .ok (.iload_n 1, 1) := by decide +kernel
theorem dX11_type_18 : decode cX11_type 18 = .ok (.invokevirtual 88, 3) := by decide +kernel
theorem dX11_type_21 : decode cX11_type 21 = .ok (.ifCond .eq 13, 3) := by decide +kernel
theorem dX11_type_24 : decode cX11_type 24 = .ok (.aload_n 0, 1) := by decide +kernel
theorem dX11_type_25 : decode cX11_type 25 = .ok (.getfield 14, 3) := by decide +kernel
theorem dX11_type_28 : decode cX11_type 28 = .ok (.getfield 92, 3) := by decide +kernel
theorem dX11_type_31 : decode cX11_type 31 = .ok (.goto 5, 3) := by decide +kernel
theorem dX11_type_34 : decode cX11_type 34 = .ok (.bipush (-3), 2) := by decide +kernel
theorem dX11_type_36 : decode cX11_type 36 = .ok (.ireturn, 1) := by decide +kernel
set_option maxRecDepth 20000 in
theorem ggX11_clear_X6_empty : GoodIn wsX11_clear wsX6_empty := goodIn_r _ [7, 8, 20, 21] rfl (by decide +kernel)
set_option maxRecDepth 20000 in
theorem gX11_clear_X6_empty : GoodIn wsX11_clear (wsV RX11 76 RX6 yX6_empty wsX6_empty) := goodIn_app (goodIn_of _ (by decide +kernel)) ggX11_clear_X6_empty
theorem dX11_clear_0 : decode cX11_clear 0 = .ok (.aload_n 0, 1) := by decide +kernel
theorem dX11_clear_1 : decode cX11_clear 1 = .ok (.getfield 14, 3) := by decide +kernel
theorem dX11_clear_4 : decode cX11_clear 4 = .ok (.getfield 92, 3) := by decide +kernel
theorem dX11_clear_7 : decode cX11_clear 7 = .ok (.istore_n 1, 1) := by decide +kernel
theorem dX11_clear_8 : decode cX11_clear 8 = .ok (.aload_n 0, 1) := by decide +kernel
theorem dX11_clear_9 : decode cX11_clear 9 = .ok (.getfield 14, 3) := by decide +kernel
theorem dX11_clear_12 : decode cX11_clear 12 = .ok (.invokevirtual 76, 3) := by decide +kernel
theorem dX11_clear_15 : decode cX11_clear 15 = .ok (.iload_n 1, 1) := by decide +kernel
theorem dX11_clear_16 : decode cX11_clear 16 = .ok (.ireturn, 1) := by decide +kernel
set_option maxRecDepth 20000 in
theorem ggX11_tells_X4_reads : GoodIn wsX11_tells wsX4_reads := goodIn_r _ [10, 11, 12, 13, 14, 15, 16, 17, 18, 19, 20, 21, 22, 23, 24, 25, 26, 27, 28, 29, 30, 9, 31, 32, 33, 34, 35, 36, 37, 38, 39, 40, 41, 42, 43, 44, 45, 46, 47, 48, 49, 50, 51, 52, 53, 54, 55, 56, 57, 58, 59, 60, 61, 62, 63, 64, 65, 66, 67, 68, 69, 70, 71, 72, 73, 74, 75, 76, 77, 78, 79, 80, 81, 82, 83, 84, 85, 86, 87, 88, 89, 90, 91, 92, 93, 94, 95, 96, 97, 98, 99, 100, 101, 102, 103, 104, 105, 106, 107, 108, 109, 110, 111, 112, 113, 114, 115, 116, 117, 118, 119, 120, 121, 122, 123, 124, 125, 126, 127, 128, 129, 130, 131, 132, 133, 134, 135, 136, 137, 138, 139, 140, 141, 142, 143, 144, 145, 146, 147, 148, 149, 150, 151, 152, 153, 154, 155, 156, 157, 218, 219, 220, 221, 222, 223, 224, 225, 226, 227, 228, 229, 230, 231, 232, 233] rfl (by decide +kernel)
set_option maxRecDepth 20000 in
theorem gX11_tells_X4_reads : GoodIn wsX11_tells (wsV RX11 93 RX4 yX4_reads wsX4_reads) := goodIn_app (goodIn_of _ (by decide +kernel)) ggX11_tells_X4_reads
set_option maxRecDepth 20000 in
theorem ggX11_tells_X11_restart : GoodIn wsX11_tells wsX11_restart := goodIn_r _ [162, 163, 164, 165, 166, 167, 4, 168, 169, 137, 138, 35, 139, 37, 170, 171, 172, 173, 174, 175, 176, 177, 178, 179, 180, 181, 182, 183, 184, 185, 186, 187, 188, 189, 190, 191, 192, 193, 194, 195, 196, 197, 198, 199, 200, 201, 202, 203, 204, 205, 206, 207, 208, 209, 210, 211, 212, 213, 214, 215, 216, 217, 234, 235, 224, 225, 236, 237, 238, 239, 240, 241, 242, 243, 244, 245, 246, 247, 248, 249, 250, 251, 252, 253, 254, 255, 256, 257, 258] rfl (by decide +kernel)
set_option maxRecDepth 20000 in
theorem gX11_tells_X11_restart : GoodIn wsX11_tells (wsV RX11 100 RX11 yX11_restart wsX11_restart) := goodIn_app (goodIn_of _ (by decide +kernel)) ggX11_tells_X11_restart
theorem dX11_tells_0 : decode cX11_tells 0 = .ok (.aload_n 0, 1) := by decide +kernel
theorem dX11_tells_1 : decode cX11_tells 1 = .ok (.getfield 29, 3) := by decide +kernel
theorem dX11_tells_4 : decode cX11_tells 4 = .ok (.aload_n 0, 1) := by decide +kernel
theorem dX11_tells_5 : decode cX11_tells 5 = .ok (.getfield 40, 3) := by decide +kernel
theorem dX11_tells_8 : decode cX11_tells 8 = .ok (.invokevirtual 93, 3) := by decide +kernel
theorem dX11_tells_11 : decode cX11_tells 11 = .ok (.ifCond .ne 14, 3) := by decide +kernel
theorem dX11_tells_14 : decode cX11_tells 14 = .ok (.bipush (-10), 2) := by decide +kernel
theorem dX11_tells_16 : decode cX11_tells 16 = .ok (.aload_n 0, 1) := by decide +kernel
theorem dX11_tells_17 : decode cX11_tells 17 = .ok (.getfield 29, 3) := by decide +kernel
theorem dX11_tells_20 : decode cX11_tells 20 = .ok (.getfield 97, 3) := by decide +kernel
theorem dX11_tells_23 : decode cX11_tells 23 = .ok (.isub, 1) := by decide +kernel
theorem dX11_tells_24 : decode cX11_tells 24 = .ok (.ireturn, 1) := by decide +kernel
theorem dX11_tells_25 : decode cX11_tells 25 = .ok (.aload_n 0, 1) := by decide +kernel
theorem dX11_tells_26 : decode cX11_tells 26 = .ok (.getfield 36, 3) := by decide +kernel
theorem dX11_tells_29 : decode cX11_tells 29 = .ok (.astore_n 1, 1) := by decide +kernel
theorem dX11_tells_30 : decode cX11_tells 30 = .ok (.aload_n 0, 1) := by decide +kernel
theorem dX11_tells_31 : decode cX11_tells 31 = .ok (.aload_n 0, 1) := by decide +kernel
theorem dX11_tells_32 : decode cX11_tells 32 = .ok (.getfield 40, 3) := by decide +kernel
theorem dX11_tells_35 : decode cX11_tells 35 = .ok (.putfield 36, 3) := by decide +kernel
theorem dX11_tells_38 : decode cX11_tells 38 = .ok (.aload_n 0, 1) := by decide +kernel
theorem dX11_tells_39 : decode cX11_tells 39 = .ok (.aload_n 1, 1) := by decide +kernel
theorem dX11_tells_40 : decode cX11_tells 40 = .ok (.putfield 40, 3) := by decide +kernel
theorem dX11_tells_43 : decode cX11_tells 43 = .ok (.aload_n 0, 1) := by decide +kernel
theorem dX11_tells_44 : decode cX11_tells 44 = .ok (.invokevirtual 100, 3) := by decide +kernel
theorem dX11_tells_47 : decode cX11_tells 47 = .ok (.aload_n 0, 1) := by decide +kernel
theorem dX11_tells_48 : decode cX11_tells 48 = .ok (.getfield 29, 3) := by decide +kernel
theorem dX11_tells_51 : decode cX11_tells 51 = .ok (.getfield 101, 3) := by decide +kernel
theorem dX11_tells_54 : decode cX11_tells 54 = .ok (.ireturn, 1) := by decide +kernel
set_option maxRecDepth 20000 in
theorem ggX11_spells_X3_at : GoodIn wsX11_spells wsX3_at := goodIn_r _ [11, 12, 13, 40, 41] rfl (by decide +kernel)
set_option maxRecDepth 20000 in
theorem gX11_spells_X3_at : GoodIn wsX11_spells (wsV RX11 108 RX3 yX3_at wsX3_at) := goodIn_app (goodIn_of _ (by decide +kernel)) ggX11_spells_X3_at
set_option maxRecDepth 20000 in
theorem ggX11_spells_X6_at : GoodIn wsX11_spells wsX6_at := goodIn_r _ [18, 19, 20, 38, 39] rfl (by decide +kernel)
set_option maxRecDepth 20000 in
theorem gX11_spells_X6_at : GoodIn wsX11_spells (wsV RX11 125 RX6 yX6_at wsX6_at) := goodIn_app (goodIn_of _ (by decide +kernel)) ggX11_spells_X6_at
theorem dX11_spells_0 : decode cX11_spells 0 = .ok (.iload_n 1, 1) := by decide +kernel
theorem dX11_spells_1 : decode cX11_spells 1 = .ok (.ifCond .lt 23, 3) := by decide +kernel
theorem dX11_spells_4 : decode cX11_spells 4 = .ok (.iload_n 1, 1) := by decide +kernel
theorem dX11_spells_5 : decode cX11_spells 5 = .ok (.iconst 1, 1) := by decide +kernel
theorem dX11_spells_6 : decode cX11_spells 6 = .ok (.if_icmp .gt 18, 3) := by decide +kernel
theorem dX11_spells_9 : decode cX11_spells 9 = .ok (.iload_n 3, 1) := by decide +kernel
theorem dX11_spells_10 : decode cX11_spells 10 = .ok (.ifCond .lt 14, 3) := by decide +kernel
theorem dX11_spells_13 : decode cX11_spells 13 = .ok (.iload_n 3, 1) := by decide +kernel
theorem dX11_spells_14 : decode cX11_spells 14 = .ok (.iconst 1, 1) := by decide +kernel
theorem dX11_spells_15 : decode cX11_spells 15 = .ok (.if_icmp .gt 9, 3) := by decide +kernel
theorem dX11_spells_18 : decode cX11_spells 18 = .ok (.iload 4, 2) := by decide +kernel
theorem dX11_spells_20 : decode cX11_spells 20 = .ok (.iconst (-1), 1) := by decide +kernel
theorem dX11_spells_21 : decode cX11_spells 21 = .ok (.if_icmp .ge 5, 3) := by decide +kernel
theorem dX11_spells_24 : decode cX11_spells 24 = .ok (.iconst (-1), 1) := by decide +kernel
theorem dX11_spells_25 : decode cX11_spells 25 = .ok (.ireturn, 1) := by decide +kernel
theorem dX11_spells_26 : decode cX11_spells 26 = .ok (.iload_n 1, 1) := by decide +kernel
theorem dX11_spells_27 : decode cX11_spells 27 = .ok (.ifCond .ne 17, 3) := by decide +kernel
theorem dX11_spells_30 : decode cX11_spells 30 = .ok (.aload_n 0, 1) := by decide +kernel
theorem dX11_spells_31 : decode cX11_spells 31 = .ok (.getfield 36, 3) := by decide +kernel
theorem dX11_spells_34 : decode cX11_spells 34 = .ok (.getfield 104, 3) := by decide +kernel
theorem dX11_spells_37 : decode cX11_spells 37 = .ok (.iload_n 2, 1) := by decide +kernel
theorem dX11_spells_38 : decode cX11_spells 38 = .ok (.invokevirtual 108, 3) := by decide +kernel
theorem dX11_spells_41 : decode cX11_spells 41 = .ok (.goto 14, 3) := by decide +kernel
theorem dX11_spells_44 : decode cX11_spells 44 = .ok (.aload_n 0, 1) := by decide +kernel
theorem dX11_spells_45 : decode cX11_spells 45 = .ok (.getfield 36, 3) := by decide +kernel
theorem dX11_spells_48 : decode cX11_spells 48 = .ok (.getfield 114, 3) := by decide +kernel
theorem dX11_spells_51 : decode cX11_spells 51 = .ok (.iload_n 2, 1) := by decide +kernel
theorem dX11_spells_52 : decode cX11_spells 52 = .ok (.invokevirtual 108, 3) := by decide +kernel
theorem dX11_spells_55 : decode cX11_spells 55 = .ok (.astore 5, 2) := by decide +kernel
theorem dX11_spells_57 : decode cX11_spells 57 = .ok (.aload 5, 2) := by decide +kernel
theorem dX11_spells_59 : decode cX11_spells 59 = .ok (.ifnonnull 5, 3) := by decide +kernel
theorem dX11_spells_62 : decode cX11_spells 62 = .ok (.iconst (-1), 1) := by decide +kernel
theorem dX11_spells_63 : decode cX11_spells 63 = .ok (.ireturn, 1) := by decide +kernel
theorem dX11_spells_64 : decode cX11_spells 64 = .ok (.iload_n 3, 1) := by decide +kernel
theorem dX11_spells_65 : decode cX11_spells 65 = .ok (.ifCond .ne 11, 3) := by decide +kernel
theorem dX11_spells_68 : decode cX11_spells 68 = .ok (.aload 5, 2) := by decide +kernel
theorem dX11_spells_70 : decode cX11_spells 70 = .ok (.getfield 117, 3) := by decide +kernel
theorem dX11_spells_73 : decode cX11_spells 73 = .ok (.goto 8, 3) := by decide +kernel
theorem dX11_spells_76 : decode cX11_spells 76 = .ok (.aload 5, 2) := by decide +kernel
theorem dX11_spells_78 : decode cX11_spells 78 = .ok (.getfield 122, 3) := by decide +kernel
theorem dX11_spells_81 : decode cX11_spells 81 = .ok (.astore 6, 2) := by decide +kernel
theorem dX11_spells_83 : decode cX11_spells 83 = .ok (.iload 4, 2) := by decide +kernel
theorem dX11_spells_85 : decode cX11_spells 85 = .ok (.iconst (-1), 1) := by decide +kernel
theorem dX11_spells_86 : decode cX11_spells 86 = .ok (.if_icmp .ne 11, 3) := by decide +kernel
theorem dX11_spells_89 : decode cX11_spells 89 = .ok (.aload 6, 2) := by decide +kernel
theorem dX11_spells_91 : decode cX11_spells 91 = .ok (.getfield 92, 3) := by decide +kernel
theorem dX11_spells_94 : decode cX11_spells 94 = .ok (.goto 10, 3) := by decide +kernel
theorem dX11_spells_97 : decode cX11_spells 97 = .ok (.aload 6, 2) := by decide +kernel
theorem dX11_spells_99 : decode cX11_spells 99 = .ok (.iload 4, 2) := by decide +kernel
theorem dX11_spells_101 : decode cX11_spells 101 = .ok (.invokevirtual 125, 3) := by decide +kernel
theorem dX11_spells_104 : decode cX11_spells 104 = .ok (.ireturn, 1) := by decide +kernel
set_option maxRecDepth 20000 in
theorem ggX11_capacity_X10_changeCapacity : GoodIn wsX11_capacity wsX10_changeCapacity := goodIn_r _ [6, 7, 8, 9, 10, 11, 12, 13, 14, 15, 16, 17, 18, 19, 20, 21, 22, 23, 24, 25, 26, 27, 28, 29, 30, 31, 32, 33, 34, 35, 36, 37, 38, 39, 40, 41, 42, 43, 44, 45, 46, 47, 48, 49, 50, 51, 52, 53, 54, 55, 56, 57, 58, 59, 60, 61, 62, 63, 64, 65, 66, 67, 68, 69, 70, 71, 72, 73, 74, 75, 76, 77, 78, 90, 91, 92, 93, 94, 95, 96, 97, 98, 99, 100, 101, 102, 103, 104, 105, 106, 107, 108, 109, 110, 111, 112, 113, 114, 115] rfl (by decide +kernel)
set_option maxRecDepth 20000 in
theorem gX11_capacity_X10_changeCapacity : GoodIn wsX11_capacity (wsV RX11 128 RX10 yX10_changeCapacity wsX10_changeCapacity) := goodIn_app (goodIn_of _ (by decide +kernel)) ggX11_capacity_X10_changeCapacity
theorem dX11_capacity_0 : decode cX11_capacity 0 = .ok (.aload_n 0, 1) := by decide +kernel
theorem dX11_capacity_1 : decode cX11_capacity 1 = .ok (.getfield 55, 3) := by decide +kernel
theorem dX11_capacity_4 : decode cX11_capacity 4 = .ok (.iload_n 1, 1) := by decide +kernel
theorem dX11_capacity_5 : decode cX11_capacity 5 = .ok (.invokevirtual 128, 3) := by decide +kernel
theorem dX11_capacity_8 : decode cX11_capacity 8 = .ok (.ireturn, 1) := by decide +kernel
set_option maxRecDepth 20000 in
theorem ggX11_inserts_X10_insertField : GoodIn wsX11_inserts wsX10_insertField := goodIn_r _ [6, 7, 8, 9, 10, 11, 12, 13, 14, 15, 16, 17, 18, 19, 20, 21, 22, 23, 24, 25, 5, 26, 27, 28, 29, 30, 31, 32, 33, 34, 35, 36, 37, 38, 39, 40, 41, 42, 43, 44, 45, 46, 47, 48, 49, 50, 51, 52, 53, 54, 55, 56, 57, 58, 59, 60, 61, 62, 63, 64, 65, 66, 67, 68, 69, 70, 71, 72, 73, 74, 75, 76, 77, 78, 79, 80, 81, 82, 83, 84, 85, 86, 87, 88, 89, 90, 91, 92, 93, 94, 95, 96, 97, 98, 99, 100, 101, 102, 103, 104, 105, 106, 107, 108, 109, 110, 111, 112, 113, 114, 115, 116, 117, 118, 119, 120, 121, 122, 123, 124, 125, 126, 127, 128, 129, 130, 142, 143, 144, 145, 146, 147, 148, 149, 150, 151, 152, 153, 154, 155, 156, 157, 158, 159, 160, 161, 162, 163, 164, 165, 166, 167, 168, 169, 170, 171] rfl (by decide +kernel)
set_option maxRecDepth 20000 in
theorem gX11_inserts_X10_insertField : GoodIn wsX11_inserts (wsV RX11 131 RX10 yX10_insertField wsX10_insertField) := goodIn_app (goodIn_of _ (by decide +kernel)) ggX11_inserts_X10_insertField
theorem dX11_inserts_0 : decode cX11_inserts 0 = .ok (.aload_n 0, 1) := by decide +kernel
theorem dX11_inserts_1 : decode cX11_inserts 1 = .ok (.getfield 55, 3) := by decide +kernel
theorem dX11_inserts_4 : decode cX11_inserts 4 = .ok (.iload_n 1, 1) := by decide +kernel
theorem dX11_inserts_5 : decode cX11_inserts 5 = .ok (.invokevirtual 131, 3) := by decide +kernel
theorem dX11_inserts_8 : decode cX11_inserts 8 = .ok (.ireturn, 1) := by decide +kernel
set_option maxRecDepth 20000 in
theorem ggX11_repeats_X10_repeatEntry : GoodIn wsX11_repeats wsX10_repeatEntry := goodIn_r _ [6, 7, 8, 9, 10, 11, 12, 13, 14, 15, 16, 17, 18, 19, 20, 21, 22, 23, 24, 25, 26, 27, 28, 29, 30, 31, 32, 33, 34, 35, 36, 37, 38, 39, 40, 41, 42, 43, 44, 5, 45, 46, 47, 48, 49, 50, 51, 52, 53, 54, 55, 56, 57, 58, 59, 60, 61, 62, 63, 64, 65, 66, 67, 68, 69, 70, 71, 72, 73, 74, 75, 76, 77, 78, 79, 80, 81, 82, 83, 84, 85, 86, 87, 88, 89, 90, 91, 92, 104, 105, 106, 107, 108, 109, 110, 111, 112, 113, 114, 115, 116, 117, 118, 119, 120, 121, 122, 123, 124, 125] rfl (by decide +kernel)
set_option maxRecDepth 20000 in
theorem gX11_repeats_X10_repeatEntry : GoodIn wsX11_repeats (wsV RX11 134 RX10 yX10_repeatEntry wsX10_repeatEntry) := goodIn_app (goodIn_of _ (by decide +kernel)) ggX11_repeats_X10_repeatEntry
theorem dX11_repeats_0 : decode cX11_repeats 0 = .ok (.aload_n 0, 1) := by decide +kernel
theorem dX11_repeats_1 : decode cX11_repeats 1 = .ok (.getfield 55, 3) := by decide +kernel
theorem dX11_repeats_4 : decode cX11_repeats 4 = .ok (.iload_n 1, 1) := by decide +kernel
theorem dX11_repeats_5 : decode cX11_repeats 5 = .ok (.invokevirtual 134, 3) := by decide +kernel
theorem dX11_repeats_8 : decode cX11_repeats 8 = .ok (.ireturn, 1) := by decide +kernel
set_option maxRecDepth 20000 in
theorem ggX11_puts_X3_at : GoodIn wsX11_puts wsX3_at := goodIn_r _ [9, 10, 11, 36, 37] rfl (by decide +kernel)
set_option maxRecDepth 20000 in
theorem gX11_puts_X3_at : GoodIn wsX11_puts (wsV RX11 108 RX3 yX3_at wsX3_at) := goodIn_app (goodIn_of _ (by decide +kernel)) ggX11_puts_X3_at
set_option maxRecDepth 20000 in
theorem ggX11_puts_X6_add : GoodIn wsX11_puts wsX6_add := goodIn_r _ [16, 17, 18, 34, 35] rfl (by decide +kernel)
set_option maxRecDepth 20000 in
theorem gX11_puts_X6_add : GoodIn wsX11_puts (wsV RX11 88 RX6 yX6_add wsX6_add) := goodIn_app (goodIn_of _ (by decide +kernel)) ggX11_puts_X6_add
theorem dX11_puts_0 : decode cX11_puts 0 = .ok (.aload_n 0, 1) := by decide +kernel
theorem dX11_puts_1 : decode cX11_puts 1 = .ok (.getfield 36, 3) := by decide +kernel
theorem dX11_puts_4 : decode cX11_puts 4 = .ok (.getfield 104, 3) := by decide +kernel
theorem dX11_puts_7 : decode cX11_puts 7 = .ok (.iload_n 1, 1) := by decide +kernel
theorem dX11_puts_8 : decode cX11_puts 8 = .ok (.invokevirtual 108, 3) := by decide +kernel
theorem dX11_puts_11 : decode cX11_puts 11 = .ok (.ifnonnull 5, 3) := by decide +kernel
theorem dX11_puts_14 : decode cX11_puts 14 = .ok (.iconst (-1), 1) := by decide +kernel
theorem dX11_puts_15 : decode cX11_puts 15 = .ok (.ireturn, 1) := by decide +kernel
theorem dX11_puts_16 : decode cX11_puts 16 = .ok (.aload_n 0, 1) := by decide +kernel
theorem dX11_puts_17 : decode cX11_puts 17 = .ok (.getfield 18, 3) := by decide +kernel
theorem dX11_puts_20 : decode cX11_puts 20 = .ok (.iload_n 1, 1) := by decide +kernel
theorem dX11_puts_21 : decode cX11_puts 21 = .ok (.invokevirtual 88, 3) := by decide +kernel
theorem dX11_puts_24 : decode cX11_puts 24 = .ok (.ifCond .eq 13, 3) := by decide +kernel
theorem dX11_puts_27 : decode cX11_puts 27 = .ok (.aload_n 0, 1) := by decide +kernel
theorem dX11_puts_28 : decode cX11_puts 28 = .ok (.getfield 18, 3) := by decide +kernel
theorem dX11_puts_31 : decode cX11_puts 31 = .ok (.getfield 92, 3) := by decide +kernel
theorem dX11_puts_34 : decode cX11_puts 34 = .ok (.goto 5, 3) := by decide +kernel
theorem dX11_puts_37 : decode cX11_puts 37 = .ok (.bipush (-3), 2) := by decide +kernel
theorem dX11_puts_39 : decode cX11_puts 39 = .ok (.ireturn, 1) := by decide +kernel
set_option maxRecDepth 20000 in
theorem ggX11_takes_X6_removeLast : GoodIn wsX11_takes wsX6_removeLast := goodIn_r _ [7, 8, 9, 10, 11, 12, 13, 14, 15, 6, 16, 17, 29, 30] rfl (by decide +kernel)
set_option maxRecDepth 20000 in
theorem gX11_takes_X6_removeLast : GoodIn wsX11_takes (wsV RX11 137 RX6 yX6_removeLast wsX6_removeLast) := goodIn_app (goodIn_of _ (by decide +kernel)) ggX11_takes_X6_removeLast
theorem dX11_takes_0 : decode cX11_takes 0 = .ok (.aload_n 0, 1) := by decide +kernel
theorem dX11_takes_1 : decode cX11_takes 1 = .ok (.getfield 18, 3) := by decide +kernel
theorem dX11_takes_4 : decode cX11_takes 4 = .ok (.getfield 92, 3) := by decide +kernel
theorem dX11_takes_7 : decode cX11_takes 7 = .ok (.ifCond .ne 8, 3) := by decide +kernel
theorem dX11_takes_10 : decode cX11_takes 10 = .ok (.bipush (-2), 2) := by decide +kernel
theorem dX11_takes_12 : decode cX11_takes 12 = .ok (.goto 10, 3) := by decide +kernel
theorem dX11_takes_15 : decode cX11_takes 15 = .ok (.aload_n 0, 1) := by decide +kernel
theorem dX11_takes_16 : decode cX11_takes 16 = .ok (.getfield 18, 3) := by decide +kernel
theorem dX11_takes_19 : decode cX11_takes 19 = .ok (.invokevirtual 137, 3) := by decide +kernel
theorem dX11_takes_22 : decode cX11_takes 22 = .ok (.ireturn, 1) := by decide +kernel
set_option maxRecDepth 20000 in
theorem ggX11_sends_X1_next : GoodIn wsX11_sends wsX1_next := goodIn_r _ [10, 11, 12, 241, 242] rfl (by decide +kernel)
set_option maxRecDepth 20000 in
theorem gX11_sends_X1_next : GoodIn wsX11_sends (wsV RX11 141 RX1 yX1_next wsX1_next) := goodIn_app (goodIn_of _ (by decide +kernel)) ggX11_sends_X1_next
set_option maxRecDepth 20000 in
theorem ggX11_sends_X0_begin : GoodIn wsX11_sends wsX0_begin := goodIn_r _ [17, 18, 19, 20, 21, 22, 23, 24, 25, 26, 27, 28, 29, 30, 31, 32, 33, 34, 35, 243, 244, 245, 246, 247, 248, 249, 250, 251, 252] rfl (by decide +kernel)
set_option maxRecDepth 20000 in
theorem gX11_sends_X0_begin : GoodIn wsX11_sends (wsV RX11 145 RX0 yX0_begin wsX0_begin) := goodIn_app (goodIn_of _ (by decide +kernel)) ggX11_sends_X0_begin
set_option maxRecDepth 20000 in
theorem ggX11_sends_X11_mayReferToAny : GoodIn wsX11_sends wsX11_mayReferToAny := goodIn_r _ [40, 1, 3, 41, 42, 43, 44, 45, 46, 9, 47, 11, 48, 49, 50, 51, 52, 53, 12, 230, 231, 232, 233, 234, 235, 236, 237, 238, 239, 240, 253, 254, 255, 256, 257, 258, 259, 260, 261, 262, 263, 264, 241, 242, 243, 244, 245, 246, 247, 248, 249, 250] rfl (by decide +kernel)
set_option maxRecDepth 20000 in
theorem gX11_sends_X11_mayReferToAny : GoodIn wsX11_sends (wsV RX11 148 RX11 yX11_mayReferToAny wsX11_mayReferToAny) := goodIn_app (goodIn_of _ (by decide +kernel)) ggX11_sends_X11_mayReferToAny
set_option maxRecDepth 20000 in
theorem ggX11_sends_X10_encode : GoodIn wsX11_sends wsX10_encode := goodIn_r _ [58, 59, 60, 61, 62, 63, 64, 65, 66, 67, 68, 69, 70, 26, 27, 28, 29, 30, 71, 72, 73, 74, 35, 75, 76, 77, 78, 79, 80, 81, 82, 83, 84, 57, 85, 86, 87, 88, 89, 90, 91, 92, 93, 94, 95, 96, 97, 98, 99, 100, 101, 102, 103, 104, 105, 106, 107, 108, 109, 110, 111, 112, 113, 114, 115, 116, 117, 118, 119, 120, 121, 122, 123, 124, 125, 126, 127, 128, 129, 130, 131, 132, 133, 134, 135, 136, 137, 138, 139, 140, 141, 142, 143, 144, 145, 146, 147, 148, 149, 150, 151, 152, 153, 32, 33, 34, 154, 155, 156, 157, 158, 159, 160, 161, 162, 163, 164, 165, 166, 167, 168, 169, 170, 171, 172, 173, 174, 175, 176, 177, 178, 179, 180, 181, 182, 183, 184, 185, 186, 187, 188, 189, 190, 191, 192, 193, 194, 195, 196, 197, 198, 199, 200, 201, 202, 203, 204, 205, 206, 207, 208, 209, 210, 211, 212, 213, 214, 215, 216, 217, 218, 219, 220, 221, 222, 223, 224, 225, 226, 227, 228, 253, 254, 255, 256, 257, 258, 259, 260, 265, 266, 267, 268, 269, 270, 271, 243, 244, 245, 246, 247, 248, 249, 250, 251, 252, 261, 262, 263, 264, 272, 273, 274, 275, 276, 277, 278, 279, 280] rfl (by decide +kernel)
set_option maxRecDepth 20000 in
theorem gX11_sends_X10_encode : GoodIn wsX11_sends (wsV RX11 151 RX10 yX10_encode wsX10_encode) := goodIn_app (goodIn_of _ (by decide +kernel)) ggX11_sends_X10_encode
set_option maxRecDepth 20000 in
theorem ggX11_sends_X6_empty : GoodIn wsX11_sends wsX6_empty := goodIn_r _ [29, 30, 251, 252] rfl (by decide +kernel)
set_option maxRecDepth 20000 in
theorem gX11_sends_X6_empty : GoodIn wsX11_sends (wsV RX11 76 RX6 yX6_empty wsX6_empty) := goodIn_app (goodIn_of _ (by decide +kernel)) ggX11_sends_X6_empty
theorem dX11_sends_0 : decode cX11_sends 0 = .ok (.iload_n 1, 1) := by decide +kernel
theorem dX11_sends_1 : decode cX11_sends 1 = .ok (.ifCond .lt 8, 3) := by decide +kernel
theorem dX11_sends_4 : decode cX11_sends 4 = .ok (.iload_n 1, 1) := by decide +kernel
theorem dX11_sends_5 : decode cX11_sends 5 = .ok (.iconst 2, 1) := by decide +kernel
theorem dX11_sends_6 : decode cX11_sends 6 = .ok (.if_icmp .le 5, 3) := by decide +kernel
theorem dX11_sends_9 : decode cX11_sends 9 = .ok (.iconst (-1), 1) := by decide +kernel
theorem dX11_sends_10 : decode cX11_sends 10 = .ok (.ireturn, 1) := by decide +kernel
theorem dX11_sends_11 : decode cX11_sends 11 = .ok (.aload_n 0, 1) := by decide +kernel
theorem dX11_sends_12 : decode cX11_sends 12 = .ok (.getfield 46, 3) := by decide +kernel
theorem dX11_sends_15 : decode cX11_sends 15 = .ok (.invokevirtual 141, 3) := by decide +kernel
theorem dX11_sends_18 : decode cX11_sends 18 = .ok (.astore_n 2, 1) := by decide +kernel
theorem dX11_sends_19 : decode cX11_sends 19 = .ok (.aload_n 2, 1) := by decide +kernel
theorem dX11_sends_20 : decode cX11_sends 20 = .ok (.ifnonnull 6, 3) := by decide +kernel
theorem dX11_sends_23 : decode cX11_sends 23 = .ok (.bipush (-3), 2) := by decide +kernel
theorem dX11_sends_25 : decode cX11_sends 25 = .ok (.ireturn, 1) := by decide +kernel
theorem dX11_sends_26 : decode cX11_sends 26 = .ok (.aload_n 2, 1) := by decide +kernel
theorem dX11_sends_27 : decode cX11_sends 27 = .ok (.aload_n 0, 1) := by decide +kernel
theorem dX11_sends_28 : decode cX11_sends 28 = .ok (.getfield 18, 3) := by decide +kernel
theorem dX11_sends_31 : decode cX11_sends 31 = .ok (.invokevirtual 145, 3) := by decide +kernel
theorem dX11_sends_34 : decode cX11_sends 34 = .ok (.aload_n 0, 1) := by decide +kernel
theorem dX11_sends_35 : decode cX11_sends 35 = .ok (.getfield 55, 3) := by decide +kernel
theorem dX11_sends_38 : decode cX11_sends 38 = .ok (.aload_n 2, 1) := by decide +kernel
theorem dX11_sends_39 : decode cX11_sends 39 = .ok (.aload_n 0, 1) := by decide +kernel
theorem dX11_sends_40 : decode cX11_sends 40 = .ok (.iload_n 1, 1) := by decide +kernel
theorem dX11_sends_41 : decode cX11_sends 41 = .ok (.invokevirtual 148, 3) := by decide +kernel
theorem dX11_sends_44 : decode cX11_sends 44 = .ok (.iload_n 1, 1) := by decide +kernel
theorem dX11_sends_45 : decode cX11_sends 45 = .ok (.iconst 2, 1) := by decide +kernel
theorem dX11_sends_46 : decode cX11_sends 46 = .ok (.if_icmp .ne 7, 3) := by decide +kernel
theorem dX11_sends_49 : decode cX11_sends 49 = .ok (.iconst 1, 1) := by decide +kernel
theorem dX11_sends_50 : decode cX11_sends 50 = .ok (.goto 4, 3) := by decide +kernel
theorem dX11_sends_53 : decode cX11_sends 53 = .ok (.iconst 0, 1) := by decide +kernel
theorem dX11_sends_54 : decode cX11_sends 54 = .ok (.invokevirtual 151, 3) := by decide +kernel
theorem dX11_sends_57 : decode cX11_sends 57 = .ok (.aload_n 0, 1) := by decide +kernel
theorem dX11_sends_58 : decode cX11_sends 58 = .ok (.getfield 46, 3) := by decide +kernel
theorem dX11_sends_61 : decode cX11_sends 61 = .ok (.dup, 1) := by decide +kernel
theorem dX11_sends_62 : decode cX11_sends 62 = .ok (.getfield 79, 3) := by decide +kernel
theorem dX11_sends_65 : decode cX11_sends 65 = .ok (.iconst 1, 1) := by decide +kernel
theorem dX11_sends_66 : decode cX11_sends 66 = .ok (.iadd, 1) := by decide +kernel
theorem dX11_sends_67 : decode cX11_sends 67 = .ok (.putfield 79, 3) := by decide +kernel
theorem dX11_sends_70 : decode cX11_sends 70 = .ok (.aload_n 0, 1) := by decide +kernel
theorem dX11_sends_71 : decode cX11_sends 71 = .ok (.getfield 18, 3) := by decide +kernel
theorem dX11_sends_74 : decode cX11_sends 74 = .ok (.invokevirtual 76, 3) := by decide +kernel
theorem dX11_sends_77 : decode cX11_sends 77 = .ok (.aload_n 2, 1) := by decide +kernel
theorem dX11_sends_78 : decode cX11_sends 78 = .ok (.getfield 155, 3) := by decide +kernel
theorem dX11_sends_81 : decode cX11_sends 81 = .ok (.ireturn, 1) := by decide +kernel
set_option maxRecDepth 20000 in
theorem ggX11_cost_X10_copyOf : GoodIn wsX11_cost wsX10_copyOf := goodIn_r _ [13, 14, 15, 16, 17, 18, 19, 20, 21, 22, 23, 24, 25, 26, 27, 28, 29, 30, 31, 32, 33, 34, 35, 36, 37, 38, 39, 40, 41, 42, 43, 44, 45, 46, 253, 254, 255, 256, 257, 258, 259, 260, 276, 277, 278, 279, 280, 281, 282, 261, 262, 263, 264, 265, 266, 267] rfl (by decide +kernel)
set_option maxRecDepth 20000 in
theorem gX11_cost_X10_copyOf : GoodIn wsX11_cost (wsV RX11 158 RX10 yX10_copyOf wsX10_copyOf) := goodIn_app (goodIn_of _ (by decide +kernel)) ggX11_cost_X10_copyOf
set_option maxRecDepth 20000 in
theorem ggX11_cost_X0_begin : GoodIn wsX11_cost wsX0_begin := goodIn_r _ [51, 52, 53, 54, 55, 56, 57, 58, 59, 37, 38, 39, 40, 41, 60, 43, 44, 45, 46, 268, 269, 270, 271, 272, 273, 274, 275, 266, 267] rfl (by decide +kernel)
set_option maxRecDepth 20000 in
theorem gX11_cost_X0_begin : GoodIn wsX11_cost (wsV RX11 145 RX0 yX0_begin wsX0_begin) := goodIn_app (goodIn_of _ (by decide +kernel)) ggX11_cost_X0_begin
set_option maxRecDepth 20000 in
theorem ggX11_cost_X11_mayReferToAny : GoodIn wsX11_cost wsX11_mayReferToAny := goodIn_r _ [65, 66, 2, 67, 68, 69, 70, 71, 72, 73, 74, 75, 76, 77, 78, 79, 80, 81, 82, 242, 243, 244, 245, 246, 247, 248, 249, 250, 251, 252, 253, 254, 255, 256, 257, 258, 259, 260, 283, 284, 285, 286, 287, 288, 268, 269, 270, 271, 272, 273, 274, 275] rfl (by decide +kernel)
set_option maxRecDepth 20000 in
theorem gX11_cost_X11_mayReferToAny : GoodIn wsX11_cost (wsV RX11 148 RX11 yX11_mayReferToAny wsX11_mayReferToAny) := goodIn_app (goodIn_of _ (by decide +kernel)) ggX11_cost_X11_mayReferToAny
set_option maxRecDepth 20000 in
theorem ggX11_cost_X10_encode : GoodIn wsX11_cost wsX10_encode := goodIn_r _ [86, 87, 88, 15, 89, 90, 91, 92, 93, 14, 94, 95, 96, 37, 38, 39, 40, 41, 97, 98, 99, 100, 46, 101, 102, 103, 104, 105, 106, 107, 108, 109, 110, 12, 111, 112, 113, 114, 115, 116, 117, 118, 119, 120, 121, 122, 123, 124, 125, 126, 127, 128, 129, 130, 131, 132, 133, 134, 135, 17, 136, 137, 138, 21, 139, 26, 140, 141, 142, 143, 27, 144, 145, 146, 147, 23, 148, 149, 150, 151, 152, 153, 154, 155, 156, 157, 158, 159, 160, 161, 162, 163, 164, 165, 166, 167, 168, 169, 170, 171, 172, 173, 174, 43, 44, 45, 175, 176, 177, 178, 179, 180, 181, 182, 183, 184, 185, 186, 16, 187, 188, 189, 190, 29, 191, 192, 193, 194, 28, 24, 195, 196, 197, 198, 25, 199, 200, 201, 33, 202, 35, 203, 204, 205, 206, 207, 208, 209, 210, 42, 211, 212, 213, 214, 215, 216, 217, 218, 219, 220, 221, 222, 223, 224, 225, 226, 227, 228, 229, 230, 231, 232, 233, 234, 235, 236, 237, 238, 239, 240, 241, 253, 254, 255, 256, 257, 258, 259, 260, 276, 277, 278, 279, 280, 281, 282, 268, 269, 270, 271, 272, 273, 274, 275, 266, 267, 283, 284, 285, 286, 289, 290, 291, 292, 261, 262, 263, 264, 265] rfl (by decide +kernel)
set_option maxRecDepth 20000 in
theorem gX11_cost_X10_encode : GoodIn wsX11_cost (wsV RX11 151 RX10 yX10_encode wsX10_encode) := goodIn_app (goodIn_of _ (by decide +kernel)) ggX11_cost_X10_encode
theorem dX11_cost_0 : decode cX11_cost 0 = .ok (.iload_n 1, 1) := by decide +kernel
theorem dX11_cost_1 : decode cX11_cost 1 = .ok (.ifCond .lt 8, 3) := by decide +kernel
theorem dX11_cost_4 : decode cX11_cost 4 = .ok (.iload_n 1, 1) := by decide +kernel
theorem dX11_cost_5 : decode cX11_cost 5 = .ok (.iconst 2, 1) := by decide +kernel
theorem dX11_cost_6 : decode cX11_cost 6 = .ok (.if_icmp .le 5, 3) := by decide +kernel
theorem dX11_cost_9 : decode cX11_cost 9 = .ok (.iconst (-1), 1) := by decide +kernel
theorem dX11_cost_10 : decode cX11_cost 10 = .ok (.ireturn, 1) := by decide +kernel
theorem dX11_cost_11 : decode cX11_cost 11 = .ok (.aload_n 0, 1) := by decide +kernel
theorem dX11_cost_12 : decode cX11_cost 12 = .ok (.getfield 66, 3) := by decide +kernel
theorem dX11_cost_15 : decode cX11_cost 15 = .ok (.aload_n 0, 1) := by decide +kernel
theorem dX11_cost_16 : decode cX11_cost 16 = .ok (.getfield 55, 3) := by decide +kernel
theorem dX11_cost_19 : decode cX11_cost 19 = .ok (.invokevirtual 158, 3) := by decide +kernel
theorem dX11_cost_22 : decode cX11_cost 22 = .ok (.aload_n 0, 1) := by decide +kernel
theorem dX11_cost_23 : decode cX11_cost 23 = .ok (.getfield 72, 3) := by decide +kernel
theorem dX11_cost_26 : decode cX11_cost 26 = .ok (.aload_n 0, 1) := by decide +kernel
theorem dX11_cost_27 : decode cX11_cost 27 = .ok (.getfield 18, 3) := by decide +kernel
theorem dX11_cost_30 : decode cX11_cost 30 = .ok (.invokevirtual 145, 3) := by decide +kernel
theorem dX11_cost_33 : decode cX11_cost 33 = .ok (.aload_n 0, 1) := by decide +kernel
theorem dX11_cost_34 : decode cX11_cost 34 = .ok (.getfield 66, 3) := by decide +kernel
theorem dX11_cost_37 : decode cX11_cost 37 = .ok (.aload_n 0, 1) := by decide +kernel
theorem dX11_cost_38 : decode cX11_cost 38 = .ok (.getfield 72, 3) := by decide +kernel
theorem dX11_cost_41 : decode cX11_cost 41 = .ok (.aload_n 0, 1) := by decide +kernel
theorem dX11_cost_42 : decode cX11_cost 42 = .ok (.iload_n 1, 1) := by decide +kernel
theorem dX11_cost_43 : decode cX11_cost 43 = .ok (.invokevirtual 148, 3) := by decide +kernel
theorem dX11_cost_46 : decode cX11_cost 46 = .ok (.iload_n 1, 1) := by decide +kernel
theorem dX11_cost_47 : decode cX11_cost 47 = .ok (.iconst 2, 1) := by decide +kernel
theorem dX11_cost_48 : decode cX11_cost 48 = .ok (.if_icmp .ne 7, 3) := by decide +kernel
theorem dX11_cost_51 : decode cX11_cost 51 = .ok (.iconst 1, 1) := by decide +kernel
theorem dX11_cost_52 : decode cX11_cost 52 = .ok (.goto 4, 3) := by decide +kernel
theorem dX11_cost_55 : decode cX11_cost 55 = .ok (.iconst 0, 1) := by decide +kernel
theorem dX11_cost_56 : decode cX11_cost 56 = .ok (.invokevirtual 151, 3) := by decide +kernel
theorem dX11_cost_59 : decode cX11_cost 59 = .ok (.aload_n 0, 1) := by decide +kernel
theorem dX11_cost_60 : decode cX11_cost 60 = .ok (.getfield 66, 3) := by decide +kernel
theorem dX11_cost_63 : decode cX11_cost 63 = .ok (.getfield 162, 3) := by decide +kernel
theorem dX11_cost_66 : decode cX11_cost 66 = .ok (.getfield 166, 3) := by decide +kernel
theorem dX11_cost_69 : decode cX11_cost 69 = .ok (.getfield 92, 3) := by decide +kernel
theorem dX11_cost_72 : decode cX11_cost 72 = .ok (.aload_n 0, 1) := by decide +kernel
theorem dX11_cost_73 : decode cX11_cost 73 = .ok (.getfield 55, 3) := by decide +kernel
theorem dX11_cost_76 : decode cX11_cost 76 = .ok (.getfield 162, 3) := by decide +kernel
theorem dX11_cost_79 : decode cX11_cost 79 = .ok (.getfield 166, 3) := by decide +kernel
theorem dX11_cost_82 : decode cX11_cost 82 = .ok (.getfield 92, 3) := by decide +kernel
theorem dX11_cost_85 : decode cX11_cost 85 = .ok (.isub, 1) := by decide +kernel
theorem dX11_cost_86 : decode cX11_cost 86 = .ok (.istore_n 2, 1) := by decide +kernel
theorem dX11_cost_87 : decode cX11_cost 87 = .ok (.aload_n 0, 1) := by decide +kernel
theorem dX11_cost_88 : decode cX11_cost 88 = .ok (.getfield 72, 3) := by decide +kernel
theorem dX11_cost_91 : decode cX11_cost 91 = .ok (.getfield 171, 3) := by decide +kernel
theorem dX11_cost_94 : decode cX11_cost 94 = .ok (.getfield 92, 3) := by decide +kernel
theorem dX11_cost_97 : decode cX11_cost 97 = .ok (.iload_n 2, 1) := by decide +kernel
theorem dX11_cost_98 : decode cX11_cost 98 = .ok (.iadd, 1) := by decide +kernel
theorem dX11_cost_99 : decode cX11_cost 99 = .ok (.ireturn, 1) := by decide +kernel
set_option maxRecDepth 20000 in
theorem ggX11_mayReferToAny_X1_atRisk : GoodIn wsX11_mayReferToAny wsX1_atRisk := goodIn_r _ [10, 11, 12, 13, 14, 15, 16, 9, 17, 18, 42, 43, 44, 45, 46, 47, 48, 49, 50, 51] rfl (by decide +kernel)
set_option maxRecDepth 20000 in
theorem gX11_mayReferToAny_X1_atRisk : GoodIn wsX11_mayReferToAny (wsV RX11 177 RX1 yX1_atRisk wsX1_atRisk) := goodIn_app (goodIn_of _ (by decide +kernel)) ggX11_mayReferToAny_X1_atRisk
theorem dX11_mayReferToAny_0 : decode cX11_mayReferToAny 0 = .ok (.iload_n 1, 1) := by decide +kernel
theorem dX11_mayReferToAny_1 : decode cX11_mayReferToAny 1 = .ok (.ifCond .le 31, 3) := by decide +kernel
theorem dX11_mayReferToAny_4 : decode cX11_mayReferToAny 4 = .ok (.aload_n 0, 1) := by decide +kernel
theorem dX11_mayReferToAny_5 : decode cX11_mayReferToAny 5 = .ok (.getfield 46, 3) := by decide +kernel
theorem dX11_mayReferToAny_8 : decode cX11_mayReferToAny 8 = .ok (.aload_n 0, 1) := by decide +kernel
theorem dX11_mayReferToAny_9 : decode cX11_mayReferToAny 9 = .ok (.getfield 55, 3) := by decide +kernel
theorem dX11_mayReferToAny_12 : decode cX11_mayReferToAny 12 = .ok (.getfield 174, 3) := by decide +kernel
theorem dX11_mayReferToAny_15 : decode cX11_mayReferToAny 15 = .ok (.invokevirtual 177, 3) := by decide +kernel
theorem dX11_mayReferToAny_18 : decode cX11_mayReferToAny 18 = .ok (.aload_n 0, 1) := by decide +kernel
theorem dX11_mayReferToAny_19 : decode cX11_mayReferToAny 19 = .ok (.getfield 36, 3) := by decide +kernel
theorem dX11_mayReferToAny_22 : decode cX11_mayReferToAny 22 = .ok (.getfield 180, 3) := by decide +kernel
theorem dX11_mayReferToAny_25 : decode cX11_mayReferToAny 25 = .ok (.if_icmp .ge 7, 3) := by decide +kernel
theorem dX11_mayReferToAny_28 : decode cX11_mayReferToAny 28 = .ok (.iconst 1, 1) := by decide +kernel
theorem dX11_mayReferToAny_29 : decode cX11_mayReferToAny 29 = .ok (.goto 4, 3) := by decide +kernel
theorem dX11_mayReferToAny_32 : decode cX11_mayReferToAny 32 = .ok (.iconst 0, 1) := by decide +kernel
theorem dX11_mayReferToAny_33 : decode cX11_mayReferToAny 33 = .ok (.ireturn, 1) := by decide +kernel
set_option maxRecDepth 20000 in
theorem ggX11_loose_X9_evictable : GoodIn wsX11_loose wsX9_evictable := goodIn_r _ [8, 9, 10, 11, 12, 13, 14, 15, 35, 36, 37, 38, 39, 40, 41] rfl (by decide +kernel)
set_option maxRecDepth 20000 in
theorem gX11_loose_X9_evictable : GoodIn wsX11_loose (wsV RX11 187 RX9 yX9_evictable wsX9_evictable) := goodIn_app (goodIn_of _ (by decide +kernel)) ggX11_loose_X9_evictable
theorem dX11_loose_0 : decode cX11_loose 0 = .ok (.aload_n 0, 1) := by decide +kernel
theorem dX11_loose_1 : decode cX11_loose 1 = .ok (.getfield 55, 3) := by decide +kernel
theorem dX11_loose_4 : decode cX11_loose 4 = .ok (.getfield 183, 3) := by decide +kernel
theorem dX11_loose_7 : decode cX11_loose 7 = .ok (.aload_n 0, 1) := by decide +kernel
theorem dX11_loose_8 : decode cX11_loose 8 = .ok (.getfield 55, 3) := by decide +kernel
theorem dX11_loose_11 : decode cX11_loose 11 = .ok (.getfield 174, 3) := by decide +kernel
theorem dX11_loose_14 : decode cX11_loose 14 = .ok (.invokevirtual 187, 3) := by decide +kernel
theorem dX11_loose_17 : decode cX11_loose 17 = .ok (.ireturn, 1) := by decide +kernel
set_option maxRecDepth 20000 in
theorem ggX11_feeds_X8_deliverTo : GoodIn wsX11_feeds wsX8_deliverTo := goodIn_r _ [18, 19, 20, 21, 22, 23, 24, 25, 26, 27, 28, 29, 30, 31, 32, 33, 34, 35, 36, 37, 38, 39, 40, 41, 42, 43, 44, 45, 46, 47, 48, 49, 50, 51, 52, 53, 54, 55, 56, 57, 58, 140, 141, 142, 143, 144, 150, 151, 152, 153, 154, 155, 156, 157, 158, 159, 160, 161, 162, 163, 164, 145, 146] rfl (by decide +kernel)
set_option maxRecDepth 20000 in
theorem gX11_feeds_X8_deliverTo : GoodIn wsX11_feeds (wsV RX11 202 RX8 yX8_deliverTo wsX8_deliverTo) := goodIn_app (goodIn_of _ (by decide +kernel)) ggX11_feeds_X8_deliverTo
set_option maxRecDepth 20000 in
theorem ggX11_feeds_X5_decodeBlocked : GoodIn wsX11_feeds wsX5_decodeBlocked := goodIn_r _ [63, 64, 65, 66, 67, 68, 69, 70, 71, 72, 73, 74, 75, 76, 77, 78, 79, 80, 81, 82, 83, 84, 85, 86, 87, 88, 89, 90, 91, 92, 93, 94, 95, 62, 96, 97, 98, 99, 100, 101, 102, 8, 103, 104, 105, 106, 107, 108, 109, 110, 111, 112, 113, 114, 165, 166, 167, 168, 169, 170, 171, 172, 147, 148, 149, 154, 155, 156, 157, 158, 159, 160, 173, 174, 145, 146] rfl (by decide +kernel)
set_option maxRecDepth 20000 in
theorem gX11_feeds_X5_decodeBlocked : GoodIn wsX11_feeds (wsV RX11 206 RX5 yX5_decodeBlocked wsX5_decodeBlocked) := goodIn_app (goodIn_of _ (by decide +kernel)) ggX11_feeds_X5_decodeBlocked
set_option maxRecDepth 20000 in
theorem ggX11_feeds_X6_drop : GoodIn wsX11_feeds wsX6_drop := goodIn_r _ [118, 113, 119, 7, 8, 9, 120, 102, 103, 114, 145, 146] rfl (by decide +kernel)
set_option maxRecDepth 20000 in
theorem gX11_feeds_X6_drop : GoodIn wsX11_feeds (wsV RX11 210 RX6 yX6_drop wsX6_drop) := goodIn_app (goodIn_of _ (by decide +kernel)) ggX11_feeds_X6_drop
theorem dX11_feeds_0 : decode cX11_feeds 0 = .ok (.iload_n 1, 1) := by decide +kernel
theorem dX11_feeds_1 : decode cX11_feeds 1 = .ok (.iconst 1, 1) := by decide +kernel
theorem dX11_feeds_2 : decode cX11_feeds 2 = .ok (.if_icmp .lt 9, 3) := by decide +kernel
theorem dX11_feeds_5 : decode cX11_feeds 5 = .ok (.iload_n 1, 1) := by decide +kernel
theorem dX11_feeds_6 : decode cX11_feeds 6 = .ok (.bipush 99, 2) := by decide +kernel
theorem dX11_feeds_8 : decode cX11_feeds 8 = .ok (.if_icmp .le 5, 3) := by decide +kernel
theorem dX11_feeds_11 : decode cX11_feeds 11 = .ok (.iconst (-1), 1) := by decide +kernel
theorem dX11_feeds_12 : decode cX11_feeds 12 = .ok (.ireturn, 1) := by decide +kernel
theorem dX11_feeds_13 : decode cX11_feeds 13 = .ok (.aload_n 0, 1) := by decide +kernel
theorem dX11_feeds_14 : decode cX11_feeds 14 = .ok (.getfield 55, 3) := by decide +kernel
theorem dX11_feeds_17 : decode cX11_feeds 17 = .ok (.getfield 162, 3) := by decide +kernel
theorem dX11_feeds_20 : decode cX11_feeds 20 = .ok (.getfield 192, 3) := by decide +kernel
theorem dX11_feeds_23 : decode cX11_feeds 23 = .ok (.istore_n 2, 1) := by decide +kernel
theorem dX11_feeds_24 : decode cX11_feeds 24 = .ok (.iload_n 1, 1) := by decide +kernel
theorem dX11_feeds_25 : decode cX11_feeds 25 = .ok (.aload_n 0, 1) := by decide +kernel
theorem dX11_feeds_26 : decode cX11_feeds 26 = .ok (.getfield 55, 3) := by decide +kernel
theorem dX11_feeds_29 : decode cX11_feeds 29 = .ok (.getfield 162, 3) := by decide +kernel
theorem dX11_feeds_32 : decode cX11_feeds 32 = .ok (.getfield 166, 3) := by decide +kernel
theorem dX11_feeds_35 : decode cX11_feeds 35 = .ok (.getfield 92, 3) := by decide +kernel
theorem dX11_feeds_38 : decode cX11_feeds 38 = .ok (.invokestatic 195, 3) := by decide +kernel
theorem dX11_feeds_41 : decode cX11_feeds 41 = .ok (.istore_n 3, 1) := by decide +kernel
theorem dX11_feeds_42 : decode cX11_feeds 42 = .ok (.iconst 0, 1) := by decide +kernel
theorem dX11_feeds_43 : decode cX11_feeds 43 = .ok (.istore 4, 2) := by decide +kernel
theorem dX11_feeds_45 : decode cX11_feeds 45 = .ok (.iload 4, 2) := by decide +kernel
theorem dX11_feeds_47 : decode cX11_feeds 47 = .ok (.iload_n 3, 1) := by decide +kernel
theorem dX11_feeds_48 : decode cX11_feeds 48 = .ok (.if_icmp .ge 44, 3) := by decide +kernel
theorem dX11_feeds_51 : decode cX11_feeds 51 = .ok (.aload_n 0, 1) := by decide +kernel
theorem dX11_feeds_52 : decode cX11_feeds 52 = .ok (.getfield 55, 3) := by decide +kernel
theorem dX11_feeds_55 : decode cX11_feeds 55 = .ok (.getfield 162, 3) := by decide +kernel
theorem dX11_feeds_58 : decode cX11_feeds 58 = .ok (.aload_n 0, 1) := by decide +kernel
theorem dX11_feeds_59 : decode cX11_feeds 59 = .ok (.getfield 62, 3) := by decide +kernel
theorem dX11_feeds_62 : decode cX11_feeds 62 = .ok (.getfield 201, 3) := by decide +kernel
theorem dX11_feeds_65 : decode cX11_feeds 65 = .ok (.aload_n 0, 1) := by decide +kernel
theorem dX11_feeds_66 : decode cX11_feeds 66 = .ok (.getfield 36, 3) := by decide +kernel
theorem dX11_feeds_69 : decode cX11_feeds 69 = .ok (.invokevirtual 202, 3) := by decide +kernel
theorem dX11_feeds_72 : decode cX11_feeds 72 = .ok (.ifCond .eq 14, 3) := by decide +kernel
theorem dX11_feeds_75 : decode cX11_feeds 75 = .ok (.aload_n 0, 1) := by decide +kernel
theorem dX11_feeds_76 : decode cX11_feeds 76 = .ok (.getfield 62, 3) := by decide +kernel
theorem dX11_feeds_79 : decode cX11_feeds 79 = .ok (.aload_n 0, 1) := by decide +kernel
theorem dX11_feeds_80 : decode cX11_feeds 80 = .ok (.getfield 46, 3) := by decide +kernel
theorem dX11_feeds_83 : decode cX11_feeds 83 = .ok (.invokevirtual 206, 3) := by decide +kernel
theorem dX11_feeds_86 : decode cX11_feeds 86 = .ok (.iinc 4 1, 3) := by decide +kernel
theorem dX11_feeds_89 : decode cX11_feeds 89 = .ok (.goto (-44), 3) := by decide +kernel
theorem dX11_feeds_92 : decode cX11_feeds 92 = .ok (.aload_n 0, 1) := by decide +kernel
theorem dX11_feeds_93 : decode cX11_feeds 93 = .ok (.getfield 55, 3) := by decide +kernel
theorem dX11_feeds_96 : decode cX11_feeds 96 = .ok (.getfield 162, 3) := by decide +kernel
theorem dX11_feeds_99 : decode cX11_feeds 99 = .ok (.getfield 166, 3) := by decide +kernel
theorem dX11_feeds_102 : decode cX11_feeds 102 = .ok (.iload_n 3, 1) := by decide +kernel
theorem dX11_feeds_103 : decode cX11_feeds 103 = .ok (.invokevirtual 210, 3) := by decide +kernel
theorem dX11_feeds_106 : decode cX11_feeds 106 = .ok (.aload_n 0, 1) := by decide +kernel
theorem dX11_feeds_107 : decode cX11_feeds 107 = .ok (.getfield 55, 3) := by decide +kernel
theorem dX11_feeds_110 : decode cX11_feeds 110 = .ok (.getfield 162, 3) := by decide +kernel
theorem dX11_feeds_113 : decode cX11_feeds 113 = .ok (.getfield 192, 3) := by decide +kernel
theorem dX11_feeds_116 : decode cX11_feeds 116 = .ok (.iload_n 2, 1) := by decide +kernel
theorem dX11_feeds_117 : decode cX11_feeds 117 = .ok (.isub, 1) := by decide +kernel
theorem dX11_feeds_118 : decode cX11_feeds 118 = .ok (.ireturn, 1) := by decide +kernel
set_option maxRecDepth 20000 in
theorem ggX11_gives_X1_at : GoodIn wsX11_gives wsX1_at := goodIn_r _ [15, 16, 17, 69, 70] rfl (by decide +kernel)
set_option maxRecDepth 20000 in
theorem gX11_gives_X1_at : GoodIn wsX11_gives (wsV RX11 213 RX1 yX1_at wsX1_at) := goodIn_app (goodIn_of _ (by decide +kernel)) ggX11_gives_X1_at
set_option maxRecDepth 20000 in
theorem ggX11_gives_X5_receive : GoodIn wsX11_gives wsX5_receive := goodIn_r _ [22, 23, 24, 25, 26, 27, 28, 29, 21, 30, 31, 32, 33, 34, 35, 8, 36, 37, 38, 39, 40, 41, 42, 43, 44, 45, 46, 47, 59, 60, 61, 62, 63, 64, 65, 66, 71, 72, 73, 74, 75, 76, 77, 78, 79, 80, 67, 68] rfl (by decide +kernel)
set_option maxRecDepth 20000 in
theorem gX11_gives_X5_receive : GoodIn wsX11_gives (wsV RX11 222 RX5 yX5_receive wsX5_receive) := goodIn_app (goodIn_of _ (by decide +kernel)) ggX11_gives_X5_receive
theorem dX11_gives_0 : decode cX11_gives 0 = .ok (.aload_n 0, 1) := by decide +kernel
theorem dX11_gives_1 : decode cX11_gives 1 = .ok (.getfield 46, 3) := by decide +kernel
theorem dX11_gives_4 : decode cX11_gives 4 = .ok (.iload_n 1, 1) := by decide +kernel
theorem dX11_gives_5 : decode cX11_gives 5 = .ok (.invokevirtual 213, 3) := by decide +kernel
theorem dX11_gives_8 : decode cX11_gives 8 = .ok (.astore_n 3, 1) := by decide +kernel
theorem dX11_gives_9 : decode cX11_gives 9 = .ok (.aload_n 3, 1) := by decide +kernel
theorem dX11_gives_10 : decode cX11_gives 10 = .ok (.ifnull 14, 3) := by decide +kernel
theorem dX11_gives_13 : decode cX11_gives 13 = .ok (.iload_n 2, 1) := by decide +kernel
theorem dX11_gives_14 : decode cX11_gives 14 = .ok (.iconst 1, 1) := by decide +kernel
theorem dX11_gives_15 : decode cX11_gives 15 = .ok (.if_icmp .lt 9, 3) := by decide +kernel
theorem dX11_gives_18 : decode cX11_gives 18 = .ok (.iload_n 2, 1) := by decide +kernel
theorem dX11_gives_19 : decode cX11_gives 19 = .ok (.bipush 99, 2) := by decide +kernel
theorem dX11_gives_21 : decode cX11_gives 21 = .ok (.if_icmp .le 5, 3) := by decide +kernel
theorem dX11_gives_24 : decode cX11_gives 24 = .ok (.iconst (-1), 1) := by decide +kernel
theorem dX11_gives_25 : decode cX11_gives 25 = .ok (.ireturn, 1) := by decide +kernel
theorem dX11_gives_26 : decode cX11_gives 26 = .ok (.aload_n 3, 1) := by decide +kernel
theorem dX11_gives_27 : decode cX11_gives 27 = .ok (.getfield 216, 3) := by decide +kernel
theorem dX11_gives_30 : decode cX11_gives 30 = .ok (.ifCond .eq 6, 3) := by decide +kernel
theorem dX11_gives_33 : decode cX11_gives 33 = .ok (.bipush (-2), 2) := by decide +kernel
theorem dX11_gives_35 : decode cX11_gives 35 = .ok (.ireturn, 1) := by decide +kernel
theorem dX11_gives_36 : decode cX11_gives 36 = .ok (.aload_n 3, 1) := by decide +kernel
theorem dX11_gives_37 : decode cX11_gives 37 = .ok (.dup, 1) := by decide +kernel
theorem dX11_gives_38 : decode cX11_gives 38 = .ok (.getfield 219, 3) := by decide +kernel
theorem dX11_gives_41 : decode cX11_gives 41 = .ok (.iload_n 2, 1) := by decide +kernel
theorem dX11_gives_42 : decode cX11_gives 42 = .ok (.aload_n 3, 1) := by decide +kernel
theorem dX11_gives_43 : decode cX11_gives 43 = .ok (.getfield 171, 3) := by decide +kernel
theorem dX11_gives_46 : decode cX11_gives 46 = .ok (.getfield 92, 3) := by decide +kernel
theorem dX11_gives_49 : decode cX11_gives 49 = .ok (.aload_n 3, 1) := by decide +kernel
theorem dX11_gives_50 : decode cX11_gives 50 = .ok (.getfield 219, 3) := by decide +kernel
theorem dX11_gives_53 : decode cX11_gives 53 = .ok (.isub, 1) := by decide +kernel
theorem dX11_gives_54 : decode cX11_gives 54 = .ok (.invokestatic 195, 3) := by decide +kernel
theorem dX11_gives_57 : decode cX11_gives 57 = .ok (.iadd, 1) := by decide +kernel
theorem dX11_gives_58 : decode cX11_gives 58 = .ok (.putfield 219, 3) := by decide +kernel
theorem dX11_gives_61 : decode cX11_gives 61 = .ok (.aload_n 3, 1) := by decide +kernel
theorem dX11_gives_62 : decode cX11_gives 62 = .ok (.getfield 219, 3) := by decide +kernel
theorem dX11_gives_65 : decode cX11_gives 65 = .ok (.aload_n 3, 1) := by decide +kernel
theorem dX11_gives_66 : decode cX11_gives 66 = .ok (.getfield 171, 3) := by decide +kernel
theorem dX11_gives_69 : decode cX11_gives 69 = .ok (.getfield 92, 3) := by decide +kernel
theorem dX11_gives_72 : decode cX11_gives 72 = .ok (.if_icmp .lt 11, 3) := by decide +kernel
theorem dX11_gives_75 : decode cX11_gives 75 = .ok (.aload_n 0, 1) := by decide +kernel
theorem dX11_gives_76 : decode cX11_gives 76 = .ok (.getfield 62, 3) := by decide +kernel
theorem dX11_gives_79 : decode cX11_gives 79 = .ok (.aload_n 3, 1) := by decide +kernel
theorem dX11_gives_80 : decode cX11_gives 80 = .ok (.invokevirtual 222, 3) := by decide +kernel
theorem dX11_gives_83 : decode cX11_gives 83 = .ok (.aload_n 3, 1) := by decide +kernel
theorem dX11_gives_84 : decode cX11_gives 84 = .ok (.getfield 216, 3) := by decide +kernel
theorem dX11_gives_87 : decode cX11_gives 87 = .ok (.ireturn, 1) := by decide +kernel
set_option maxRecDepth 20000 in
theorem ggX11_quits_X1_at : GoodIn wsX11_quits wsX1_at := goodIn_r _ [9, 10, 11, 50, 51] rfl (by decide +kernel)
set_option maxRecDepth 20000 in
theorem gX11_quits_X1_at : GoodIn wsX11_quits (wsV RX11 213 RX1 yX1_at wsX1_at) := goodIn_app (goodIn_of _ (by decide +kernel)) ggX11_quits_X1_at
set_option maxRecDepth 20000 in
theorem ggX11_quits_X5_cancel : GoodIn wsX11_quits wsX5_cancel := goodIn_r _ [16, 17, 18, 19, 20, 21, 22, 23, 24, 25, 26, 27, 28, 29, 30, 42, 43, 44, 45, 46, 47, 48, 49, 52, 53, 54, 55, 56] rfl (by decide +kernel)
set_option maxRecDepth 20000 in
theorem gX11_quits_X5_cancel : GoodIn wsX11_quits (wsV RX11 226 RX5 yX5_cancel wsX5_cancel) := goodIn_app (goodIn_of _ (by decide +kernel)) ggX11_quits_X5_cancel
theorem dX11_quits_0 : decode cX11_quits 0 = .ok (.aload_n 0, 1) := by decide +kernel
theorem dX11_quits_1 : decode cX11_quits 1 = .ok (.getfield 46, 3) := by decide +kernel
theorem dX11_quits_4 : decode cX11_quits 4 = .ok (.iload_n 1, 1) := by decide +kernel
theorem dX11_quits_5 : decode cX11_quits 5 = .ok (.invokevirtual 213, 3) := by decide +kernel
theorem dX11_quits_8 : decode cX11_quits 8 = .ok (.astore_n 2, 1) := by decide +kernel
theorem dX11_quits_9 : decode cX11_quits 9 = .ok (.aload_n 2, 1) := by decide +kernel
theorem dX11_quits_10 : decode cX11_quits 10 = .ok (.ifnonnull 5, 3) := by decide +kernel
theorem dX11_quits_13 : decode cX11_quits 13 = .ok (.iconst (-1), 1) := by decide +kernel
theorem dX11_quits_14 : decode cX11_quits 14 = .ok (.ireturn, 1) := by decide +kernel
theorem dX11_quits_15 : decode cX11_quits 15 = .ok (.aload_n 2, 1) := by decide +kernel
theorem dX11_quits_16 : decode cX11_quits 16 = .ok (.getfield 216, 3) := by decide +kernel
theorem dX11_quits_19 : decode cX11_quits 19 = .ok (.iconst 2, 1) := by decide +kernel
theorem dX11_quits_20 : decode cX11_quits 20 = .ok (.if_icmp .eq 11, 3) := by decide +kernel
theorem dX11_quits_23 : decode cX11_quits 23 = .ok (.aload_n 2, 1) := by decide +kernel
theorem dX11_quits_24 : decode cX11_quits 24 = .ok (.getfield 216, 3) := by decide +kernel
theorem dX11_quits_27 : decode cX11_quits 27 = .ok (.iconst 3, 1) := by decide +kernel
theorem dX11_quits_28 : decode cX11_quits 28 = .ok (.if_icmp .ne 6, 3) := by decide +kernel
theorem dX11_quits_31 : decode cX11_quits 31 = .ok (.bipush (-2), 2) := by decide +kernel
theorem dX11_quits_33 : decode cX11_quits 33 = .ok (.ireturn, 1) := by decide +kernel
theorem dX11_quits_34 : decode cX11_quits 34 = .ok (.aload_n 0, 1) := by decide +kernel
theorem dX11_quits_35 : decode cX11_quits 35 = .ok (.getfield 62, 3) := by decide +kernel
theorem dX11_quits_38 : decode cX11_quits 38 = .ok (.aload_n 2, 1) := by decide +kernel
theorem dX11_quits_39 : decode cX11_quits 39 = .ok (.invokevirtual 226, 3) := by decide +kernel
theorem dX11_quits_42 : decode cX11_quits 42 = .ok (.aload_n 2, 1) := by decide +kernel
theorem dX11_quits_43 : decode cX11_quits 43 = .ok (.getfield 219, 3) := by decide +kernel
theorem dX11_quits_46 : decode cX11_quits 46 = .ok (.ireturn, 1) := by decide +kernel
set_option maxRecDepth 20000 in
theorem ggX11_grows_X6_addInteger : GoodIn wsX11_grows wsX6_addInteger := goodIn_r _ [11, 12, 13, 14, 10, 15, 16, 17, 39, 40] rfl (by decide +kernel)
set_option maxRecDepth 20000 in
theorem gX11_grows_X6_addInteger : GoodIn wsX11_grows (wsV RX11 238 RX6 yX6_addInteger wsX6_addInteger) := goodIn_app (goodIn_of _ (by decide +kernel)) ggX11_grows_X6_addInteger
theorem dX11_grows_0 : decode cX11_grows 0 = .ok (.aload_n 0, 1) := by decide +kernel
theorem dX11_grows_1 : decode cX11_grows 1 = .ok (.getfield 62, 3) := by decide +kernel
theorem dX11_grows_4 : decode cX11_grows 4 = .ok (.getfield 201, 3) := by decide +kernel
theorem dX11_grows_7 : decode cX11_grows 7 = .ok (.getfield 229, 3) := by decide +kernel
theorem dX11_grows_10 : decode cX11_grows 10 = .ok (.aload_n 0, 1) := by decide +kernel
theorem dX11_grows_11 : decode cX11_grows 11 = .ok (.getfield 62, 3) := by decide +kernel
theorem dX11_grows_14 : decode cX11_grows 14 = .ok (.getfield 232, 3) := by decide +kernel
theorem dX11_grows_17 : decode cX11_grows 17 = .ok (.isub, 1) := by decide +kernel
theorem dX11_grows_18 : decode cX11_grows 18 = .ok (.istore_n 1, 1) := by decide +kernel
theorem dX11_grows_19 : decode cX11_grows 19 = .ok (.iload_n 1, 1) := by decide +kernel
theorem dX11_grows_20 : decode cX11_grows 20 = .ok (.ifCond .gt 6, 3) := by decide +kernel
theorem dX11_grows_23 : decode cX11_grows 23 = .ok (.bipush (-2), 2) := by decide +kernel
theorem dX11_grows_25 : decode cX11_grows 25 = .ok (.ireturn, 1) := by decide +kernel
theorem dX11_grows_26 : decode cX11_grows 26 = .ok (.aload_n 0, 1) := by decide +kernel
theorem dX11_grows_27 : decode cX11_grows 27 = .ok (.getfield 62, 3) := by decide +kernel
theorem dX11_grows_30 : decode cX11_grows 30 = .ok (.getfield 235, 3) := by decide +kernel
theorem dX11_grows_33 : decode cX11_grows 33 = .ok (.getfield 92, 3) := by decide +kernel
theorem dX11_grows_36 : decode cX11_grows 36 = .ok (.bipush 100, 2) := by decide +kernel
theorem dX11_grows_38 : decode cX11_grows 38 = .ok (.if_icmp .lt 6, 3) := by decide +kernel
theorem dX11_grows_41 : decode cX11_grows 41 = .ok (.bipush (-3), 2) := by decide +kernel
theorem dX11_grows_43 : decode cX11_grows 43 = .ok (.ireturn, 1) := by decide +kernel
theorem dX11_grows_44 : decode cX11_grows 44 = .ok (.aload_n 0, 1) := by decide +kernel
theorem dX11_grows_45 : decode cX11_grows 45 = .ok (.getfield 62, 3) := by decide +kernel
theorem dX11_grows_48 : decode cX11_grows 48 = .ok (.getfield 235, 3) := by decide +kernel
theorem dX11_grows_51 : decode cX11_grows 51 = .ok (.iconst 0, 1) := by decide +kernel
theorem dX11_grows_52 : decode cX11_grows 52 = .ok (.bipush 6, 2) := by decide +kernel
theorem dX11_grows_54 : decode cX11_grows 54 = .ok (.iload_n 1, 1) := by decide +kernel
theorem dX11_grows_55 : decode cX11_grows 55 = .ok (.invokevirtual 238, 3) := by decide +kernel
theorem dX11_grows_58 : decode cX11_grows 58 = .ok (.aload_n 0, 1) := by decide +kernel
theorem dX11_grows_59 : decode cX11_grows 59 = .ok (.getfield 62, 3) := by decide +kernel
theorem dX11_grows_62 : decode cX11_grows 62 = .ok (.aload_n 0, 1) := by decide +kernel
theorem dX11_grows_63 : decode cX11_grows 63 = .ok (.getfield 62, 3) := by decide +kernel
theorem dX11_grows_66 : decode cX11_grows 66 = .ok (.getfield 201, 3) := by decide +kernel
theorem dX11_grows_69 : decode cX11_grows 69 = .ok (.getfield 229, 3) := by decide +kernel
theorem dX11_grows_72 : decode cX11_grows 72 = .ok (.putfield 232, 3) := by decide +kernel
theorem dX11_grows_75 : decode cX11_grows 75 = .ok (.iload_n 1, 1) := by decide +kernel
theorem dX11_grows_76 : decode cX11_grows 76 = .ok (.ireturn, 1) := by decide +kernel
set_option maxRecDepth 20000 in
theorem ggX11_hears_X6_at : GoodIn wsX11_hears wsX6_at := goodIn_r _ [14, 15, 16, 64, 65] rfl (by decide +kernel)
set_option maxRecDepth 20000 in
theorem gX11_hears_X6_at : GoodIn wsX11_hears (wsV RX11 125 RX6 yX6_at wsX6_at) := goodIn_app (goodIn_of _ (by decide +kernel)) ggX11_hears_X6_at
set_option maxRecDepth 20000 in
theorem ggX11_hears_X10_hear : GoodIn wsX11_hears wsX10_hear := goodIn_r _ [21, 22, 23, 24, 25, 26, 27, 28, 6, 29, 30, 31, 32, 33, 34, 35, 36, 37, 38, 39, 40, 41, 42, 43, 66, 67, 68, 69, 70, 71, 72, 73, 74, 75, 76, 77, 78, 79, 80, 81, 82, 83, 84, 85, 86, 87, 88, 89, 90] rfl (by decide +kernel)
set_option maxRecDepth 20000 in
theorem gX11_hears_X10_hear : GoodIn wsX11_hears (wsV RX11 242 RX10 yX10_hear wsX10_hear) := goodIn_app (goodIn_of _ (by decide +kernel)) ggX11_hears_X10_hear
set_option maxRecDepth 20000 in
theorem ggX11_hears_X6_drop : GoodIn wsX11_hears wsX6_drop := goodIn_r _ [47, 15, 48, 5, 6, 7, 49, 28, 29, 16, 64, 65] rfl (by decide +kernel)
set_option maxRecDepth 20000 in
theorem gX11_hears_X6_drop : GoodIn wsX11_hears (wsV RX11 210 RX6 yX6_drop wsX6_drop) := goodIn_app (goodIn_of _ (by decide +kernel)) ggX11_hears_X6_drop
theorem dX11_hears_0 : decode cX11_hears 0 = .ok (.iload_n 1, 1) := by decide +kernel
theorem dX11_hears_1 : decode cX11_hears 1 = .ok (.iconst 1, 1) := by decide +kernel
theorem dX11_hears_2 : decode cX11_hears 2 = .ok (.if_icmp .lt 9, 3) := by decide +kernel
theorem dX11_hears_5 : decode cX11_hears 5 = .ok (.iload_n 1, 1) := by decide +kernel
theorem dX11_hears_6 : decode cX11_hears 6 = .ok (.bipush 99, 2) := by decide +kernel
theorem dX11_hears_8 : decode cX11_hears 8 = .ok (.if_icmp .le 5, 3) := by decide +kernel
theorem dX11_hears_11 : decode cX11_hears 11 = .ok (.iconst (-1), 1) := by decide +kernel
theorem dX11_hears_12 : decode cX11_hears 12 = .ok (.ireturn, 1) := by decide +kernel
theorem dX11_hears_13 : decode cX11_hears 13 = .ok (.iload_n 1, 1) := by decide +kernel
theorem dX11_hears_14 : decode cX11_hears 14 = .ok (.aload_n 0, 1) := by decide +kernel
theorem dX11_hears_15 : decode cX11_hears 15 = .ok (.getfield 62, 3) := by decide +kernel
theorem dX11_hears_18 : decode cX11_hears 18 = .ok (.getfield 235, 3) := by decide +kernel
theorem dX11_hears_21 : decode cX11_hears 21 = .ok (.getfield 92, 3) := by decide +kernel
theorem dX11_hears_24 : decode cX11_hears 24 = .ok (.invokestatic 195, 3) := by decide +kernel
theorem dX11_hears_27 : decode cX11_hears 27 = .ok (.istore_n 2, 1) := by decide +kernel
theorem dX11_hears_28 : decode cX11_hears 28 = .ok (.iconst 0, 1) := by decide +kernel
theorem dX11_hears_29 : decode cX11_hears 29 = .ok (.istore_n 3, 1) := by decide +kernel
theorem dX11_hears_30 : decode cX11_hears 30 = .ok (.iload_n 3, 1) := by decide +kernel
theorem dX11_hears_31 : decode cX11_hears 31 = .ok (.iload_n 2, 1) := by decide +kernel
theorem dX11_hears_32 : decode cX11_hears 32 = .ok (.if_icmp .ge 31, 3) := by decide +kernel
theorem dX11_hears_35 : decode cX11_hears 35 = .ok (.aload_n 0, 1) := by decide +kernel
theorem dX11_hears_36 : decode cX11_hears 36 = .ok (.getfield 55, 3) := by decide +kernel
theorem dX11_hears_39 : decode cX11_hears 39 = .ok (.aload_n 0, 1) := by decide +kernel
theorem dX11_hears_40 : decode cX11_hears 40 = .ok (.getfield 62, 3) := by decide +kernel
theorem dX11_hears_43 : decode cX11_hears 43 = .ok (.getfield 235, 3) := by decide +kernel
theorem dX11_hears_46 : decode cX11_hears 46 = .ok (.iload_n 3, 1) := by decide +kernel
theorem dX11_hears_47 : decode cX11_hears 47 = .ok (.invokevirtual 125, 3) := by decide +kernel
theorem dX11_hears_50 : decode cX11_hears 50 = .ok (.aload_n 0, 1) := by decide +kernel
theorem dX11_hears_51 : decode cX11_hears 51 = .ok (.getfield 46, 3) := by decide +kernel
theorem dX11_hears_54 : decode cX11_hears 54 = .ok (.invokevirtual 242, 3) := by decide +kernel
theorem dX11_hears_57 : decode cX11_hears 57 = .ok (.iinc 3 1, 3) := by decide +kernel
theorem dX11_hears_60 : decode cX11_hears 60 = .ok (.goto (-30), 3) := by decide +kernel
theorem dX11_hears_63 : decode cX11_hears 63 = .ok (.aload_n 0, 1) := by decide +kernel
theorem dX11_hears_64 : decode cX11_hears 64 = .ok (.getfield 62, 3) := by decide +kernel
theorem dX11_hears_67 : decode cX11_hears 67 = .ok (.getfield 235, 3) := by decide +kernel
theorem dX11_hears_70 : decode cX11_hears 70 = .ok (.iload_n 2, 1) := by decide +kernel
theorem dX11_hears_71 : decode cX11_hears 71 = .ok (.invokevirtual 210, 3) := by decide +kernel
theorem dX11_hears_74 : decode cX11_hears 74 = .ok (.iload_n 2, 1) := by decide +kernel
theorem dX11_hears_75 : decode cX11_hears 75 = .ok (.ireturn, 1) := by decide +kernel
set_option maxRecDepth 20000 in
theorem ggX11_table_X11_tableOf : GoodIn wsX11_table wsX11_tableOf := goodIn_r _ [9, 10, 11, 12, 13, 21, 22, 23, 24, 25, 26, 27, 28, 29, 30, 31, 32, 33, 34, 35, 36, 37, 38, 39, 40, 41, 42] rfl (by decide +kernel)
set_option maxRecDepth 20000 in
theorem gX11_table_X11_tableOf : GoodIn wsX11_table (wsV RX11 246 RX11 yX11_tableOf wsX11_tableOf) := goodIn_app (goodIn_of _ (by decide +kernel)) ggX11_table_X11_tableOf
theorem dX11_table_0 : decode cX11_table 0 = .ok (.iload_n 1, 1) := by decide +kernel
theorem dX11_table_1 : decode cX11_table 1 = .ok (.ifCond .lt 8, 3) := by decide +kernel
theorem dX11_table_4 : decode cX11_table 4 = .ok (.iload_n 1, 1) := by decide +kernel
theorem dX11_table_5 : decode cX11_table 5 = .ok (.iconst 1, 1) := by decide +kernel
theorem dX11_table_6 : decode cX11_table 6 = .ok (.if_icmp .le 5, 3) := by decide +kernel
theorem dX11_table_9 : decode cX11_table 9 = .ok (.iconst (-1), 1) := by decide +kernel
theorem dX11_table_10 : decode cX11_table 10 = .ok (.ireturn, 1) := by decide +kernel
theorem dX11_table_11 : decode cX11_table 11 = .ok (.aload_n 0, 1) := by decide +kernel
theorem dX11_table_12 : decode cX11_table 12 = .ok (.iload_n 1, 1) := by decide +kernel
theorem dX11_table_13 : decode cX11_table 13 = .ok (.invokevirtual 246, 3) := by decide +kernel
theorem dX11_table_16 : decode cX11_table 16 = .ok (.astore_n 3, 1) := by decide +kernel
theorem dX11_table_17 : decode cX11_table 17 = .ok (.iload_n 2, 1) := by decide +kernel
theorem dX11_table_18 : decode cX11_table 18 = .ok (.tableswitch 80 0 4 #[34, 39, 49, 54, 59], 34) := by decide +kernel
theorem dX11_table_52 : decode cX11_table 52 = .ok (.aload_n 3, 1) := by decide +kernel
theorem dX11_table_53 : decode cX11_table 53 = .ok (.getfield 229, 3) := by decide +kernel
theorem dX11_table_56 : decode cX11_table 56 = .ok (.ireturn, 1) := by decide +kernel
theorem dX11_table_57 : decode cX11_table 57 = .ok (.aload_n 3, 1) := by decide +kernel
theorem dX11_table_58 : decode cX11_table 58 = .ok (.getfield 229, 3) := by decide +kernel
theorem dX11_table_61 : decode cX11_table 61 = .ok (.aload_n 3, 1) := by decide +kernel
theorem dX11_table_62 : decode cX11_table 62 = .ok (.getfield 250, 3) := by decide +kernel
theorem dX11_table_65 : decode cX11_table 65 = .ok (.isub, 1) := by decide +kernel
theorem dX11_table_66 : decode cX11_table 66 = .ok (.ireturn, 1) := by decide +kernel
theorem dX11_table_67 : decode cX11_table 67 = .ok (.aload_n 3, 1) := by decide +kernel
theorem dX11_table_68 : decode cX11_table 68 = .ok (.getfield 253, 3) := by decide +kernel
theorem dX11_table_71 : decode cX11_table 71 = .ok (.ireturn, 1) := by decide +kernel
theorem dX11_table_72 : decode cX11_table 72 = .ok (.aload_n 3, 1) := by decide +kernel
theorem dX11_table_73 : decode cX11_table 73 = .ok (.getfield 256, 3) := by decide +kernel
theorem dX11_table_76 : decode cX11_table 76 = .ok (.ireturn, 1) := by decide +kernel
theorem dX11_table_77 : decode cX11_table 77 = .ok (.aload_n 3, 1) := by decide +kernel
theorem dX11_table_78 : decode cX11_table 78 = .ok (.getfield 250, 3) := by decide +kernel
theorem dX11_table_81 : decode cX11_table 81 = .ok (.aload_n 3, 1) := by decide +kernel
theorem dX11_table_82 : decode cX11_table 82 = .ok (.getfield 229, 3) := by decide +kernel
theorem dX11_table_85 : decode cX11_table 85 = .ok (.if_icmp .ge 10, 3) := by decide +kernel
theorem dX11_table_88 : decode cX11_table 88 = .ok (.aload_n 3, 1) := by decide +kernel
theorem dX11_table_89 : decode cX11_table 89 = .ok (.getfield 250, 3) := by decide +kernel
theorem dX11_table_92 : decode cX11_table 92 = .ok (.goto 5, 3) := by decide +kernel
theorem dX11_table_95 : decode cX11_table 95 = .ok (.bipush (-9), 2) := by decide +kernel
theorem dX11_table_97 : decode cX11_table 97 = .ok (.ireturn, 1) := by decide +kernel
theorem dX11_table_98 : decode cX11_table 98 = .ok (.iconst (-1), 1) := by decide +kernel
theorem dX11_table_99 : decode cX11_table 99 = .ok (.ireturn, 1) := by decide +kernel
theorem dX11_tableOf_0 : decode cX11_tableOf 0 = .ok (.iload_n 1, 1) := by decide +kernel
theorem dX11_tableOf_1 : decode cX11_tableOf 1 = .ok (.ifCond .ne 13, 3) := by decide +kernel
theorem dX11_tableOf_4 : decode cX11_tableOf 4 = .ok (.aload_n 0, 1) := by decide +kernel
theorem dX11_tableOf_5 : decode cX11_tableOf 5 = .ok (.getfield 55, 3) := by decide +kernel
theorem dX11_tableOf_8 : decode cX11_tableOf 8 = .ok (.getfield 183, 3) := by decide +kernel
theorem dX11_tableOf_11 : decode cX11_tableOf 11 = .ok (.goto 10, 3) := by decide +kernel
theorem dX11_tableOf_14 : decode cX11_tableOf 14 = .ok (.aload_n 0, 1) := by decide +kernel
theorem dX11_tableOf_15 : decode cX11_tableOf 15 = .ok (.getfield 62, 3) := by decide +kernel
theorem dX11_tableOf_18 : decode cX11_tableOf 18 = .ok (.getfield 201, 3) := by decide +kernel
theorem dX11_tableOf_21 : decode cX11_tableOf 21 = .ok (.areturn, 1) := by decide +kernel
set_option maxRecDepth 20000 in
theorem ggX11_entry_X11_tableOf : GoodIn wsX11_entry wsX11_tableOf := goodIn_r _ [5, 6, 7, 8, 9, 27, 28, 29, 30, 31, 32, 33, 34, 35, 36, 37, 38, 39, 40, 41, 42, 43, 44, 45, 46, 47, 48] rfl (by decide +kernel)
set_option maxRecDepth 20000 in
theorem gX11_entry_X11_tableOf : GoodIn wsX11_entry (wsV RX11 246 RX11 yX11_tableOf wsX11_tableOf) := goodIn_app (goodIn_of _ (by decide +kernel)) ggX11_entry_X11_tableOf
set_option maxRecDepth 20000 in
theorem ggX11_entry_X9_has : GoodIn wsX11_entry wsX9_has := goodIn_r _ [14, 15, 16, 49, 50, 51, 52, 53, 54, 55] rfl (by decide +kernel)
set_option maxRecDepth 20000 in
theorem gX11_entry_X9_has : GoodIn wsX11_entry (wsV RX11 259 RX9 yX9_has wsX9_has) := goodIn_app (goodIn_of _ (by decide +kernel)) ggX11_entry_X9_has
set_option maxRecDepth 20000 in
theorem ggX11_entry_X9_sizeAt : GoodIn wsX11_entry wsX9_sizeAt := goodIn_r _ [20, 21, 49, 50, 51, 52, 53, 54, 55] rfl (by decide +kernel)
set_option maxRecDepth 20000 in
theorem gX11_entry_X9_sizeAt : GoodIn wsX11_entry (wsV RX11 262 RX9 yX9_sizeAt wsX9_sizeAt) := goodIn_app (goodIn_of _ (by decide +kernel)) ggX11_entry_X9_sizeAt
set_option maxRecDepth 20000 in
theorem ggX11_entry_X9_fieldAt : GoodIn wsX11_entry wsX9_fieldAt := goodIn_r _ [25, 26, 49, 50, 51, 52, 53, 54, 55] rfl (by decide +kernel)
set_option maxRecDepth 20000 in
theorem gX11_entry_X9_fieldAt : GoodIn wsX11_entry (wsV RX11 265 RX9 yX9_fieldAt wsX9_fieldAt) := goodIn_app (goodIn_of _ (by decide +kernel)) ggX11_entry_X9_fieldAt
theorem dX11_entry_0 : decode cX11_entry 0 = .ok (.iload_n 1, 1) := by decide +kernel
theorem dX11_entry_1 : decode cX11_entry 1 = .ok (.ifCond .lt 21, 3) := by decide +kernel
theorem dX11_entry_4 : decode cX11_entry 4 = .ok (.iload_n 1, 1) := by decide +kernel
theorem dX11_entry_5 : decode cX11_entry 5 = .ok (.iconst 1, 1) := by decide +kernel
theorem dX11_entry_6 : decode cX11_entry 6 = .ok (.if_icmp .gt 16, 3) := by decide +kernel
theorem dX11_entry_9 : decode cX11_entry 9 = .ok (.iload_n 3, 1) := by decide +kernel
theorem dX11_entry_10 : decode cX11_entry 10 = .ok (.ifCond .lt 12, 3) := by decide +kernel
theorem dX11_entry_13 : decode cX11_entry 13 = .ok (.iload_n 3, 1) := by decide +kernel
theorem dX11_entry_14 : decode cX11_entry 14 = .ok (.iconst 1, 1) := by decide +kernel
theorem dX11_entry_15 : decode cX11_entry 15 = .ok (.if_icmp .gt 7, 3) := by decide +kernel
theorem dX11_entry_18 : decode cX11_entry 18 = .ok (.iload_n 2, 1) := by decide +kernel
theorem dX11_entry_19 : decode cX11_entry 19 = .ok (.ifCond .ge 5, 3) := by decide +kernel
theorem dX11_entry_22 : decode cX11_entry 22 = .ok (.iconst (-1), 1) := by decide +kernel
theorem dX11_entry_23 : decode cX11_entry 23 = .ok (.ireturn, 1) := by decide +kernel
theorem dX11_entry_24 : decode cX11_entry 24 = .ok (.aload_n 0, 1) := by decide +kernel
theorem dX11_entry_25 : decode cX11_entry 25 = .ok (.iload_n 1, 1) := by decide +kernel
theorem dX11_entry_26 : decode cX11_entry 26 = .ok (.invokevirtual 246, 3) := by decide +kernel
theorem dX11_entry_29 : decode cX11_entry 29 = .ok (.astore 4, 2) := by decide +kernel
theorem dX11_entry_31 : decode cX11_entry 31 = .ok (.aload 4, 2) := by decide +kernel
theorem dX11_entry_33 : decode cX11_entry 33 = .ok (.iload_n 2, 1) := by decide +kernel
theorem dX11_entry_34 : decode cX11_entry 34 = .ok (.invokevirtual 259, 3) := by decide +kernel
theorem dX11_entry_37 : decode cX11_entry 37 = .ok (.ifCond .ne 6, 3) := by decide +kernel
theorem dX11_entry_40 : decode cX11_entry 40 = .ok (.bipush (-9), 2) := by decide +kernel
theorem dX11_entry_42 : decode cX11_entry 42 = .ok (.ireturn, 1) := by decide +kernel
theorem dX11_entry_43 : decode cX11_entry 43 = .ok (.iload_n 3, 1) := by decide +kernel
theorem dX11_entry_44 : decode cX11_entry 44 = .ok (.ifCond .ne 12, 3) := by decide +kernel
theorem dX11_entry_47 : decode cX11_entry 47 = .ok (.aload 4, 2) := by decide +kernel
theorem dX11_entry_49 : decode cX11_entry 49 = .ok (.iload_n 2, 1) := by decide +kernel
theorem dX11_entry_50 : decode cX11_entry 50 = .ok (.invokevirtual 262, 3) := by decide +kernel
theorem dX11_entry_53 : decode cX11_entry 53 = .ok (.goto 9, 3) := by decide +kernel
theorem dX11_entry_56 : decode cX11_entry 56 = .ok (.aload 4, 2) := by decide +kernel
theorem dX11_entry_58 : decode cX11_entry 58 = .ok (.iload_n 2, 1) := by decide +kernel
theorem dX11_entry_59 : decode cX11_entry 59 = .ok (.invokevirtual 265, 3) := by decide +kernel
theorem dX11_entry_62 : decode cX11_entry 62 = .ok (.ireturn, 1) := by decide +kernel
set_option maxRecDepth 20000 in
theorem ggX11_holds_X9_has : GoodIn wsX11_holds wsX9_has := goodIn_r _ [8, 9, 10, 35, 36, 37, 38, 39, 40, 41] rfl (by decide +kernel)
set_option maxRecDepth 20000 in
theorem gX11_holds_X9_has : GoodIn wsX11_holds (wsV RX11 259 RX9 yX9_has wsX9_has) := goodIn_app (goodIn_of _ (by decide +kernel)) ggX11_holds_X9_has
set_option maxRecDepth 20000 in
theorem ggX11_holds_X9_holdersAt : GoodIn wsX11_holds wsX9_holdersAt := goodIn_r _ [14, 15, 35, 36, 37, 38, 39, 40, 41] rfl (by decide +kernel)
set_option maxRecDepth 20000 in
theorem gX11_holds_X9_holdersAt : GoodIn wsX11_holds (wsV RX11 268 RX9 yX9_holdersAt wsX9_holdersAt) := goodIn_app (goodIn_of _ (by decide +kernel)) ggX11_holds_X9_holdersAt
theorem dX11_holds_0 : decode cX11_holds 0 = .ok (.aload_n 0, 1) := by decide +kernel
theorem dX11_holds_1 : decode cX11_holds 1 = .ok (.getfield 55, 3) := by decide +kernel
theorem dX11_holds_4 : decode cX11_holds 4 = .ok (.getfield 183, 3) := by decide +kernel
theorem dX11_holds_7 : decode cX11_holds 7 = .ok (.iload_n 1, 1) := by decide +kernel
theorem dX11_holds_8 : decode cX11_holds 8 = .ok (.invokevirtual 259, 3) := by decide +kernel
theorem dX11_holds_11 : decode cX11_holds 11 = .ok (.ifCond .eq 17, 3) := by decide +kernel
theorem dX11_holds_14 : decode cX11_holds 14 = .ok (.aload_n 0, 1) := by decide +kernel
theorem dX11_holds_15 : decode cX11_holds 15 = .ok (.getfield 55, 3) := by decide +kernel
theorem dX11_holds_18 : decode cX11_holds 18 = .ok (.getfield 183, 3) := by decide +kernel
theorem dX11_holds_21 : decode cX11_holds 21 = .ok (.iload_n 1, 1) := by decide +kernel
theorem dX11_holds_22 : decode cX11_holds 22 = .ok (.invokevirtual 268, 3) := by decide +kernel
theorem dX11_holds_25 : decode cX11_holds 25 = .ok (.goto 6, 3) := by decide +kernel
theorem dX11_holds_28 : decode cX11_holds 28 = .ok (.ldc2_w 272, 3) := by decide +kernel
theorem dX11_holds_31 : decode cX11_holds 31 = .ok (.lreturn, 1) := by decide +kernel
set_option maxRecDepth 20000 in
theorem ggX11_letter_X1_at : GoodIn wsX11_letter wsX1_at := goodIn_r _ [14, 15, 16, 38, 39] rfl (by decide +kernel)
set_option maxRecDepth 20000 in
theorem gX11_letter_X1_at : GoodIn wsX11_letter (wsV RX11 213 RX1 yX1_at wsX1_at) := goodIn_app (goodIn_of _ (by decide +kernel)) ggX11_letter_X1_at
theorem dX11_letter_0 : decode cX11_letter 0 = .ok (.aload_n 0, 1) := by decide +kernel
theorem dX11_letter_1 : decode cX11_letter 1 = .ok (.getfield 46, 3) := by decide +kernel
theorem dX11_letter_4 : decode cX11_letter 4 = .ok (.iload_n 1, 1) := by decide +kernel
theorem dX11_letter_5 : decode cX11_letter 5 = .ok (.invokevirtual 213, 3) := by decide +kernel
theorem dX11_letter_8 : decode cX11_letter 8 = .ok (.astore_n 3, 1) := by decide +kernel
theorem dX11_letter_9 : decode cX11_letter 9 = .ok (.aload_n 3, 1) := by decide +kernel
theorem dX11_letter_10 : decode cX11_letter 10 = .ok (.ifnonnull 5, 3) := by decide +kernel
theorem dX11_letter_13 : decode cX11_letter 13 = .ok (.iconst (-1), 1) := by decide +kernel
theorem dX11_letter_14 : decode cX11_letter 14 = .ok (.ireturn, 1) := by decide +kernel
theorem dX11_letter_15 : decode cX11_letter 15 = .ok (.iload_n 2, 1) := by decide +kernel
theorem dX11_letter_16 : decode cX11_letter 16 = .ok (.tableswitch 93 0 6 #[44, 52, 57, 62, 67, 72, 85], 44) := by decide +kernel
theorem dX11_letter_60 : decode cX11_letter 60 = .ok (.aload_n 3, 1) := by decide +kernel
theorem dX11_letter_61 : decode cX11_letter 61 = .ok (.getfield 171, 3) := by decide +kernel
theorem dX11_letter_64 : decode cX11_letter 64 = .ok (.getfield 92, 3) := by decide +kernel
theorem dX11_letter_67 : decode cX11_letter 67 = .ok (.ireturn, 1) := by decide +kernel
theorem dX11_letter_68 : decode cX11_letter 68 = .ok (.aload_n 3, 1) := by decide +kernel
theorem dX11_letter_69 : decode cX11_letter 69 = .ok (.getfield 274, 3) := by decide +kernel
theorem dX11_letter_72 : decode cX11_letter 72 = .ok (.ireturn, 1) := by decide +kernel
theorem dX11_letter_73 : decode cX11_letter 73 = .ok (.aload_n 3, 1) := by decide +kernel
theorem dX11_letter_74 : decode cX11_letter 74 = .ok (.getfield 277, 3) := by decide +kernel
theorem dX11_letter_77 : decode cX11_letter 77 = .ok (.ireturn, 1) := by decide +kernel
theorem dX11_letter_78 : decode cX11_letter 78 = .ok (.aload_n 3, 1) := by decide +kernel
theorem dX11_letter_79 : decode cX11_letter 79 = .ok (.getfield 219, 3) := by decide +kernel
theorem dX11_letter_82 : decode cX11_letter 82 = .ok (.ireturn, 1) := by decide +kernel
theorem dX11_letter_83 : decode cX11_letter 83 = .ok (.aload_n 3, 1) := by decide +kernel
theorem dX11_letter_84 : decode cX11_letter 84 = .ok (.getfield 216, 3) := by decide +kernel
theorem dX11_letter_87 : decode cX11_letter 87 = .ok (.ireturn, 1) := by decide +kernel
theorem dX11_letter_88 : decode cX11_letter 88 = .ok (.aload_n 3, 1) := by decide +kernel
theorem dX11_letter_89 : decode cX11_letter 89 = .ok (.getfield 280, 3) := by decide +kernel
theorem dX11_letter_92 : decode cX11_letter 92 = .ok (.ifCond .eq 7, 3) := by decide +kernel
theorem dX11_letter_95 : decode cX11_letter 95 = .ok (.iconst 1, 1) := by decide +kernel
theorem dX11_letter_96 : decode cX11_letter 96 = .ok (.goto 4, 3) := by decide +kernel
theorem dX11_letter_99 : decode cX11_letter 99 = .ok (.iconst 0, 1) := by decide +kernel
theorem dX11_letter_100 : decode cX11_letter 100 = .ok (.ireturn, 1) := by decide +kernel
theorem dX11_letter_101 : decode cX11_letter 101 = .ok (.aload_n 3, 1) := by decide +kernel
theorem dX11_letter_102 : decode cX11_letter 102 = .ok (.getfield 284, 3) := by decide +kernel
theorem dX11_letter_105 : decode cX11_letter 105 = .ok (.getfield 92, 3) := by decide +kernel
theorem dX11_letter_108 : decode cX11_letter 108 = .ok (.ireturn, 1) := by decide +kernel
theorem dX11_letter_109 : decode cX11_letter 109 = .ok (.iconst (-1), 1) := by decide +kernel
theorem dX11_letter_110 : decode cX11_letter 110 = .ok (.ireturn, 1) := by decide +kernel
set_option maxRecDepth 20000 in
theorem ggX11_got_X1_at : GoodIn wsX11_got wsX1_at := goodIn_r _ [9, 10, 11, 40, 41] rfl (by decide +kernel)
set_option maxRecDepth 20000 in
theorem gX11_got_X1_at : GoodIn wsX11_got (wsV RX11 213 RX1 yX1_at wsX1_at) := goodIn_app (goodIn_of _ (by decide +kernel)) ggX11_got_X1_at
set_option maxRecDepth 20000 in
theorem ggX11_got_X6_at : GoodIn wsX11_got wsX6_at := goodIn_r _ [16, 17, 18, 38, 39] rfl (by decide +kernel)
set_option maxRecDepth 20000 in
theorem gX11_got_X6_at : GoodIn wsX11_got (wsV RX11 125 RX6 yX6_at wsX6_at) := goodIn_app (goodIn_of _ (by decide +kernel)) ggX11_got_X6_at
theorem dX11_got_0 : decode cX11_got 0 = .ok (.aload_n 0, 1) := by decide +kernel
theorem dX11_got_1 : decode cX11_got 1 = .ok (.getfield 46, 3) := by decide +kernel
theorem dX11_got_4 : decode cX11_got 4 = .ok (.iload_n 1, 1) := by decide +kernel
theorem dX11_got_5 : decode cX11_got 5 = .ok (.invokevirtual 213, 3) := by decide +kernel
theorem dX11_got_8 : decode cX11_got 8 = .ok (.astore_n 3, 1) := by decide +kernel
theorem dX11_got_9 : decode cX11_got 9 = .ok (.aload_n 3, 1) := by decide +kernel
theorem dX11_got_10 : decode cX11_got 10 = .ok (.ifnull 18, 3) := by decide +kernel
theorem dX11_got_13 : decode cX11_got 13 = .ok (.iload_n 2, 1) := by decide +kernel
theorem dX11_got_14 : decode cX11_got 14 = .ok (.ifCond .lt 14, 3) := by decide +kernel
theorem dX11_got_17 : decode cX11_got 17 = .ok (.iload_n 2, 1) := by decide +kernel
theorem dX11_got_18 : decode cX11_got 18 = .ok (.aload_n 3, 1) := by decide +kernel
theorem dX11_got_19 : decode cX11_got 19 = .ok (.getfield 284, 3) := by decide +kernel
theorem dX11_got_22 : decode cX11_got 22 = .ok (.getfield 92, 3) := by decide +kernel
theorem dX11_got_25 : decode cX11_got 25 = .ok (.if_icmp .lt 5, 3) := by decide +kernel
theorem dX11_got_28 : decode cX11_got 28 = .ok (.iconst (-1), 1) := by decide +kernel
theorem dX11_got_29 : decode cX11_got 29 = .ok (.ireturn, 1) := by decide +kernel
theorem dX11_got_30 : decode cX11_got 30 = .ok (.aload_n 3, 1) := by decide +kernel
theorem dX11_got_31 : decode cX11_got 31 = .ok (.getfield 216, 3) := by decide +kernel
theorem dX11_got_34 : decode cX11_got 34 = .ok (.iconst 2, 1) := by decide +kernel
theorem dX11_got_35 : decode cX11_got 35 = .ok (.if_icmp .ne 14, 3) := by decide +kernel
theorem dX11_got_38 : decode cX11_got 38 = .ok (.aload_n 3, 1) := by decide +kernel
theorem dX11_got_39 : decode cX11_got 39 = .ok (.getfield 284, 3) := by decide +kernel
theorem dX11_got_42 : decode cX11_got 42 = .ok (.iload_n 2, 1) := by decide +kernel
theorem dX11_got_43 : decode cX11_got 43 = .ok (.invokevirtual 125, 3) := by decide +kernel
theorem dX11_got_46 : decode cX11_got 46 = .ok (.goto 5, 3) := by decide +kernel
theorem dX11_got_49 : decode cX11_got 49 = .ok (.bipush (-2), 2) := by decide +kernel
theorem dX11_got_51 : decode cX11_got 51 = .ok (.ireturn, 1) := by decide +kernel
set_option maxRecDepth 20000 in
theorem ggX11_waits_X1_blockedAt : GoodIn wsX11_waits wsX1_blockedAt := goodIn_r _ [6, 7, 8, 9, 10, 5, 11, 12, 13, 14, 15, 16, 17, 18, 19, 20, 21, 22, 23, 24, 25, 26, 38, 39, 40, 41, 42, 43, 44, 45, 46, 47] rfl (by decide +kernel)
set_option maxRecDepth 20000 in
theorem gX11_waits_X1_blockedAt : GoodIn wsX11_waits (wsV RX11 286 RX1 yX1_blockedAt wsX1_blockedAt) := goodIn_app (goodIn_of _ (by decide +kernel)) ggX11_waits_X1_blockedAt
theorem dX11_waits_0 : decode cX11_waits 0 = .ok (.iload_n 1, 1) := by decide +kernel
theorem dX11_waits_1 : decode cX11_waits 1 = .ok (.ifCond .ge 7, 3) := by decide +kernel
theorem dX11_waits_4 : decode cX11_waits 4 = .ok (.iconst (-1), 1) := by decide +kernel
theorem dX11_waits_5 : decode cX11_waits 5 = .ok (.goto 11, 3) := by decide +kernel
theorem dX11_waits_8 : decode cX11_waits 8 = .ok (.aload_n 0, 1) := by decide +kernel
theorem dX11_waits_9 : decode cX11_waits 9 = .ok (.getfield 46, 3) := by decide +kernel
theorem dX11_waits_12 : decode cX11_waits 12 = .ok (.iload_n 1, 1) := by decide +kernel
theorem dX11_waits_13 : decode cX11_waits 13 = .ok (.invokevirtual 286, 3) := by decide +kernel
theorem dX11_waits_16 : decode cX11_waits 16 = .ok (.ireturn, 1) := by decide +kernel
set_option maxRecDepth 20000 in
theorem ggX11_octet_X6_at : GoodIn wsX11_octet wsX6_at := goodIn_r _ [12, 13, 14, 57, 58] rfl (by decide +kernel)
set_option maxRecDepth 20000 in
theorem gX11_octet_X6_at : GoodIn wsX11_octet (wsV RX11 125 RX6 yX6_at wsX6_at) := goodIn_app (goodIn_of _ (by decide +kernel)) ggX11_octet_X6_at
set_option maxRecDepth 20000 in
theorem ggX11_octet_X1_at : GoodIn wsX11_octet wsX1_at := goodIn_r _ [19, 20, 21, 59, 60] rfl (by decide +kernel)
set_option maxRecDepth 20000 in
theorem gX11_octet_X1_at : GoodIn wsX11_octet (wsV RX11 213 RX1 yX1_at wsX1_at) := goodIn_app (goodIn_of _ (by decide +kernel)) ggX11_octet_X1_at
theorem dX11_octet_0 : decode cX11_octet 0 = .ok (.iload_n 2, 1) := by decide +kernel
theorem dX11_octet_1 : decode cX11_octet 1 = .ok (.ifCond .ge 5, 3) := by decide +kernel
theorem dX11_octet_4 : decode cX11_octet 4 = .ok (.iconst (-1), 1) := by decide +kernel
theorem dX11_octet_5 : decode cX11_octet 5 = .ok (.ireturn, 1) := by decide +kernel
theorem dX11_octet_6 : decode cX11_octet 6 = .ok (.iload_n 1, 1) := by decide +kernel
theorem dX11_octet_7 : decode cX11_octet 7 = .ok (.bipush 40, 2) := by decide +kernel
theorem dX11_octet_9 : decode cX11_octet 9 = .ok (.if_icmp .ne 18, 3) := by decide +kernel
theorem dX11_octet_12 : decode cX11_octet 12 = .ok (.aload_n 0, 1) := by decide +kernel
theorem dX11_octet_13 : decode cX11_octet 13 = .ok (.getfield 55, 3) := by decide +kernel
theorem dX11_octet_16 : decode cX11_octet 16 = .ok (.getfield 162, 3) := by decide +kernel
theorem dX11_octet_19 : decode cX11_octet 19 = .ok (.getfield 166, 3) := by decide +kernel
theorem dX11_octet_22 : decode cX11_octet 22 = .ok (.iload_n 2, 1) := by decide +kernel
theorem dX11_octet_23 : decode cX11_octet 23 = .ok (.invokevirtual 125, 3) := by decide +kernel
theorem dX11_octet_26 : decode cX11_octet 26 = .ok (.ireturn, 1) := by decide +kernel
theorem dX11_octet_27 : decode cX11_octet 27 = .ok (.iload_n 1, 1) := by decide +kernel
theorem dX11_octet_28 : decode cX11_octet 28 = .ok (.bipush 41, 2) := by decide +kernel
theorem dX11_octet_30 : decode cX11_octet 30 = .ok (.if_icmp .ne 15, 3) := by decide +kernel
theorem dX11_octet_33 : decode cX11_octet 33 = .ok (.aload_n 0, 1) := by decide +kernel
theorem dX11_octet_34 : decode cX11_octet 34 = .ok (.getfield 62, 3) := by decide +kernel
theorem dX11_octet_37 : decode cX11_octet 37 = .ok (.getfield 235, 3) := by decide +kernel
theorem dX11_octet_40 : decode cX11_octet 40 = .ok (.iload_n 2, 1) := by decide +kernel
theorem dX11_octet_41 : decode cX11_octet 41 = .ok (.invokevirtual 125, 3) := by decide +kernel
theorem dX11_octet_44 : decode cX11_octet 44 = .ok (.ireturn, 1) := by decide +kernel
theorem dX11_octet_45 : decode cX11_octet 45 = .ok (.aload_n 0, 1) := by decide +kernel
theorem dX11_octet_46 : decode cX11_octet 46 = .ok (.getfield 46, 3) := by decide +kernel
theorem dX11_octet_49 : decode cX11_octet 49 = .ok (.iload_n 1, 1) := by decide +kernel
theorem dX11_octet_50 : decode cX11_octet 50 = .ok (.invokevirtual 213, 3) := by decide +kernel
theorem dX11_octet_53 : decode cX11_octet 53 = .ok (.astore_n 3, 1) := by decide +kernel
theorem dX11_octet_54 : decode cX11_octet 54 = .ok (.aload_n 3, 1) := by decide +kernel
theorem dX11_octet_55 : decode cX11_octet 55 = .ok (.ifnonnull 7, 3) := by decide +kernel
theorem dX11_octet_58 : decode cX11_octet 58 = .ok (.iconst (-1), 1) := by decide +kernel
theorem dX11_octet_59 : decode cX11_octet 59 = .ok (.goto 11, 3) := by decide +kernel
theorem dX11_octet_62 : decode cX11_octet 62 = .ok (.aload_n 3, 1) := by decide +kernel
theorem dX11_octet_63 : decode cX11_octet 63 = .ok (.getfield 171, 3) := by decide +kernel
theorem dX11_octet_66 : decode cX11_octet 66 = .ok (.iload_n 2, 1) := by decide +kernel
theorem dX11_octet_67 : decode cX11_octet 67 = .ok (.invokevirtual 125, 3) := by decide +kernel
theorem dX11_octet_70 : decode cX11_octet 70 = .ok (.ireturn, 1) := by decide +kernel
set_option maxRecDepth 20000 in
theorem ggX11_coded_X6_empty : GoodIn wsX11_coded wsX6_empty := goodIn_r _ [9, 10, 35, 36] rfl (by decide +kernel)
set_option maxRecDepth 20000 in
theorem gX11_coded_X6_empty : GoodIn wsX11_coded (wsV RX11 76 RX6 yX6_empty wsX6_empty) := goodIn_app (goodIn_of _ (by decide +kernel)) ggX11_coded_X6_empty
set_option maxRecDepth 20000 in
theorem ggX11_coded_X6_addInteger : GoodIn wsX11_coded wsX6_addInteger := goodIn_r _ [14, 15, 16, 17, 8, 18, 10, 19, 35, 36] rfl (by decide +kernel)
set_option maxRecDepth 20000 in
theorem gX11_coded_X6_addInteger : GoodIn wsX11_coded (wsV RX11 238 RX6 yX6_addInteger wsX6_addInteger) := goodIn_app (goodIn_of _ (by decide +kernel)) ggX11_coded_X6_addInteger
set_option maxRecDepth 20000 in
theorem ggX11_coded_X6_at : GoodIn wsX11_coded wsX6_at := goodIn_r _ [23, 10, 19, 35, 36] rfl (by decide +kernel)
set_option maxRecDepth 20000 in
theorem gX11_coded_X6_at : GoodIn wsX11_coded (wsV RX11 125 RX6 yX6_at wsX6_at) := goodIn_app (goodIn_of _ (by decide +kernel)) ggX11_coded_X6_at
theorem dX11_coded_0 : decode cX11_coded 0 = .ok (.iload_n 1, 1) := by decide +kernel
theorem dX11_coded_1 : decode cX11_coded 1 = .ok (.iconst 1, 1) := by decide +kernel
theorem dX11_coded_2 : decode cX11_coded 2 = .ok (.if_icmp .lt 13, 3) := by decide +kernel
theorem dX11_coded_5 : decode cX11_coded 5 = .ok (.iload_n 1, 1) := by decide +kernel
theorem dX11_coded_6 : decode cX11_coded 6 = .ok (.bipush 8, 2) := by decide +kernel
theorem dX11_coded_8 : decode cX11_coded 8 = .ok (.if_icmp .gt 7, 3) := by decide +kernel
theorem dX11_coded_11 : decode cX11_coded 11 = .ok (.iload_n 2, 1) := by decide +kernel
theorem dX11_coded_12 : decode cX11_coded 12 = .ok (.ifCond .ge 7, 3) := by decide +kernel
theorem dX11_coded_15 : decode cX11_coded 15 = .ok (.ldc2_w 272, 3) := by decide +kernel
theorem dX11_coded_18 : decode cX11_coded 18 = .ok (.lreturn, 1) := by decide +kernel
theorem dX11_coded_19 : decode cX11_coded 19 = .ok (.aload_n 0, 1) := by decide +kernel
theorem dX11_coded_20 : decode cX11_coded 20 = .ok (.getfield 21, 3) := by decide +kernel
theorem dX11_coded_23 : decode cX11_coded 23 = .ok (.invokevirtual 76, 3) := by decide +kernel
theorem dX11_coded_26 : decode cX11_coded 26 = .ok (.aload_n 0, 1) := by decide +kernel
theorem dX11_coded_27 : decode cX11_coded 27 = .ok (.getfield 21, 3) := by decide +kernel
theorem dX11_coded_30 : decode cX11_coded 30 = .ok (.iconst 0, 1) := by decide +kernel
theorem dX11_coded_31 : decode cX11_coded 31 = .ok (.iload_n 1, 1) := by decide +kernel
theorem dX11_coded_32 : decode cX11_coded 32 = .ok (.iload_n 2, 1) := by decide +kernel
theorem dX11_coded_33 : decode cX11_coded 33 = .ok (.invokevirtual 238, 3) := by decide +kernel
theorem dX11_coded_36 : decode cX11_coded 36 = .ok (.lconst 0, 1) := by decide +kernel
theorem dX11_coded_37 : decode cX11_coded 37 = .ok (.lstore_n 3, 1) := by decide +kernel
theorem dX11_coded_38 : decode cX11_coded 38 = .ok (.iconst 0, 1) := by decide +kernel
theorem dX11_coded_39 : decode cX11_coded 39 = .ok (.istore 5, 2) := by decide +kernel
theorem dX11_coded_41 : decode cX11_coded 41 = .ok (.iload 5, 2) := by decide +kernel
theorem dX11_coded_43 : decode cX11_coded 43 = .ok (.aload_n 0, 1) := by decide +kernel
theorem dX11_coded_44 : decode cX11_coded 44 = .ok (.getfield 21, 3) := by decide +kernel
theorem dX11_coded_47 : decode cX11_coded 47 = .ok (.getfield 92, 3) := by decide +kernel
theorem dX11_coded_50 : decode cX11_coded 50 = .ok (.if_icmp .ge 26, 3) := by decide +kernel
theorem dX11_coded_53 : decode cX11_coded 53 = .ok (.lload_n 3, 1) := by decide +kernel
theorem dX11_coded_54 : decode cX11_coded 54 = .ok (.ldc2_w 289, 3) := by decide +kernel
theorem dX11_coded_57 : decode cX11_coded 57 = .ok (.lmul, 1) := by decide +kernel
theorem dX11_coded_58 : decode cX11_coded 58 = .ok (.aload_n 0, 1) := by decide +kernel
theorem dX11_coded_59 : decode cX11_coded 59 = .ok (.getfield 21, 3) := by decide +kernel
theorem dX11_coded_62 : decode cX11_coded 62 = .ok (.iload 5, 2) := by decide +kernel
theorem dX11_coded_64 : decode cX11_coded 64 = .ok (.invokevirtual 125, 3) := by decide +kernel
theorem dX11_coded_67 : decode cX11_coded 67 = .ok (.i2l, 1) := by decide +kernel
theorem dX11_coded_68 : decode cX11_coded 68 = .ok (.ladd, 1) := by decide +kernel
theorem dX11_coded_69 : decode cX11_coded 69 = .ok (.lstore_n 3, 1) := by decide +kernel
theorem dX11_coded_70 : decode cX11_coded 70 = .ok (.iinc 5 1, 3) := by decide +kernel
theorem dX11_coded_73 : decode cX11_coded 73 = .ok (.goto (-32), 3) := by decide +kernel
theorem dX11_coded_76 : decode cX11_coded 76 = .ok (.lload_n 3, 1) := by decide +kernel
theorem dX11_coded_77 : decode cX11_coded 77 = .ok (.lreturn, 1) := by decide +kernel
set_option maxRecDepth 20000 in
theorem ggX11_number_X6_at : GoodIn wsX11_number wsX6_at := goodIn_r _ [7, 8, 9, 31, 32] rfl (by decide +kernel)
set_option maxRecDepth 20000 in
theorem gX11_number_X6_at : GoodIn wsX11_number (wsV RX11 125 RX6 yX6_at wsX6_at) := goodIn_app (goodIn_of _ (by decide +kernel)) ggX11_number_X6_at
set_option maxRecDepth 20000 in
theorem ggX11_number_X11_withGroups : GoodIn wsX11_number wsX11_withGroups := goodIn_r _ [14, 1, 2, 15, 3, 4, 5, 6, 7, 8, 9, 16, 17, 13, 18, 19, 20, 21, 22, 23, 24, 25, 26, 27, 28, 29, 30, 31, 32] rfl (by decide +kernel)
set_option maxRecDepth 20000 in
theorem gX11_number_X11_withGroups : GoodIn wsX11_number (wsV RX11 291 RX11 yX11_withGroups wsX11_withGroups) := goodIn_app (goodIn_of _ (by decide +kernel)) ggX11_number_X11_withGroups
theorem dX11_number_0 : decode cX11_number 0 = .ok (.iload_n 1, 1) := by decide +kernel
theorem dX11_number_1 : decode cX11_number 1 = .ok (.iconst 1, 1) := by decide +kernel
theorem dX11_number_2 : decode cX11_number 2 = .ok (.if_icmp .lt 9, 3) := by decide +kernel
theorem dX11_number_5 : decode cX11_number 5 = .ok (.iload_n 1, 1) := by decide +kernel
theorem dX11_number_6 : decode cX11_number 6 = .ok (.bipush 8, 2) := by decide +kernel
theorem dX11_number_8 : decode cX11_number 8 = .ok (.if_icmp .le 5, 3) := by decide +kernel
theorem dX11_number_11 : decode cX11_number 11 = .ok (.iconst (-1), 1) := by decide +kernel
theorem dX11_number_12 : decode cX11_number 12 = .ok (.ireturn, 1) := by decide +kernel
theorem dX11_number_13 : decode cX11_number 13 = .ok (.aload_n 0, 1) := by decide +kernel
theorem dX11_number_14 : decode cX11_number 14 = .ok (.getfield 14, 3) := by decide +kernel
theorem dX11_number_17 : decode cX11_number 17 = .ok (.getfield 92, 3) := by decide +kernel
theorem dX11_number_20 : decode cX11_number 20 = .ok (.ifCond .ne 6, 3) := by decide +kernel
theorem dX11_number_23 : decode cX11_number 23 = .ok (.bipush (-2), 2) := by decide +kernel
theorem dX11_number_25 : decode cX11_number 25 = .ok (.ireturn, 1) := by decide +kernel
theorem dX11_number_26 : decode cX11_number 26 = .ok (.iconst 1, 1) := by decide +kernel
theorem dX11_number_27 : decode cX11_number 27 = .ok (.iload_n 1, 1) := by decide +kernel
theorem dX11_number_28 : decode cX11_number 28 = .ok (.ishl, 1) := by decide +kernel
theorem dX11_number_29 : decode cX11_number 29 = .ok (.iconst 1, 1) := by decide +kernel
theorem dX11_number_30 : decode cX11_number 30 = .ok (.isub, 1) := by decide +kernel
theorem dX11_number_31 : decode cX11_number 31 = .ok (.istore_n 2, 1) := by decide +kernel
theorem dX11_number_32 : decode cX11_number 32 = .ok (.aload_n 0, 1) := by decide +kernel
theorem dX11_number_33 : decode cX11_number 33 = .ok (.getfield 14, 3) := by decide +kernel
theorem dX11_number_36 : decode cX11_number 36 = .ok (.iconst 0, 1) := by decide +kernel
theorem dX11_number_37 : decode cX11_number 37 = .ok (.invokevirtual 125, 3) := by decide +kernel
theorem dX11_number_40 : decode cX11_number 40 = .ok (.iload_n 2, 1) := by decide +kernel
theorem dX11_number_41 : decode cX11_number 41 = .ok (.iand, 1) := by decide +kernel
theorem dX11_number_42 : decode cX11_number 42 = .ok (.istore_n 3, 1) := by decide +kernel
theorem dX11_number_43 : decode cX11_number 43 = .ok (.iload_n 3, 1) := by decide +kernel
theorem dX11_number_44 : decode cX11_number 44 = .ok (.iload_n 2, 1) := by decide +kernel
theorem dX11_number_45 : decode cX11_number 45 = .ok (.if_icmp .ge 21, 3) := by decide +kernel
theorem dX11_number_48 : decode cX11_number 48 = .ok (.aload_n 0, 1) := by decide +kernel
theorem dX11_number_49 : decode cX11_number 49 = .ok (.getfield 14, 3) := by decide +kernel
theorem dX11_number_52 : decode cX11_number 52 = .ok (.getfield 92, 3) := by decide +kernel
theorem dX11_number_55 : decode cX11_number 55 = .ok (.iconst 1, 1) := by decide +kernel
theorem dX11_number_56 : decode cX11_number 56 = .ok (.if_icmp .ne 7, 3) := by decide +kernel
theorem dX11_number_59 : decode cX11_number 59 = .ok (.iload_n 3, 1) := by decide +kernel
theorem dX11_number_60 : decode cX11_number 60 = .ok (.goto 5, 3) := by decide +kernel
theorem dX11_number_63 : decode cX11_number 63 = .ok (.bipush (-2), 2) := by decide +kernel
theorem dX11_number_65 : decode cX11_number 65 = .ok (.ireturn, 1) := by decide +kernel
theorem dX11_number_66 : decode cX11_number 66 = .ok (.aload_n 0, 1) := by decide +kernel
theorem dX11_number_67 : decode cX11_number 67 = .ok (.iload_n 2, 1) := by decide +kernel
theorem dX11_number_68 : decode cX11_number 68 = .ok (.invokevirtual 291, 3) := by decide +kernel
theorem dX11_number_71 : decode cX11_number 71 = .ok (.ireturn, 1) := by decide +kernel
set_option maxRecDepth 20000 in
theorem ggX11_withGroups_X6_at : GoodIn wsX11_withGroups wsX6_at := goodIn_r _ [8, 9, 10, 27, 28] rfl (by decide +kernel)
set_option maxRecDepth 20000 in
theorem gX11_withGroups_X6_at : GoodIn wsX11_withGroups (wsV RX11 125 RX6 yX6_at wsX6_at) := goodIn_app (goodIn_of _ (by decide +kernel)) ggX11_withGroups_X6_at
set_option maxRecDepth 20000 in
theorem ggX11_withGroups_X11_withGroup : GoodIn wsX11_withGroups wsX11_withGroup := goodIn_r _ [14, 15] rfl (by decide +kernel)
set_option maxRecDepth 20000 in
theorem gX11_withGroups_X11_withGroup : GoodIn wsX11_withGroups (va_wsS RX11 294 yX11_withGroup wsX11_withGroup) := goodIn_app (goodIn_of _ (by decide +kernel)) ggX11_withGroups_X11_withGroup
theorem dX11_withGroups_0 : decode cX11_withGroups 0 = .ok (.aload_n 0, 1) := by decide +kernel
theorem dX11_withGroups_1 : decode cX11_withGroups 1 = .ok (.getfield 14, 3) := by decide +kernel
theorem dX11_withGroups_4 : decode cX11_withGroups 4 = .ok (.getfield 92, 3) := by decide +kernel
theorem dX11_withGroups_7 : decode cX11_withGroups 7 = .ok (.iconst 2, 1) := by decide +kernel
theorem dX11_withGroups_8 : decode cX11_withGroups 8 = .ok (.if_icmp .ge 6, 3) := by decide +kernel
theorem dX11_withGroups_11 : decode cX11_withGroups 11 = .ok (.bipush (-2), 2) := by decide +kernel
theorem dX11_withGroups_13 : decode cX11_withGroups 13 = .ok (.ireturn, 1) := by decide +kernel
theorem dX11_withGroups_14 : decode cX11_withGroups 14 = .ok (.iload_n 1, 1) := by decide +kernel
theorem dX11_withGroups_15 : decode cX11_withGroups 15 = .ok (.i2l, 1) := by decide +kernel
theorem dX11_withGroups_16 : decode cX11_withGroups 16 = .ok (.lstore_n 2, 1) := by decide +kernel
theorem dX11_withGroups_17 : decode cX11_withGroups 17 = .ok (.iconst 1, 1) := by decide +kernel
theorem dX11_withGroups_18 : decode cX11_withGroups 18 = .ok (.istore 4, 2) := by decide +kernel
theorem dX11_withGroups_20 : decode cX11_withGroups 20 = .ok (.iload 4, 2) := by decide +kernel
theorem dX11_withGroups_22 : decode cX11_withGroups 22 = .ok (.aload_n 0, 1) := by decide +kernel
theorem dX11_withGroups_23 : decode cX11_withGroups 23 = .ok (.getfield 14, 3) := by decide +kernel
theorem dX11_withGroups_26 : decode cX11_withGroups 26 = .ok (.getfield 92, 3) := by decide +kernel
theorem dX11_withGroups_29 : decode cX11_withGroups 29 = .ok (.if_icmp .ge 83, 3) := by decide +kernel
theorem dX11_withGroups_32 : decode cX11_withGroups 32 = .ok (.aload_n 0, 1) := by decide +kernel
theorem dX11_withGroups_33 : decode cX11_withGroups 33 = .ok (.getfield 14, 3) := by decide +kernel
theorem dX11_withGroups_36 : decode cX11_withGroups 36 = .ok (.iload 4, 2) := by decide +kernel
theorem dX11_withGroups_38 : decode cX11_withGroups 38 = .ok (.invokevirtual 125, 3) := by decide +kernel
theorem dX11_withGroups_41 : decode cX11_withGroups 41 = .ok (.sipush 128, 3) := by decide +kernel
theorem dX11_withGroups_44 : decode cX11_withGroups 44 = .ok (.if_icmp .lt 7, 3) := by decide +kernel
theorem dX11_withGroups_47 : decode cX11_withGroups 47 = .ok (.iconst 1, 1) := by decide +kernel
theorem dX11_withGroups_48 : decode cX11_withGroups 48 = .ok (.goto 4, 3) := by decide +kernel
theorem dX11_withGroups_51 : decode cX11_withGroups 51 = .ok (.iconst 0, 1) := by decide +kernel
theorem dX11_withGroups_52 : decode cX11_withGroups 52 = .ok (.istore 5, 2) := by decide +kernel
theorem dX11_withGroups_54 : decode cX11_withGroups 54 = .ok (.iload 4, 2) := by decide +kernel
theorem dX11_withGroups_56 : decode cX11_withGroups 56 = .ok (.aload_n 0, 1) := by decide +kernel
theorem dX11_withGroups_57 : decode cX11_withGroups 57 = .ok (.getfield 14, 3) := by decide +kernel
theorem dX11_withGroups_60 : decode cX11_withGroups 60 = .ok (.getfield 92, 3) := by decide +kernel
theorem dX11_withGroups_63 : decode cX11_withGroups 63 = .ok (.iconst 1, 1) := by decide +kernel
theorem dX11_withGroups_64 : decode cX11_withGroups 64 = .ok (.isub, 1) := by decide +kernel
theorem dX11_withGroups_65 : decode cX11_withGroups 65 = .ok (.if_icmp .ne 7, 3) := by decide +kernel
theorem dX11_withGroups_68 : decode cX11_withGroups 68 = .ok (.iconst 1, 1) := by decide +kernel
theorem dX11_withGroups_69 : decode cX11_withGroups 69 = .ok (.goto 4, 3) := by decide +kernel
theorem dX11_withGroups_72 : decode cX11_withGroups 72 = .ok (.iconst 0, 1) := by decide +kernel
theorem dX11_withGroups_73 : decode cX11_withGroups 73 = .ok (.istore 6, 2) := by decide +kernel
theorem dX11_withGroups_75 : decode cX11_withGroups 75 = .ok (.iload 5, 2) := by decide +kernel
theorem dX11_withGroups_77 : decode cX11_withGroups 77 = .ok (.iload 6, 2) := by decide +kernel
theorem dX11_withGroups_79 : decode cX11_withGroups 79 = .ok (.if_icmp .ne 6, 3) := by decide +kernel
theorem dX11_withGroups_82 : decode cX11_withGroups 82 = .ok (.bipush (-2), 2) := by decide +kernel
theorem dX11_withGroups_84 : decode cX11_withGroups 84 = .ok (.ireturn, 1) := by decide +kernel
theorem dX11_withGroups_85 : decode cX11_withGroups 85 = .ok (.lload_n 2, 1) := by decide +kernel
theorem dX11_withGroups_86 : decode cX11_withGroups 86 = .ok (.aload_n 0, 1) := by decide +kernel
theorem dX11_withGroups_87 : decode cX11_withGroups 87 = .ok (.getfield 14, 3) := by decide +kernel
theorem dX11_withGroups_90 : decode cX11_withGroups 90 = .ok (.iload 4, 2) := by decide +kernel
theorem dX11_withGroups_92 : decode cX11_withGroups 92 = .ok (.invokevirtual 125, 3) := by decide +kernel
theorem dX11_withGroups_95 : decode cX11_withGroups 95 = .ok (.bipush 127, 2) := by decide +kernel
theorem dX11_withGroups_97 : decode cX11_withGroups 97 = .ok (.iand, 1) := by decide +kernel
theorem dX11_withGroups_98 : decode cX11_withGroups 98 = .ok (.iload 4, 2) := by decide +kernel
theorem dX11_withGroups_100 : decode cX11_withGroups 100 = .ok (.iconst 1, 1) := by decide +kernel
theorem dX11_withGroups_101 : decode cX11_withGroups 101 = .ok (.isub, 1) := by decide +kernel
theorem dX11_withGroups_102 : decode cX11_withGroups 102 = .ok (.invokestatic 294, 3) := by decide +kernel
theorem dX11_withGroups_105 : decode cX11_withGroups 105 = .ok (.lstore_n 2, 1) := by decide +kernel
theorem dX11_withGroups_106 : decode cX11_withGroups 106 = .ok (.iinc 4 1, 3) := by decide +kernel
theorem dX11_withGroups_109 : decode cX11_withGroups 109 = .ok (.goto (-89), 3) := by decide +kernel
theorem dX11_withGroups_112 : decode cX11_withGroups 112 = .ok (.lload_n 2, 1) := by decide +kernel
theorem dX11_withGroups_113 : decode cX11_withGroups 113 = .ok (.ldc2_w 298, 3) := by decide +kernel
theorem dX11_withGroups_116 : decode cX11_withGroups 116 = .ok (.lcmp, 1) := by decide +kernel
theorem dX11_withGroups_117 : decode cX11_withGroups 117 = .ok (.ifCond .le 8, 3) := by decide +kernel
theorem dX11_withGroups_120 : decode cX11_withGroups 120 = .ok (.bipush (-3), 2) := by decide +kernel
theorem dX11_withGroups_122 : decode cX11_withGroups 122 = .ok (.goto 5, 3) := by decide +kernel
theorem dX11_withGroups_125 : decode cX11_withGroups 125 = .ok (.lload_n 2, 1) := by decide +kernel
theorem dX11_withGroups_126 : decode cX11_withGroups 126 = .ok (.l2i, 1) := by decide +kernel
theorem dX11_withGroups_127 : decode cX11_withGroups 127 = .ok (.ireturn, 1) := by decide +kernel
theorem dX11_withGroup_0 : decode cX11_withGroup 0 = .ok (.iload_n 2, 1) := by decide +kernel
theorem dX11_withGroup_1 : decode cX11_withGroup 1 = .ok (.ifCond .ne 5, 3) := by decide +kernel
theorem dX11_withGroup_4 : decode cX11_withGroup 4 = .ok (.lload_n 0, 1) := by decide +kernel
theorem dX11_withGroup_5 : decode cX11_withGroup 5 = .ok (.lreturn, 1) := by decide +kernel
theorem dX11_withGroup_6 : decode cX11_withGroup 6 = .ok (.iload_n 3, 1) := by decide +kernel
theorem dX11_withGroup_7 : decode cX11_withGroup 7 = .ok (.iconst 4, 1) := by decide +kernel
theorem dX11_withGroup_8 : decode cX11_withGroup 8 = .ok (.if_icmp .le 9, 3) := by decide +kernel
theorem dX11_withGroup_11 : decode cX11_withGroup 11 = .ok (.ldc2_w 300, 3) := by decide +kernel
theorem dX11_withGroup_14 : decode cX11_withGroup 14 = .ok (.goto 12, 3) := by decide +kernel
theorem dX11_withGroup_17 : decode cX11_withGroup 17 = .ok (.lload_n 0, 1) := by decide +kernel
theorem dX11_withGroup_18 : decode cX11_withGroup 18 = .ok (.iload_n 2, 1) := by decide +kernel
theorem dX11_withGroup_19 : decode cX11_withGroup 19 = .ok (.i2l, 1) := by decide +kernel
theorem dX11_withGroup_20 : decode cX11_withGroup 20 = .ok (.bipush 7, 2) := by decide +kernel
theorem dX11_withGroup_22 : decode cX11_withGroup 22 = .ok (.iload_n 3, 1) := by decide +kernel
theorem dX11_withGroup_23 : decode cX11_withGroup 23 = .ok (.imul, 1) := by decide +kernel
theorem dX11_withGroup_24 : decode cX11_withGroup 24 = .ok (.lshl, 1) := by decide +kernel
theorem dX11_withGroup_25 : decode cX11_withGroup 25 = .ok (.ladd, 1) := by decide +kernel
theorem dX11_withGroup_26 : decode cX11_withGroup 26 = .ok (.lreturn, 1) := by decide +kernel
set_option maxRecDepth 20000 in
theorem ggX11_count_X1_blocked : GoodIn wsX11_count wsX1_blocked := goodIn_r _ [23, 24, 25, 26, 27, 22, 28, 29, 30, 31, 32, 33, 34, 69, 70, 78, 79, 80, 81, 82, 83, 84, 85] rfl (by decide +kernel)
set_option maxRecDepth 20000 in
theorem gX11_count_X1_blocked : GoodIn wsX11_count (wsV RX11 304 RX1 yX1_blocked wsX1_blocked) := goodIn_app (goodIn_of _ (by decide +kernel)) ggX11_count_X1_blocked
set_option maxRecDepth 20000 in
theorem ggX11_count_X1_atRisk : GoodIn wsX11_count wsX1_atRisk := goodIn_r _ [38, 24, 39, 40, 30, 31, 32, 22, 33, 34, 69, 70, 78, 79, 80, 81, 82, 83, 84, 85] rfl (by decide +kernel)
set_option maxRecDepth 20000 in
theorem gX11_count_X1_atRisk : GoodIn wsX11_count (wsV RX11 177 RX1 yX1_atRisk wsX1_atRisk) := goodIn_app (goodIn_of _ (by decide +kernel)) ggX11_count_X1_atRisk
theorem dX11_count_0 : decode cX11_count 0 = .ok (.iload_n 1, 1) := by decide +kernel
theorem dX11_count_1 : decode cX11_count 1 = .ok (.tableswitch 193 0 12 #[67, 78, 89, 97, 105, 113, 121, 129, 137, 152, 166, 177, 185], 67) := by decide +kernel
theorem dX11_count_68 : decode cX11_count 68 = .ok (.aload_n 0, 1) := by decide +kernel
theorem dX11_count_69 : decode cX11_count 69 = .ok (.getfield 36, 3) := by decide +kernel
theorem dX11_count_72 : decode cX11_count 72 = .ok (.getfield 104, 3) := by decide +kernel
theorem dX11_count_75 : decode cX11_count 75 = .ok (.getfield 302, 3) := by decide +kernel
theorem dX11_count_78 : decode cX11_count 78 = .ok (.ireturn, 1) := by decide +kernel
theorem dX11_count_79 : decode cX11_count 79 = .ok (.aload_n 0, 1) := by decide +kernel
theorem dX11_count_80 : decode cX11_count 80 = .ok (.getfield 36, 3) := by decide +kernel
theorem dX11_count_83 : decode cX11_count 83 = .ok (.getfield 114, 3) := by decide +kernel
theorem dX11_count_86 : decode cX11_count 86 = .ok (.getfield 302, 3) := by decide +kernel
theorem dX11_count_89 : decode cX11_count 89 = .ok (.ireturn, 1) := by decide +kernel
theorem dX11_count_90 : decode cX11_count 90 = .ok (.aload_n 0, 1) := by decide +kernel
theorem dX11_count_91 : decode cX11_count 91 = .ok (.getfield 36, 3) := by decide +kernel
theorem dX11_count_94 : decode cX11_count 94 = .ok (.getfield 303, 3) := by decide +kernel
theorem dX11_count_97 : decode cX11_count 97 = .ok (.ireturn, 1) := by decide +kernel
theorem dX11_count_98 : decode cX11_count 98 = .ok (.aload_n 0, 1) := by decide +kernel
theorem dX11_count_99 : decode cX11_count 99 = .ok (.getfield 36, 3) := by decide +kernel
theorem dX11_count_102 : decode cX11_count 102 = .ok (.getfield 180, 3) := by decide +kernel
theorem dX11_count_105 : decode cX11_count 105 = .ok (.ireturn, 1) := by decide +kernel
theorem dX11_count_106 : decode cX11_count 106 = .ok (.aload_n 0, 1) := by decide +kernel
theorem dX11_count_107 : decode cX11_count 107 = .ok (.getfield 55, 3) := by decide +kernel
theorem dX11_count_110 : decode cX11_count 110 = .ok (.getfield 174, 3) := by decide +kernel
theorem dX11_count_113 : decode cX11_count 113 = .ok (.ireturn, 1) := by decide +kernel
theorem dX11_count_114 : decode cX11_count 114 = .ok (.aload_n 0, 1) := by decide +kernel
theorem dX11_count_115 : decode cX11_count 115 = .ok (.getfield 62, 3) := by decide +kernel
theorem dX11_count_118 : decode cX11_count 118 = .ok (.getfield 232, 3) := by decide +kernel
theorem dX11_count_121 : decode cX11_count 121 = .ok (.ireturn, 1) := by decide +kernel
theorem dX11_count_122 : decode cX11_count 122 = .ok (.aload_n 0, 1) := by decide +kernel
theorem dX11_count_123 : decode cX11_count 123 = .ok (.getfield 46, 3) := by decide +kernel
theorem dX11_count_126 : decode cX11_count 126 = .ok (.getfield 79, 3) := by decide +kernel
theorem dX11_count_129 : decode cX11_count 129 = .ok (.ireturn, 1) := by decide +kernel
theorem dX11_count_130 : decode cX11_count 130 = .ok (.aload_n 0, 1) := by decide +kernel
theorem dX11_count_131 : decode cX11_count 131 = .ok (.getfield 46, 3) := by decide +kernel
theorem dX11_count_134 : decode cX11_count 134 = .ok (.invokevirtual 304, 3) := by decide +kernel
theorem dX11_count_137 : decode cX11_count 137 = .ok (.ireturn, 1) := by decide +kernel
theorem dX11_count_138 : decode cX11_count 138 = .ok (.aload_n 0, 1) := by decide +kernel
theorem dX11_count_139 : decode cX11_count 139 = .ok (.getfield 46, 3) := by decide +kernel
theorem dX11_count_142 : decode cX11_count 142 = .ok (.aload_n 0, 1) := by decide +kernel
theorem dX11_count_143 : decode cX11_count 143 = .ok (.getfield 55, 3) := by decide +kernel
theorem dX11_count_146 : decode cX11_count 146 = .ok (.getfield 174, 3) := by decide +kernel
theorem dX11_count_149 : decode cX11_count 149 = .ok (.invokevirtual 177, 3) := by decide +kernel
theorem dX11_count_152 : decode cX11_count 152 = .ok (.ireturn, 1) := by decide +kernel
theorem dX11_count_153 : decode cX11_count 153 = .ok (.aload_n 0, 1) := by decide +kernel
theorem dX11_count_154 : decode cX11_count 154 = .ok (.getfield 55, 3) := by decide +kernel
theorem dX11_count_157 : decode cX11_count 157 = .ok (.getfield 162, 3) := by decide +kernel
theorem dX11_count_160 : decode cX11_count 160 = .ok (.getfield 166, 3) := by decide +kernel
theorem dX11_count_163 : decode cX11_count 163 = .ok (.getfield 92, 3) := by decide +kernel
theorem dX11_count_166 : decode cX11_count 166 = .ok (.ireturn, 1) := by decide +kernel
theorem dX11_count_167 : decode cX11_count 167 = .ok (.aload_n 0, 1) := by decide +kernel
theorem dX11_count_168 : decode cX11_count 168 = .ok (.getfield 62, 3) := by decide +kernel
theorem dX11_count_171 : decode cX11_count 171 = .ok (.getfield 235, 3) := by decide +kernel
theorem dX11_count_174 : decode cX11_count 174 = .ok (.getfield 92, 3) := by decide +kernel
theorem dX11_count_177 : decode cX11_count 177 = .ok (.ireturn, 1) := by decide +kernel
theorem dX11_count_178 : decode cX11_count 178 = .ok (.aload_n 0, 1) := by decide +kernel
theorem dX11_count_179 : decode cX11_count 179 = .ok (.getfield 18, 3) := by decide +kernel
theorem dX11_count_182 : decode cX11_count 182 = .ok (.getfield 92, 3) := by decide +kernel
theorem dX11_count_185 : decode cX11_count 185 = .ok (.ireturn, 1) := by decide +kernel
theorem dX11_count_186 : decode cX11_count 186 = .ok (.aload_n 0, 1) := by decide +kernel
theorem dX11_count_187 : decode cX11_count 187 = .ok (.getfield 14, 3) := by decide +kernel
theorem dX11_count_190 : decode cX11_count 190 = .ok (.getfield 92, 3) := by decide +kernel
theorem dX11_count_193 : decode cX11_count 193 = .ok (.ireturn, 1) := by decide +kernel
theorem dX11_count_194 : decode cX11_count 194 = .ok (.iconst (-1), 1) := by decide +kernel
theorem dX11_count_195 : decode cX11_count 195 = .ok (.ireturn, 1) := by decide +kernel
