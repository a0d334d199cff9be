theorem dX0_init_0 : decode cX0_init 0 = .ok (.aload_n 0, 1) := by decide +kernel
theorem dX0_init_1 : decode cX0_init 1 = .ok (.invokespecial 3, 3) := by decide +kernel
theorem dX0_init_4 : decode cX0_init 4 = .ok (.aload_n 0, 1) := by decide +kernel
theorem dX0_init_5 : decode cX0_init 5 = .ok (.iconst (-1), 1) := by decide +kernel
theorem dX0_init_6 : decode cX0_init 6 = .ok (.putfield 9, 3) := by decide +kernel
theorem dX0_init_9 : decode cX0_init 9 = .ok (.return_, 1) := by decide +kernel
theorem dX0_clear_0 : decode cX0_clear 0 = .ok (.aload_n 0, 1) := by decide +kernel
theorem dX0_clear_1 : decode cX0_clear 1 = .ok (.iconst 0, 1) := by decide +kernel
theorem dX0_clear_2 : decode cX0_clear 2 = .ok (.putfield 15, 3) := by decide +kernel
theorem dX0_clear_5 : decode cX0_clear 5 = .ok (.aload_n 0, 1) := by decide +kernel
theorem dX0_clear_6 : decode cX0_clear 6 = .ok (.iconst 0, 1) := by decide +kernel
theorem dX0_clear_7 : decode cX0_clear 7 = .ok (.putfield 18, 3) := by decide +kernel
theorem dX0_clear_10 : decode cX0_clear 10 = .ok (.aload_n 0, 1) := by decide +kernel
theorem dX0_clear_11 : decode cX0_clear 11 = .ok (.iconst (-1), 1) := by decide +kernel
theorem dX0_clear_12 : decode cX0_clear 12 = .ok (.putfield 9, 3) := by decide +kernel
theorem dX0_clear_15 : decode cX0_clear 15 = .ok (.return_, 1) := by decide +kernel
theorem dX0_enter_0 : decode cX0_enter 0 = .ok (.iload_n 2, 1) := by decide +kernel
theorem dX0_enter_1 : decode cX0_enter 1 = .ok (.ifCond .ne 18, 3) := by decide +kernel
theorem dX0_enter_4 : decode cX0_enter 4 = .ok (.aload_n 0, 1) := by decide +kernel
theorem dX0_enter_5 : decode cX0_enter 5 = .ok (.dup, 1) := by decide +kernel
theorem dX0_enter_6 : decode cX0_enter 6 = .ok (.getfield 15, 3) := by decide +kernel
theorem dX0_enter_9 : decode cX0_enter 9 = .ok (.iconst 1, 1) := by decide +kernel
theorem dX0_enter_10 : decode cX0_enter 10 = .ok (.iload_n 1, 1) := by decide +kernel
theorem dX0_enter_11 : decode cX0_enter 11 = .ok (.ishl, 1) := by decide +kernel
theorem dX0_enter_12 : decode cX0_enter 12 = .ok (.ior, 1) := by decide +kernel
theorem dX0_enter_13 : decode cX0_enter 13 = .ok (.putfield 15, 3) := by decide +kernel
theorem dX0_enter_16 : decode cX0_enter 16 = .ok (.goto 13, 3) := by decide +kernel
theorem dX0_enter_19 : decode cX0_enter 19 = .ok (.aload_n 0, 1) := by decide +kernel
theorem dX0_enter_20 : decode cX0_enter 20 = .ok (.iload_n 2, 1) := by decide +kernel
theorem dX0_enter_21 : decode cX0_enter 21 = .ok (.putfield 18, 3) := by decide +kernel
theorem dX0_enter_24 : decode cX0_enter 24 = .ok (.aload_n 0, 1) := by decide +kernel
theorem dX0_enter_25 : decode cX0_enter 25 = .ok (.iload_n 1, 1) := by decide +kernel
theorem dX0_enter_26 : decode cX0_enter 26 = .ok (.putfield 9, 3) := by decide +kernel
theorem dX0_enter_29 : decode cX0_enter 29 = .ok (.return_, 1) := by decide +kernel
set_option maxRecDepth 20000 in
theorem ggX0_allPassed_J6_bitCount_0f7a4 : GoodIn wsX0_allPassed wsJ6_bitCount_0f7a4 := goodIn_r _ [5, 6, 7, 8] (by decide +kernel) (by decide +kernel)
set_option maxRecDepth 20000 in
theorem gX0_allPassed_J6_bitCount_0f7a4 : GoodIn wsX0_allPassed (va_wsS RX0 21 yJ6_bitCount_0f7a4 wsJ6_bitCount_0f7a4) := goodIn_app (goodIn_of _ (by decide +kernel)) ggX0_allPassed_J6_bitCount_0f7a4
theorem dX0_allPassed_0 : decode cX0_allPassed 0 = .ok (.aload_n 0, 1) := by decide +kernel
theorem dX0_allPassed_1 : decode cX0_allPassed 1 = .ok (.getfield 15, 3) := by decide +kernel
theorem dX0_allPassed_4 : decode cX0_allPassed 4 = .ok (.invokestatic 21, 3) := by decide +kernel
theorem dX0_allPassed_7 : decode cX0_allPassed 7 = .ok (.iconst 4, 1) := by decide +kernel
theorem dX0_allPassed_8 : decode cX0_allPassed 8 = .ok (.if_icmp .ne 7, 3) := by decide +kernel
theorem dX0_allPassed_11 : decode cX0_allPassed 11 = .ok (.iconst 1, 1) := by decide +kernel
theorem dX0_allPassed_12 : decode cX0_allPassed 12 = .ok (.goto 4, 3) := by decide +kernel
theorem dX0_allPassed_15 : decode cX0_allPassed 15 = .ok (.iconst 0, 1) := by decide +kernel
theorem dX0_allPassed_16 : decode cX0_allPassed 16 = .ok (.ireturn, 1) := by decide +kernel
set_option maxRecDepth 20000 in
theorem ggX0_isSettled_J6_bitCount_0f7a4 : GoodIn wsX0_isSettled wsJ6_bitCount_0f7a4 := goodIn_r _ [6, 7, 8, 9] (by decide +kernel) (by decide +kernel)
set_option maxRecDepth 20000 in
theorem gX0_isSettled_J6_bitCount_0f7a4 : GoodIn wsX0_isSettled (va_wsS RX0 21 yJ6_bitCount_0f7a4 wsJ6_bitCount_0f7a4) := goodIn_app (goodIn_of _ (by decide +kernel)) ggX0_isSettled_J6_bitCount_0f7a4
theorem dX0_isSettled_0 : decode cX0_isSettled 0 = .ok (.aload_n 0, 1) := by decide +kernel
theorem dX0_isSettled_1 : decode cX0_isSettled 1 = .ok (.getfield 9, 3) := by decide +kernel
theorem dX0_isSettled_4 : decode cX0_isSettled 4 = .ok (.iconst (-1), 1) := by decide +kernel
theorem dX0_isSettled_5 : decode cX0_isSettled 5 = .ok (.if_icmp .eq 18, 3) := by decide +kernel
theorem dX0_isSettled_8 : decode cX0_isSettled 8 = .ok (.aload_n 0, 1) := by decide +kernel
theorem dX0_isSettled_9 : decode cX0_isSettled 9 = .ok (.getfield 15, 3) := by decide +kernel
theorem dX0_isSettled_12 : decode cX0_isSettled 12 = .ok (.invokestatic 21, 3) := by decide +kernel
theorem dX0_isSettled_15 : decode cX0_isSettled 15 = .ok (.iconst 3, 1) := by decide +kernel
theorem dX0_isSettled_16 : decode cX0_isSettled 16 = .ok (.if_icmp .ne 7, 3) := by decide +kernel
theorem dX0_isSettled_19 : decode cX0_isSettled 19 = .ok (.iconst 1, 1) := by decide +kernel
theorem dX0_isSettled_20 : decode cX0_isSettled 20 = .ok (.goto 4, 3) := by decide +kernel
theorem dX0_isSettled_23 : decode cX0_isSettled 23 = .ok (.iconst 0, 1) := by decide +kernel
theorem dX0_isSettled_24 : decode cX0_isSettled 24 = .ok (.ireturn, 1) := by decide +kernel
set_option maxRecDepth 20000 in
theorem ggX0_nextBehind_X6_behind : GoodIn wsX0_nextBehind wsX6_behind := goodIn_r _ [3] (by decide +kernel) (by decide +kernel)
set_option maxRecDepth 20000 in
theorem gX0_nextBehind_X6_behind_n27 : GoodIn wsX0_nextBehind (wsX6_behind) := ggX0_nextBehind_X6_behind
set_option maxRecDepth 20000 in
theorem ggX0_nextBehind_X0_hasPassed : GoodIn wsX0_nextBehind wsX0_hasPassed := goodIn_r _ [8, 9, 10, 11, 12] (by decide +kernel) (by decide +kernel)
set_option maxRecDepth 20000 in
theorem gX0_nextBehind_X0_hasPassed : GoodIn wsX0_nextBehind (wsV RX0 30 RX0 yX0_hasPassed wsX0_hasPassed) := goodIn_app (goodIn_of _ (by decide +kernel)) ggX0_nextBehind_X0_hasPassed
theorem dX0_nextBehind_0 : decode cX0_nextBehind 0 = .ok (.iload_n 1, 1) := by decide +kernel
theorem dX0_nextBehind_1 : decode cX0_nextBehind 1 = .ok (.invokestatic 27, 3) := by decide +kernel
theorem dX0_nextBehind_4 : decode cX0_nextBehind 4 = .ok (.istore_n 2, 1) := by decide +kernel
theorem dX0_nextBehind_5 : decode cX0_nextBehind 5 = .ok (.iconst 1, 1) := by decide +kernel
theorem dX0_nextBehind_6 : decode cX0_nextBehind 6 = .ok (.istore_n 3, 1) := by decide +kernel
theorem dX0_nextBehind_7 : decode cX0_nextBehind 7 = .ok (.iload_n 3, 1) := by decide +kernel
theorem dX0_nextBehind_8 : decode cX0_nextBehind 8 = .ok (.iconst 4, 1) := by decide +kernel
theorem dX0_nextBehind_9 : decode cX0_nextBehind 9 = .ok (.if_icmp .ge 22, 3) := by decide +kernel
theorem dX0_nextBehind_12 : decode cX0_nextBehind 12 = .ok (.aload_n 0, 1) := by decide +kernel
theorem dX0_nextBehind_13 : decode cX0_nextBehind 13 = .ok (.iload_n 2, 1) := by decide +kernel
theorem dX0_nextBehind_14 : decode cX0_nextBehind 14 = .ok (.invokevirtual 30, 3) := by decide +kernel
theorem dX0_nextBehind_17 : decode cX0_nextBehind 17 = .ok (.ifCond .eq 14, 3) := by decide +kernel
theorem dX0_nextBehind_20 : decode cX0_nextBehind 20 = .ok (.iload_n 2, 1) := by decide +kernel
theorem dX0_nextBehind_21 : decode cX0_nextBehind 21 = .ok (.invokestatic 27, 3) := by decide +kernel
theorem dX0_nextBehind_24 : decode cX0_nextBehind 24 = .ok (.istore_n 2, 1) := by decide +kernel
theorem dX0_nextBehind_25 : decode cX0_nextBehind 25 = .ok (.iinc 3 1, 3) := by decide +kernel
theorem dX0_nextBehind_28 : decode cX0_nextBehind 28 = .ok (.goto (-21), 3) := by decide +kernel
theorem dX0_nextBehind_31 : decode cX0_nextBehind 31 = .ok (.iload_n 2, 1) := by decide +kernel
theorem dX0_nextBehind_32 : decode cX0_nextBehind 32 = .ok (.ireturn, 1) := by decide +kernel
theorem dX0_hasPassed_0 : decode cX0_hasPassed 0 = .ok (.aload_n 0, 1) := by decide +kernel
theorem dX0_hasPassed_1 : decode cX0_hasPassed 1 = .ok (.getfield 15, 3) := by decide +kernel
theorem dX0_hasPassed_4 : decode cX0_hasPassed 4 = .ok (.iload_n 1, 1) := by decide +kernel
theorem dX0_hasPassed_5 : decode cX0_hasPassed 5 = .ok (.ishr, 1) := by decide +kernel
theorem dX0_hasPassed_6 : decode cX0_hasPassed 6 = .ok (.iconst 1, 1) := by decide +kernel
theorem dX0_hasPassed_7 : decode cX0_hasPassed 7 = .ok (.iand, 1) := by decide +kernel
theorem dX0_hasPassed_8 : decode cX0_hasPassed 8 = .ok (.iconst 1, 1) := by decide +kernel
theorem dX0_hasPassed_9 : decode cX0_hasPassed 9 = .ok (.if_icmp .ne 7, 3) := by decide +kernel
theorem dX0_hasPassed_12 : decode cX0_hasPassed 12 = .ok (.iconst 1, 1) := by decide +kernel
theorem dX0_hasPassed_13 : decode cX0_hasPassed 13 = .ok (.goto 4, 3) := by decide +kernel
theorem dX0_hasPassed_16 : decode cX0_hasPassed 16 = .ok (.iconst 0, 1) := by decide +kernel
theorem dX0_hasPassed_17 : decode cX0_hasPassed 17 = .ok (.ireturn, 1) := by decide +kernel
set_option maxRecDepth 20000 in
theorem ggX1_init_X2_init : GoodIn wsX1_init wsX2_init := goodIn_r _ [10, 11, 2, 3, 12, 13, 14, 15, 16, 17, 18] (by decide +kernel) (by decide +kernel)
set_option maxRecDepth 20000 in
theorem gX1_init_X2_init : GoodIn wsX1_init (wsX2_init) := ggX1_init_X2_init
theorem dX1_init_0 : decode cX1_init 0 = .ok (.aload_n 0, 1) := by decide +kernel
theorem dX1_init_1 : decode cX1_init 1 = .ok (.invokespecial 3, 3) := by decide +kernel
theorem dX1_init_4 : decode cX1_init 4 = .ok (.aload_n 0, 1) := by decide +kernel
theorem dX1_init_5 : decode cX1_init 5 = .ok (.new 9, 3) := by decide +kernel
theorem dX1_init_8 : decode cX1_init 8 = .ok (.dup, 1) := by decide +kernel
theorem dX1_init_9 : decode cX1_init 9 = .ok (.bipush 54, 2) := by decide +kernel
theorem dX1_init_11 : decode cX1_init 11 = .ok (.invokespecial 11, 3) := by decide +kernel
theorem dX1_init_14 : decode cX1_init 14 = .ok (.putfield 14, 3) := by decide +kernel
theorem dX1_init_17 : decode cX1_init 17 = .ok (.return_, 1) := by decide +kernel
set_option maxRecDepth 20000 in
theorem ggX1_shuffle_X2_put : GoodIn wsX1_shuffle wsX2_put := goodIn_r _ [7, 8, 19] (by decide +kernel) (by decide +kernel)
set_option maxRecDepth 20000 in
theorem gX1_shuffle_X2_put : GoodIn wsX1_shuffle (wsV RX1 20 RX2 yX2_put wsX2_put) := goodIn_app (goodIn_of _ (by decide +kernel)) ggX1_shuffle_X2_put
set_option maxRecDepth 20000 in
theorem ggX1_shuffle_X1_swap : GoodIn wsX1_shuffle wsX1_swap := goodIn_r _ [13, 1, 14, 15, 16, 6, 17, 8, 3, 4, 5, 7, 18, 19] (by decide +kernel) (by decide +kernel)
set_option maxRecDepth 20000 in
theorem gX1_shuffle_X1_swap : GoodIn wsX1_shuffle (wsV RX1 25 RX1 yX1_swap wsX1_swap) := goodIn_app (goodIn_of _ (by decide +kernel)) ggX1_shuffle_X1_swap
theorem dX1_shuffle_0 : decode cX1_shuffle 0 = .ok (.iconst 0, 1) := by decide +kernel
theorem dX1_shuffle_1 : decode cX1_shuffle 1 = .ok (.istore_n 2, 1) := by decide +kernel
theorem dX1_shuffle_2 : decode cX1_shuffle 2 = .ok (.iload_n 2, 1) := by decide +kernel
theorem dX1_shuffle_3 : decode cX1_shuffle 3 = .ok (.bipush 54, 2) := by decide +kernel
theorem dX1_shuffle_5 : decode cX1_shuffle 5 = .ok (.if_icmp .ge 18, 3) := by decide +kernel
theorem dX1_shuffle_8 : decode cX1_shuffle 8 = .ok (.aload_n 0, 1) := by decide +kernel
theorem dX1_shuffle_9 : decode cX1_shuffle 9 = .ok (.getfield 14, 3) := by decide +kernel
theorem dX1_shuffle_12 : decode cX1_shuffle 12 = .ok (.iload_n 2, 1) := by decide +kernel
theorem dX1_shuffle_13 : decode cX1_shuffle 13 = .ok (.iload_n 2, 1) := by decide +kernel
theorem dX1_shuffle_14 : decode cX1_shuffle 14 = .ok (.invokevirtual 20, 3) := by decide +kernel
theorem dX1_shuffle_17 : decode cX1_shuffle 17 = .ok (.iinc 2 1, 3) := by decide +kernel
theorem dX1_shuffle_20 : decode cX1_shuffle 20 = .ok (.goto (-18), 3) := by decide +kernel
theorem dX1_shuffle_23 : decode cX1_shuffle 23 = .ok (.iload_n 1, 1) := by decide +kernel
theorem dX1_shuffle_24 : decode cX1_shuffle 24 = .ok (.istore_n 2, 1) := by decide +kernel
theorem dX1_shuffle_25 : decode cX1_shuffle 25 = .ok (.bipush 53, 2) := by decide +kernel
theorem dX1_shuffle_27 : decode cX1_shuffle 27 = .ok (.istore_n 3, 1) := by decide +kernel
theorem dX1_shuffle_28 : decode cX1_shuffle 28 = .ok (.iload_n 3, 1) := by decide +kernel
theorem dX1_shuffle_29 : decode cX1_shuffle 29 = .ok (.iconst 1, 1) := by decide +kernel
theorem dX1_shuffle_30 : decode cX1_shuffle 30 = .ok (.if_icmp .lt 32, 3) := by decide +kernel
theorem dX1_shuffle_33 : decode cX1_shuffle 33 = .ok (.sipush 25173, 3) := by decide +kernel
theorem dX1_shuffle_36 : decode cX1_shuffle 36 = .ok (.iload_n 2, 1) := by decide +kernel
theorem dX1_shuffle_37 : decode cX1_shuffle 37 = .ok (.imul, 1) := by decide +kernel
theorem dX1_shuffle_38 : decode cX1_shuffle 38 = .ok (.sipush 13849, 3) := by decide +kernel
theorem dX1_shuffle_41 : decode cX1_shuffle 41 = .ok (.iadd, 1) := by decide +kernel
theorem dX1_shuffle_42 : decode cX1_shuffle 42 = .ok (.ldc 24, 2) := by decide +kernel
theorem dX1_shuffle_44 : decode cX1_shuffle 44 = .ok (.irem, 1) := by decide +kernel
theorem dX1_shuffle_45 : decode cX1_shuffle 45 = .ok (.istore_n 2, 1) := by decide +kernel
theorem dX1_shuffle_46 : decode cX1_shuffle 46 = .ok (.aload_n 0, 1) := by decide +kernel
theorem dX1_shuffle_47 : decode cX1_shuffle 47 = .ok (.iload_n 3, 1) := by decide +kernel
theorem dX1_shuffle_48 : decode cX1_shuffle 48 = .ok (.iload_n 2, 1) := by decide +kernel
theorem dX1_shuffle_49 : decode cX1_shuffle 49 = .ok (.iload_n 3, 1) := by decide +kernel
theorem dX1_shuffle_50 : decode cX1_shuffle 50 = .ok (.iconst 1, 1) := by decide +kernel
theorem dX1_shuffle_51 : decode cX1_shuffle 51 = .ok (.iadd, 1) := by decide +kernel
theorem dX1_shuffle_52 : decode cX1_shuffle 52 = .ok (.irem, 1) := by decide +kernel
theorem dX1_shuffle_53 : decode cX1_shuffle 53 = .ok (.invokevirtual 25, 3) := by decide +kernel
theorem dX1_shuffle_56 : decode cX1_shuffle 56 = .ok (.iinc 3 (-1), 3) := by decide +kernel
theorem dX1_shuffle_59 : decode cX1_shuffle 59 = .ok (.goto (-31), 3) := by decide +kernel
theorem dX1_shuffle_62 : decode cX1_shuffle 62 = .ok (.return_, 1) := by decide +kernel
set_option maxRecDepth 20000 in
theorem ggX1_swap_X2_at : GoodIn wsX1_swap wsX2_at := goodIn_r _ [6, 7, 13] (by decide +kernel) (by decide +kernel)
set_option maxRecDepth 20000 in
theorem gX1_swap_X2_at : GoodIn wsX1_swap (wsV RX1 28 RX2 yX2_at wsX2_at) := goodIn_app (goodIn_of _ (by decide +kernel)) ggX1_swap_X2_at
set_option maxRecDepth 20000 in
theorem ggX1_swap_X2_put : GoodIn wsX1_swap wsX2_put := goodIn_r _ [11, 7, 13] (by decide +kernel) (by decide +kernel)
set_option maxRecDepth 20000 in
theorem gX1_swap_X2_put : GoodIn wsX1_swap (wsV RX1 20 RX2 yX2_put wsX2_put) := goodIn_app (goodIn_of _ (by decide +kernel)) ggX1_swap_X2_put
theorem dX1_swap_0 : decode cX1_swap 0 = .ok (.aload_n 0, 1) := by decide +kernel
theorem dX1_swap_1 : decode cX1_swap 1 = .ok (.getfield 14, 3) := by decide +kernel
theorem dX1_swap_4 : decode cX1_swap 4 = .ok (.iload_n 1, 1) := by decide +kernel
theorem dX1_swap_5 : decode cX1_swap 5 = .ok (.invokevirtual 28, 3) := by decide +kernel
theorem dX1_swap_8 : decode cX1_swap 8 = .ok (.istore_n 3, 1) := by decide +kernel
theorem dX1_swap_9 : decode cX1_swap 9 = .ok (.aload_n 0, 1) := by decide +kernel
theorem dX1_swap_10 : decode cX1_swap 10 = .ok (.getfield 14, 3) := by decide +kernel
theorem dX1_swap_13 : decode cX1_swap 13 = .ok (.iload_n 1, 1) := by decide +kernel
theorem dX1_swap_14 : decode cX1_swap 14 = .ok (.aload_n 0, 1) := by decide +kernel
theorem dX1_swap_15 : decode cX1_swap 15 = .ok (.getfield 14, 3) := by decide +kernel
theorem dX1_swap_18 : decode cX1_swap 18 = .ok (.iload_n 2, 1) := by decide +kernel
theorem dX1_swap_19 : decode cX1_swap 19 = .ok (.invokevirtual 28, 3) := by decide +kernel
theorem dX1_swap_22 : decode cX1_swap 22 = .ok (.invokevirtual 20, 3) := by decide +kernel
theorem dX1_swap_25 : decode cX1_swap 25 = .ok (.aload_n 0, 1) := by decide +kernel
theorem dX1_swap_26 : decode cX1_swap 26 = .ok (.getfield 14, 3) := by decide +kernel
theorem dX1_swap_29 : decode cX1_swap 29 = .ok (.iload_n 2, 1) := by decide +kernel
theorem dX1_swap_30 : decode cX1_swap 30 = .ok (.iload_n 3, 1) := by decide +kernel
theorem dX1_swap_31 : decode cX1_swap 31 = .ok (.invokevirtual 20, 3) := by decide +kernel
theorem dX1_swap_34 : decode cX1_swap 34 = .ok (.return_, 1) := by decide +kernel
set_option maxRecDepth 20000 in
theorem ggX1_cardAt_X2_at : GoodIn wsX1_cardAt wsX2_at := goodIn_r _ [6, 7, 9] (by decide +kernel) (by decide +kernel)
set_option maxRecDepth 20000 in
theorem gX1_cardAt_X2_at : GoodIn wsX1_cardAt (wsV RX1 28 RX2 yX2_at wsX2_at) := goodIn_app (goodIn_of _ (by decide +kernel)) ggX1_cardAt_X2_at
theorem dX1_cardAt_0 : decode cX1_cardAt 0 = .ok (.aload_n 0, 1) := by decide +kernel
theorem dX1_cardAt_1 : decode cX1_cardAt 1 = .ok (.getfield 14, 3) := by decide +kernel
theorem dX1_cardAt_4 : decode cX1_cardAt 4 = .ok (.iload_n 1, 1) := by decide +kernel
theorem dX1_cardAt_5 : decode cX1_cardAt 5 = .ok (.invokevirtual 28, 3) := by decide +kernel
theorem dX1_cardAt_8 : decode cX1_cardAt 8 = .ok (.ireturn, 1) := by decide +kernel
set_option maxRecDepth 20000 in
theorem ggX1_cardsFrom_X2_at : GoodIn wsX1_cardsFrom wsX2_at := goodIn_r _ [6, 7, 12] (by decide +kernel) (by decide +kernel)
set_option maxRecDepth 20000 in
theorem gX1_cardsFrom_X2_at : GoodIn wsX1_cardsFrom (wsV RX1 28 RX2 yX2_at wsX2_at) := goodIn_app (goodIn_of _ (by decide +kernel)) ggX1_cardsFrom_X2_at
set_option maxRecDepth 20000 in
theorem ggX1_cardsFrom_X6_only : GoodIn wsX1_cardsFrom wsX6_only := goodIn_r _ [10] (by decide +kernel) (by decide +kernel)
set_option maxRecDepth 20000 in
theorem gX1_cardsFrom_X6_only_n32 : GoodIn wsX1_cardsFrom (wsX6_only) := ggX1_cardsFrom_X6_only
theorem dX1_cardsFrom_0 : decode cX1_cardsFrom 0 = .ok (.lconst 0, 1) := by decide +kernel
theorem dX1_cardsFrom_1 : decode cX1_cardsFrom 1 = .ok (.lstore_n 3, 1) := by decide +kernel
theorem dX1_cardsFrom_2 : decode cX1_cardsFrom 2 = .ok (.iconst 0, 1) := by decide +kernel
theorem dX1_cardsFrom_3 : decode cX1_cardsFrom 3 = .ok (.istore 5, 2) := by decide +kernel
theorem dX1_cardsFrom_5 : decode cX1_cardsFrom 5 = .ok (.iload 5, 2) := by decide +kernel
theorem dX1_cardsFrom_7 : decode cX1_cardsFrom 7 = .ok (.iload_n 2, 1) := by decide +kernel
theorem dX1_cardsFrom_8 : decode cX1_cardsFrom 8 = .ok (.if_icmp .ge 26, 3) := by decide +kernel
theorem dX1_cardsFrom_11 : decode cX1_cardsFrom 11 = .ok (.lload_n 3, 1) := by decide +kernel
theorem dX1_cardsFrom_12 : decode cX1_cardsFrom 12 = .ok (.aload_n 0, 1) := by decide +kernel
theorem dX1_cardsFrom_13 : decode cX1_cardsFrom 13 = .ok (.getfield 14, 3) := by decide +kernel
theorem dX1_cardsFrom_16 : decode cX1_cardsFrom 16 = .ok (.iload_n 1, 1) := by decide +kernel
theorem dX1_cardsFrom_17 : decode cX1_cardsFrom 17 = .ok (.iload 5, 2) := by decide +kernel
theorem dX1_cardsFrom_19 : decode cX1_cardsFrom 19 = .ok (.iadd, 1) := by decide +kernel
theorem dX1_cardsFrom_20 : decode cX1_cardsFrom 20 = .ok (.invokevirtual 28, 3) := by decide +kernel
theorem dX1_cardsFrom_23 : decode cX1_cardsFrom 23 = .ok (.invokestatic 32, 3) := by decide +kernel
theorem dX1_cardsFrom_26 : decode cX1_cardsFrom 26 = .ok (.lor, 1) := by decide +kernel
theorem dX1_cardsFrom_27 : decode cX1_cardsFrom 27 = .ok (.lstore_n 3, 1) := by decide +kernel
theorem dX1_cardsFrom_28 : decode cX1_cardsFrom 28 = .ok (.iinc 5 1, 3) := by decide +kernel
theorem dX1_cardsFrom_31 : decode cX1_cardsFrom 31 = .ok (.goto (-26), 3) := by decide +kernel
theorem dX1_cardsFrom_34 : decode cX1_cardsFrom 34 = .ok (.lload_n 3, 1) := by decide +kernel
theorem dX1_cardsFrom_35 : decode cX1_cardsFrom 35 = .ok (.lreturn, 1) := by decide +kernel
theorem dX2_init_0 : decode cX2_init 0 = .ok (.aload_n 0, 1) := by decide +kernel
theorem dX2_init_1 : decode cX2_init 1 = .ok (.invokespecial 3, 3) := by decide +kernel
theorem dX2_init_4 : decode cX2_init 4 = .ok (.aload_n 0, 1) := by decide +kernel
theorem dX2_init_5 : decode cX2_init 5 = .ok (.iload_n 1, 1) := by decide +kernel
theorem dX2_init_6 : decode cX2_init 6 = .ok (.iconst 0, 1) := by decide +kernel
theorem dX2_init_7 : decode cX2_init 7 = .ok (.invokestatic 9, 3) := by decide +kernel
theorem dX2_init_10 : decode cX2_init 10 = .ok (.newarray .int, 2) := by decide +kernel
theorem dX2_init_12 : decode cX2_init 12 = .ok (.putfield 15, 3) := by decide +kernel
theorem dX2_init_15 : decode cX2_init 15 = .ok (.return_, 1) := by decide +kernel
theorem dX2_at_0 : decode cX2_at 0 = .ok (.iload_n 1, 1) := by decide +kernel
theorem dX2_at_1 : decode cX2_at 1 = .ok (.ifCond .lt 21, 3) := by decide +kernel
theorem dX2_at_4 : decode cX2_at 4 = .ok (.iload_n 1, 1) := by decide +kernel
theorem dX2_at_5 : decode cX2_at 5 = .ok (.aload_n 0, 1) := by decide +kernel
theorem dX2_at_6 : decode cX2_at 6 = .ok (.getfield 15, 3) := by decide +kernel
theorem dX2_at_9 : decode cX2_at 9 = .ok (.arraylength, 1) := by decide +kernel
theorem dX2_at_10 : decode cX2_at 10 = .ok (.if_icmp .ge 12, 3) := by decide +kernel
theorem dX2_at_13 : decode cX2_at 13 = .ok (.aload_n 0, 1) := by decide +kernel
theorem dX2_at_14 : decode cX2_at 14 = .ok (.getfield 15, 3) := by decide +kernel
theorem dX2_at_17 : decode cX2_at 17 = .ok (.iload_n 1, 1) := by decide +kernel
theorem dX2_at_18 : decode cX2_at 18 = .ok (.iaload, 1) := by decide +kernel
theorem dX2_at_19 : decode cX2_at 19 = .ok (.goto 4, 3) := by decide +kernel
theorem dX2_at_22 : decode cX2_at 22 = .ok (.iconst (-1), 1) := by decide +kernel
theorem dX2_at_23 : decode cX2_at 23 = .ok (.ireturn, 1) := by decide +kernel
theorem dX2_put_0 : decode cX2_put 0 = .ok (.iload_n 1, 1) := by decide +kernel
theorem dX2_put_1 : decode cX2_put 1 = .ok (.ifCond .lt 19, 3) := by decide +kernel
theorem dX2_put_4 : decode cX2_put 4 = .ok (.iload_n 1, 1) := by decide +kernel
theorem dX2_put_5 : decode cX2_put 5 = .ok (.aload_n 0, 1) := by decide +kernel
theorem dX2_put_6 : decode cX2_put 6 = .ok (.getfield 15, 3) := by decide +kernel
theorem dX2_put_9 : decode cX2_put 9 = .ok (.arraylength, 1) := by decide +kernel
theorem dX2_put_10 : decode cX2_put 10 = .ok (.if_icmp .ge 10, 3) := by decide +kernel
theorem dX2_put_13 : decode cX2_put 13 = .ok (.aload_n 0, 1) := by decide +kernel
theorem dX2_put_14 : decode cX2_put 14 = .ok (.getfield 15, 3) := by decide +kernel
theorem dX2_put_17 : decode cX2_put 17 = .ok (.iload_n 1, 1) := by decide +kernel
theorem dX2_put_18 : decode cX2_put 18 = .ok (.iload_n 2, 1) := by decide +kernel
theorem dX2_put_19 : decode cX2_put 19 = .ok (.iastore, 1) := by decide +kernel
theorem dX2_put_20 : decode cX2_put 20 = .ok (.return_, 1) := by decide +kernel
theorem dX3_init_0 : decode cX3_init 0 = .ok (.aload_n 0, 1) := by decide +kernel
theorem dX3_init_1 : decode cX3_init 1 = .ok (.invokespecial 1, 3) := by decide +kernel
theorem dX3_init_4 : decode cX3_init 4 = .ok (.aload_n 0, 1) := by decide +kernel
theorem dX3_init_5 : decode cX3_init 5 = .ok (.iload_n 1, 1) := by decide +kernel
theorem dX3_init_6 : decode cX3_init 6 = .ok (.iconst 0, 1) := by decide +kernel
theorem dX3_init_7 : decode cX3_init 7 = .ok (.invokestatic 7, 3) := by decide +kernel
theorem dX3_init_10 : decode cX3_init 10 = .ok (.newarray .long, 2) := by decide +kernel
theorem dX3_init_12 : decode cX3_init 12 = .ok (.putfield 13, 3) := by decide +kernel
theorem dX3_init_15 : decode cX3_init 15 = .ok (.return_, 1) := by decide +kernel
theorem dX3_at_0 : decode cX3_at 0 = .ok (.iload_n 1, 1) := by decide +kernel
theorem dX3_at_1 : decode cX3_at 1 = .ok (.ifCond .lt 21, 3) := by decide +kernel
theorem dX3_at_4 : decode cX3_at 4 = .ok (.iload_n 1, 1) := by decide +kernel
theorem dX3_at_5 : decode cX3_at 5 = .ok (.aload_n 0, 1) := by decide +kernel
theorem dX3_at_6 : decode cX3_at 6 = .ok (.getfield 13, 3) := by decide +kernel
theorem dX3_at_9 : decode cX3_at 9 = .ok (.arraylength, 1) := by decide +kernel
theorem dX3_at_10 : decode cX3_at 10 = .ok (.if_icmp .ge 12, 3) := by decide +kernel
theorem dX3_at_13 : decode cX3_at 13 = .ok (.aload_n 0, 1) := by decide +kernel
theorem dX3_at_14 : decode cX3_at 14 = .ok (.getfield 13, 3) := by decide +kernel
theorem dX3_at_17 : decode cX3_at 17 = .ok (.iload_n 1, 1) := by decide +kernel
theorem dX3_at_18 : decode cX3_at 18 = .ok (.laload, 1) := by decide +kernel
theorem dX3_at_19 : decode cX3_at 19 = .ok (.goto 4, 3) := by decide +kernel
theorem dX3_at_22 : decode cX3_at 22 = .ok (.lconst 0, 1) := by decide +kernel
theorem dX3_at_23 : decode cX3_at 23 = .ok (.lreturn, 1) := by decide +kernel
theorem dX3_put_0 : decode cX3_put 0 = .ok (.iload_n 1, 1) := by decide +kernel
theorem dX3_put_1 : decode cX3_put 1 = .ok (.ifCond .lt 19, 3) := by decide +kernel
theorem dX3_put_4 : decode cX3_put 4 = .ok (.iload_n 1, 1) := by decide +kernel
theorem dX3_put_5 : decode cX3_put 5 = .ok (.aload_n 0, 1) := by decide +kernel
theorem dX3_put_6 : decode cX3_put 6 = .ok (.getfield 13, 3) := by decide +kernel
theorem dX3_put_9 : decode cX3_put 9 = .ok (.arraylength, 1) := by decide +kernel
theorem dX3_put_10 : decode cX3_put 10 = .ok (.if_icmp .ge 10, 3) := by decide +kernel
theorem dX3_put_13 : decode cX3_put 13 = .ok (.aload_n 0, 1) := by decide +kernel
theorem dX3_put_14 : decode cX3_put 14 = .ok (.getfield 13, 3) := by decide +kernel
theorem dX3_put_17 : decode cX3_put 17 = .ok (.iload_n 1, 1) := by decide +kernel
theorem dX3_put_18 : decode cX3_put 18 = .ok (.lload_n 2, 1) := by decide +kernel
theorem dX3_put_19 : decode cX3_put 19 = .ok (.lastore, 1) := by decide +kernel
theorem dX3_put_20 : decode cX3_put 20 = .ok (.return_, 1) := by decide +kernel
set_option maxRecDepth 20000 in
theorem ggX4_init_X2_init : GoodIn wsX4_init wsX2_init := goodIn_r _ [11, 12, 2, 3, 13, 14, 15, 16, 17, 18, 19] (by decide +kernel) (by decide +kernel)
set_option maxRecDepth 20000 in
theorem gX4_init_X2_init : GoodIn wsX4_init (wsX2_init) := ggX4_init_X2_init
theorem dX4_init_0 : decode cX4_init 0 = .ok (.aload_n 0, 1) := by decide +kernel
theorem dX4_init_1 : decode cX4_init 1 = .ok (.invokespecial 3, 3) := by decide +kernel
theorem dX4_init_4 : decode cX4_init 4 = .ok (.aload_n 0, 1) := by decide +kernel
theorem dX4_init_5 : decode cX4_init 5 = .ok (.new 9, 3) := by decide +kernel
theorem dX4_init_8 : decode cX4_init 8 = .ok (.dup, 1) := by decide +kernel
theorem dX4_init_9 : decode cX4_init 9 = .ok (.iconst 4, 1) := by decide +kernel
theorem dX4_init_10 : decode cX4_init 10 = .ok (.invokespecial 11, 3) := by decide +kernel
theorem dX4_init_13 : decode cX4_init 13 = .ok (.putfield 14, 3) := by decide +kernel
theorem dX4_init_16 : decode cX4_init 16 = .ok (.aload_n 0, 1) := by decide +kernel
theorem dX4_init_17 : decode cX4_init 17 = .ok (.new 9, 3) := by decide +kernel
theorem dX4_init_20 : decode cX4_init 20 = .ok (.dup, 1) := by decide +kernel
theorem dX4_init_21 : decode cX4_init 21 = .ok (.iconst 4, 1) := by decide +kernel
theorem dX4_init_22 : decode cX4_init 22 = .ok (.invokespecial 11, 3) := by decide +kernel
theorem dX4_init_25 : decode cX4_init 25 = .ok (.putfield 20, 3) := by decide +kernel
theorem dX4_init_28 : decode cX4_init 28 = .ok (.return_, 1) := by decide +kernel
set_option maxRecDepth 20000 in
theorem ggX4_enter_X2_at : GoodIn wsX4_enter wsX2_at := goodIn_r _ [7, 8, 22] (by decide +kernel) (by decide +kernel)
set_option maxRecDepth 20000 in
theorem gX4_enter_X2_at : GoodIn wsX4_enter (wsV RX4 23 RX2 yX2_at wsX2_at) := goodIn_app (goodIn_of _ (by decide +kernel)) ggX4_enter_X2_at
set_option maxRecDepth 20000 in
theorem ggX4_enter_X2_put : GoodIn wsX4_enter wsX2_put := goodIn_r _ [12, 8, 22] (by decide +kernel) (by decide +kernel)
set_option maxRecDepth 20000 in
theorem gX4_enter_X2_put : GoodIn wsX4_enter (wsV RX4 31 RX2 yX2_put wsX2_put) := goodIn_app (goodIn_of _ (by decide +kernel)) ggX4_enter_X2_put
set_option maxRecDepth 20000 in
theorem ggX4_enter_X4_addScore : GoodIn wsX4_enter wsX4_addScore := goodIn_r _ [17, 18, 2, 3, 4, 5, 6, 7, 8, 9, 10, 11, 12, 19, 20, 21, 22] (by decide +kernel) (by decide +kernel)
set_option maxRecDepth 20000 in
theorem gX4_enter_X4_addScore : GoodIn wsX4_enter (wsV RX4 35 RX4 yX4_addScore wsX4_addScore) := goodIn_app (goodIn_of _ (by decide +kernel)) ggX4_enter_X4_addScore
theorem dX4_enter_0 : decode cX4_enter 0 = .ok (.aload_n 0, 1) := by decide +kernel
theorem dX4_enter_1 : decode cX4_enter 1 = .ok (.getfield 20, 3) := by decide +kernel
theorem dX4_enter_4 : decode cX4_enter 4 = .ok (.iload_n 1, 1) := by decide +kernel
theorem dX4_enter_5 : decode cX4_enter 5 = .ok (.invokevirtual 23, 3) := by decide +kernel
theorem dX4_enter_8 : decode cX4_enter 8 = .ok (.ifCond .le 7, 3) := by decide +kernel
theorem dX4_enter_11 : decode cX4_enter 11 = .ok (.iconst 1, 1) := by decide +kernel
theorem dX4_enter_12 : decode cX4_enter 12 = .ok (.goto 4, 3) := by decide +kernel
theorem dX4_enter_15 : decode cX4_enter 15 = .ok (.iconst 0, 1) := by decide +kernel
theorem dX4_enter_16 : decode cX4_enter 16 = .ok (.istore 5, 2) := by decide +kernel
theorem dX4_enter_18 : decode cX4_enter 18 = .ok (.aload_n 0, 1) := by decide +kernel
theorem dX4_enter_19 : decode cX4_enter 19 = .ok (.iload 5, 2) := by decide +kernel
theorem dX4_enter_21 : decode cX4_enter 21 = .ok (.ifCond .eq 9, 3) := by decide +kernel
theorem dX4_enter_24 : decode cX4_enter 24 = .ok (.iconst 2, 1) := by decide +kernel
theorem dX4_enter_25 : decode cX4_enter 25 = .ok (.iload_n 3, 1) := by decide +kernel
theorem dX4_enter_26 : decode cX4_enter 26 = .ok (.imul, 1) := by decide +kernel
theorem dX4_enter_27 : decode cX4_enter 27 = .ok (.goto 4, 3) := by decide +kernel
theorem dX4_enter_30 : decode cX4_enter 30 = .ok (.iload_n 3, 1) := by decide +kernel
theorem dX4_enter_31 : decode cX4_enter 31 = .ok (.putfield 27, 3) := by decide +kernel
theorem dX4_enter_34 : decode cX4_enter 34 = .ok (.iload 5, 2) := by decide +kernel
theorem dX4_enter_36 : decode cX4_enter 36 = .ok (.ifCond .eq 26, 3) := by decide +kernel
theorem dX4_enter_39 : decode cX4_enter 39 = .ok (.iload 4, 2) := by decide +kernel
theorem dX4_enter_41 : decode cX4_enter 41 = .ok (.ifCond .eq 21, 3) := by decide +kernel
theorem dX4_enter_44 : decode cX4_enter 44 = .ok (.aload_n 0, 1) := by decide +kernel
theorem dX4_enter_45 : decode cX4_enter 45 = .ok (.getfield 20, 3) := by decide +kernel
theorem dX4_enter_48 : decode cX4_enter 48 = .ok (.iload_n 1, 1) := by decide +kernel
theorem dX4_enter_49 : decode cX4_enter 49 = .ok (.aload_n 0, 1) := by decide +kernel
theorem dX4_enter_50 : decode cX4_enter 50 = .ok (.getfield 20, 3) := by decide +kernel
theorem dX4_enter_53 : decode cX4_enter 53 = .ok (.iload_n 1, 1) := by decide +kernel
theorem dX4_enter_54 : decode cX4_enter 54 = .ok (.invokevirtual 23, 3) := by decide +kernel
theorem dX4_enter_57 : decode cX4_enter 57 = .ok (.iconst 1, 1) := by decide +kernel
theorem dX4_enter_58 : decode cX4_enter 58 = .ok (.isub, 1) := by decide +kernel
theorem dX4_enter_59 : decode cX4_enter 59 = .ok (.invokevirtual 31, 3) := by decide +kernel
theorem dX4_enter_62 : decode cX4_enter 62 = .ok (.aload_n 0, 1) := by decide +kernel
theorem dX4_enter_63 : decode cX4_enter 63 = .ok (.iload_n 1, 1) := by decide +kernel
theorem dX4_enter_64 : decode cX4_enter 64 = .ok (.invokevirtual 35, 3) := by decide +kernel
theorem dX4_enter_67 : decode cX4_enter 67 = .ok (.iload_n 2, 1) := by decide +kernel
theorem dX4_enter_68 : decode cX4_enter 68 = .ok (.iconst (-1), 1) := by decide +kernel
theorem dX4_enter_69 : decode cX4_enter 69 = .ok (.if_icmp .eq 8, 3) := by decide +kernel
theorem dX4_enter_72 : decode cX4_enter 72 = .ok (.aload_n 0, 1) := by decide +kernel
theorem dX4_enter_73 : decode cX4_enter 73 = .ok (.iload_n 2, 1) := by decide +kernel
theorem dX4_enter_74 : decode cX4_enter 74 = .ok (.invokevirtual 35, 3) := by decide +kernel
theorem dX4_enter_77 : decode cX4_enter 77 = .ok (.return_, 1) := by decide +kernel
set_option maxRecDepth 20000 in
theorem ggX4_giveRadli_X2_at : GoodIn wsX4_giveRadli wsX2_at := goodIn_r _ [6, 7, 15] (by decide +kernel) (by decide +kernel)
set_option maxRecDepth 20000 in
theorem gX4_giveRadli_X2_at : GoodIn wsX4_giveRadli (wsV RX4 23 RX2 yX2_at wsX2_at) := goodIn_app (goodIn_of _ (by decide +kernel)) ggX4_giveRadli_X2_at
set_option maxRecDepth 20000 in
theorem ggX4_giveRadli_X2_put : GoodIn wsX4_giveRadli wsX2_put := goodIn_r _ [11, 7, 15] (by decide +kernel) (by decide +kernel)
set_option maxRecDepth 20000 in
theorem gX4_giveRadli_X2_put : GoodIn wsX4_giveRadli (wsV RX4 31 RX2 yX2_put wsX2_put) := goodIn_app (goodIn_of _ (by decide +kernel)) ggX4_giveRadli_X2_put
theorem dX4_giveRadli_0 : decode cX4_giveRadli 0 = .ok (.iconst 0, 1) := by decide +kernel
theorem dX4_giveRadli_1 : decode cX4_giveRadli 1 = .ok (.istore_n 1, 1) := by decide +kernel
theorem dX4_giveRadli_2 : decode cX4_giveRadli 2 = .ok (.iload_n 1, 1) := by decide +kernel
theorem dX4_giveRadli_3 : decode cX4_giveRadli 3 = .ok (.iconst 4, 1) := by decide +kernel
theorem dX4_giveRadli_4 : decode cX4_giveRadli 4 = .ok (.if_icmp .ge 27, 3) := by decide +kernel
theorem dX4_giveRadli_7 : decode cX4_giveRadli 7 = .ok (.aload_n 0, 1) := by decide +kernel
theorem dX4_giveRadli_8 : decode cX4_giveRadli 8 = .ok (.getfield 20, 3) := by decide +kernel
theorem dX4_giveRadli_11 : decode cX4_giveRadli 11 = .ok (.iload_n 1, 1) := by decide +kernel
theorem dX4_giveRadli_12 : decode cX4_giveRadli 12 = .ok (.aload_n 0, 1) := by decide +kernel
theorem dX4_giveRadli_13 : decode cX4_giveRadli 13 = .ok (.getfield 20, 3) := by decide +kernel
theorem dX4_giveRadli_16 : decode cX4_giveRadli 16 = .ok (.iload_n 1, 1) := by decide +kernel
theorem dX4_giveRadli_17 : decode cX4_giveRadli 17 = .ok (.invokevirtual 23, 3) := by decide +kernel
theorem dX4_giveRadli_20 : decode cX4_giveRadli 20 = .ok (.iconst 1, 1) := by decide +kernel
theorem dX4_giveRadli_21 : decode cX4_giveRadli 21 = .ok (.iadd, 1) := by decide +kernel
theorem dX4_giveRadli_22 : decode cX4_giveRadli 22 = .ok (.invokevirtual 31, 3) := by decide +kernel
theorem dX4_giveRadli_25 : decode cX4_giveRadli 25 = .ok (.iinc 1 1, 3) := by decide +kernel
theorem dX4_giveRadli_28 : decode cX4_giveRadli 28 = .ok (.goto (-26), 3) := by decide +kernel
theorem dX4_giveRadli_31 : decode cX4_giveRadli 31 = .ok (.return_, 1) := by decide +kernel
set_option maxRecDepth 20000 in
theorem ggX4_addScore_X2_at : GoodIn wsX4_addScore wsX2_at := goodIn_r _ [7, 8, 16] (by decide +kernel) (by decide +kernel)
set_option maxRecDepth 20000 in
theorem gX4_addScore_X2_at : GoodIn wsX4_addScore (wsV RX4 23 RX2 yX2_at wsX2_at) := goodIn_app (goodIn_of _ (by decide +kernel)) ggX4_addScore_X2_at
set_option maxRecDepth 20000 in
theorem ggX4_addScore_X2_put : GoodIn wsX4_addScore wsX2_put := goodIn_r _ [12, 8, 16] (by decide +kernel) (by decide +kernel)
set_option maxRecDepth 20000 in
theorem gX4_addScore_X2_put : GoodIn wsX4_addScore (wsV RX4 31 RX2 yX2_put wsX2_put) := goodIn_app (goodIn_of _ (by decide +kernel)) ggX4_addScore_X2_put
theorem dX4_addScore_0 : decode cX4_addScore 0 = .ok (.aload_n 0, 1) := by decide +kernel
theorem dX4_addScore_1 : decode cX4_addScore 1 = .ok (.getfield 14, 3) := by decide +kernel
theorem dX4_addScore_4 : decode cX4_addScore 4 = .ok (.iload_n 1, 1) := by decide +kernel
theorem dX4_addScore_5 : decode cX4_addScore 5 = .ok (.aload_n 0, 1) := by decide +kernel
theorem dX4_addScore_6 : decode cX4_addScore 6 = .ok (.getfield 14, 3) := by decide +kernel
theorem dX4_addScore_9 : decode cX4_addScore 9 = .ok (.iload_n 1, 1) := by decide +kernel
theorem dX4_addScore_10 : decode cX4_addScore 10 = .ok (.invokevirtual 23, 3) := by decide +kernel
theorem dX4_addScore_13 : decode cX4_addScore 13 = .ok (.aload_n 0, 1) := by decide +kernel
theorem dX4_addScore_14 : decode cX4_addScore 14 = .ok (.getfield 27, 3) := by decide +kernel
theorem dX4_addScore_17 : decode cX4_addScore 17 = .ok (.iadd, 1) := by decide +kernel
theorem dX4_addScore_18 : decode cX4_addScore 18 = .ok (.invokevirtual 31, 3) := by decide +kernel
theorem dX4_addScore_21 : decode cX4_addScore 21 = .ok (.return_, 1) := by decide +kernel
set_option maxRecDepth 20000 in
theorem ggX5_init_X2_init : GoodIn wsX5_init wsX2_init := goodIn_r _ [10, 11, 2, 3, 12, 13, 14, 15, 16, 17, 18] (by decide +kernel) (by decide +kernel)
set_option maxRecDepth 20000 in
theorem gX5_init_X2_init : GoodIn wsX5_init (wsX2_init) := ggX5_init_X2_init
theorem dX5_init_0 : decode cX5_init 0 = .ok (.aload_n 0, 1) := by decide +kernel
theorem dX5_init_1 : decode cX5_init 1 = .ok (.invokespecial 3, 3) := by decide +kernel
theorem dX5_init_4 : decode cX5_init 4 = .ok (.aload_n 0, 1) := by decide +kernel
theorem dX5_init_5 : decode cX5_init 5 = .ok (.new 9, 3) := by decide +kernel
theorem dX5_init_8 : decode cX5_init 8 = .ok (.dup, 1) := by decide +kernel
theorem dX5_init_9 : decode cX5_init 9 = .ok (.iconst 4, 1) := by decide +kernel
theorem dX5_init_10 : decode cX5_init 10 = .ok (.invokespecial 11, 3) := by decide +kernel
theorem dX5_init_13 : decode cX5_init 13 = .ok (.putfield 14, 3) := by decide +kernel
theorem dX5_init_16 : decode cX5_init 16 = .ok (.return_, 1) := by decide +kernel
theorem dX5_begin_0 : decode cX5_begin 0 = .ok (.aload_n 0, 1) := by decide +kernel
theorem dX5_begin_1 : decode cX5_begin 1 = .ok (.iload_n 1, 1) := by decide +kernel
theorem dX5_begin_2 : decode cX5_begin 2 = .ok (.putfield 20, 3) := by decide +kernel
theorem dX5_begin_5 : decode cX5_begin 5 = .ok (.aload_n 0, 1) := by decide +kernel
theorem dX5_begin_6 : decode cX5_begin 6 = .ok (.iconst 0, 1) := by decide +kernel
theorem dX5_begin_7 : decode cX5_begin 7 = .ok (.putfield 24, 3) := by decide +kernel
theorem dX5_begin_10 : decode cX5_begin 10 = .ok (.return_, 1) := by decide +kernel
set_option maxRecDepth 20000 in
theorem ggX5_add_X2_put : GoodIn wsX5_add wsX2_put := goodIn_r _ [7, 8, 12] (by decide +kernel) (by decide +kernel)
set_option maxRecDepth 20000 in
theorem gX5_add_X2_put : GoodIn wsX5_add (wsV RX5 27 RX2 yX2_put wsX2_put) := goodIn_app (goodIn_of _ (by decide +kernel)) ggX5_add_X2_put
theorem dX5_add_0 : decode cX5_add 0 = .ok (.aload_n 0, 1) := by decide +kernel
theorem dX5_add_1 : decode cX5_add 1 = .ok (.getfield 14, 3) := by decide +kernel
theorem dX5_add_4 : decode cX5_add 4 = .ok (.aload_n 0, 1) := by decide +kernel
theorem dX5_add_5 : decode cX5_add 5 = .ok (.getfield 24, 3) := by decide +kernel
theorem dX5_add_8 : decode cX5_add 8 = .ok (.iload_n 1, 1) := by decide +kernel
theorem dX5_add_9 : decode cX5_add 9 = .ok (.invokevirtual 27, 3) := by decide +kernel
theorem dX5_add_12 : decode cX5_add 12 = .ok (.aload_n 0, 1) := by decide +kernel
theorem dX5_add_13 : decode cX5_add 13 = .ok (.dup, 1) := by decide +kernel
theorem dX5_add_14 : decode cX5_add 14 = .ok (.getfield 24, 3) := by decide +kernel
theorem dX5_add_17 : decode cX5_add 17 = .ok (.iconst 1, 1) := by decide +kernel
theorem dX5_add_18 : decode cX5_add 18 = .ok (.iadd, 1) := by decide +kernel
theorem dX5_add_19 : decode cX5_add 19 = .ok (.putfield 24, 3) := by decide +kernel
theorem dX5_add_22 : decode cX5_add 22 = .ok (.return_, 1) := by decide +kernel
set_option maxRecDepth 20000 in
theorem ggX5_cardAt_X2_at : GoodIn wsX5_cardAt wsX2_at := goodIn_r _ [6, 7, 11] (by decide +kernel) (by decide +kernel)
set_option maxRecDepth 20000 in
theorem gX5_cardAt_X2_at : GoodIn wsX5_cardAt (wsV RX5 31 RX2 yX2_at wsX2_at) := goodIn_app (goodIn_of _ (by decide +kernel)) ggX5_cardAt_X2_at
theorem dX5_cardAt_0 : decode cX5_cardAt 0 = .ok (.aload_n 0, 1) := by decide +kernel
theorem dX5_cardAt_1 : decode cX5_cardAt 1 = .ok (.getfield 14, 3) := by decide +kernel
theorem dX5_cardAt_4 : decode cX5_cardAt 4 = .ok (.iload_n 1, 1) := by decide +kernel
theorem dX5_cardAt_5 : decode cX5_cardAt 5 = .ok (.invokevirtual 31, 3) := by decide +kernel
theorem dX5_cardAt_8 : decode cX5_cardAt 8 = .ok (.ireturn, 1) := by decide +kernel
set_option maxRecDepth 20000 in
theorem ggX5_ledSuit_X2_at : GoodIn wsX5_ledSuit wsX2_at := goodIn_r _ [7, 8, 15] (by decide +kernel) (by decide +kernel)
set_option maxRecDepth 20000 in
theorem gX5_ledSuit_X2_at : GoodIn wsX5_ledSuit (wsV RX5 31 RX2 yX2_at wsX2_at) := goodIn_app (goodIn_of _ (by decide +kernel)) ggX5_ledSuit_X2_at
set_option maxRecDepth 20000 in
theorem ggX5_ledSuit_X6_suitOf : GoodIn wsX5_ledSuit wsX6_suitOf := goodIn_r _ [11] (by decide +kernel) (by decide +kernel)
set_option maxRecDepth 20000 in
theorem gX5_ledSuit_X6_suitOf_n35 : GoodIn wsX5_ledSuit (wsX6_suitOf) := ggX5_ledSuit_X6_suitOf
theorem dX5_ledSuit_0 : decode cX5_ledSuit 0 = .ok (.aload_n 0, 1) := by decide +kernel
theorem dX5_ledSuit_1 : decode cX5_ledSuit 1 = .ok (.getfield 24, 3) := by decide +kernel
theorem dX5_ledSuit_4 : decode cX5_ledSuit 4 = .ok (.ifCond .le 17, 3) := by decide +kernel
theorem dX5_ledSuit_7 : decode cX5_ledSuit 7 = .ok (.aload_n 0, 1) := by decide +kernel
theorem dX5_ledSuit_8 : decode cX5_ledSuit 8 = .ok (.getfield 14, 3) := by decide +kernel
theorem dX5_ledSuit_11 : decode cX5_ledSuit 11 = .ok (.iconst 0, 1) := by decide +kernel
theorem dX5_ledSuit_12 : decode cX5_ledSuit 12 = .ok (.invokevirtual 31, 3) := by decide +kernel
theorem dX5_ledSuit_15 : decode cX5_ledSuit 15 = .ok (.invokestatic 35, 3) := by decide +kernel
theorem dX5_ledSuit_18 : decode cX5_ledSuit 18 = .ok (.goto 4, 3) := by decide +kernel
theorem dX5_ledSuit_21 : decode cX5_ledSuit 21 = .ok (.iconst (-1), 1) := by decide +kernel
theorem dX5_ledSuit_22 : decode cX5_ledSuit 22 = .ok (.ireturn, 1) := by decide +kernel
set_option maxRecDepth 20000 in
theorem ggX5_cardSet_X2_at : GoodIn wsX5_cardSet wsX2_at := goodIn_r _ [7, 8, 15] (by decide +kernel) (by decide +kernel)
set_option maxRecDepth 20000 in
theorem gX5_cardSet_X2_at : GoodIn wsX5_cardSet (wsV RX5 31 RX2 yX2_at wsX2_at) := goodIn_app (goodIn_of _ (by decide +kernel)) ggX5_cardSet_X2_at
set_option maxRecDepth 20000 in
theorem ggX5_cardSet_X6_only : GoodIn wsX5_cardSet wsX6_only := goodIn_r _ [11] (by decide +kernel) (by decide +kernel)
set_option maxRecDepth 20000 in
theorem gX5_cardSet_X6_only_n38 : GoodIn wsX5_cardSet (wsX6_only) := ggX5_cardSet_X6_only
theorem dX5_cardSet_0 : decode cX5_cardSet 0 = .ok (.lconst 0, 1) := by decide +kernel
theorem dX5_cardSet_1 : decode cX5_cardSet 1 = .ok (.lstore_n 1, 1) := by decide +kernel
theorem dX5_cardSet_2 : decode cX5_cardSet 2 = .ok (.iconst 0, 1) := by decide +kernel
theorem dX5_cardSet_3 : decode cX5_cardSet 3 = .ok (.istore_n 3, 1) := by decide +kernel
theorem dX5_cardSet_4 : decode cX5_cardSet 4 = .ok (.iload_n 3, 1) := by decide +kernel
theorem dX5_cardSet_5 : decode cX5_cardSet 5 = .ok (.aload_n 0, 1) := by decide +kernel
theorem dX5_cardSet_6 : decode cX5_cardSet 6 = .ok (.getfield 24, 3) := by decide +kernel
theorem dX5_cardSet_9 : decode cX5_cardSet 9 = .ok (.if_icmp .ge 23, 3) := by decide +kernel
theorem dX5_cardSet_12 : decode cX5_cardSet 12 = .ok (.lload_n 1, 1) := by decide +kernel
theorem dX5_cardSet_13 : decode cX5_cardSet 13 = .ok (.aload_n 0, 1) := by decide +kernel
theorem dX5_cardSet_14 : decode cX5_cardSet 14 = .ok (.getfield 14, 3) := by decide +kernel
theorem dX5_cardSet_17 : decode cX5_cardSet 17 = .ok (.iload_n 3, 1) := by decide +kernel
theorem dX5_cardSet_18 : decode cX5_cardSet 18 = .ok (.invokevirtual 31, 3) := by decide +kernel
theorem dX5_cardSet_21 : decode cX5_cardSet 21 = .ok (.invokestatic 38, 3) := by decide +kernel
theorem dX5_cardSet_24 : decode cX5_cardSet 24 = .ok (.lor, 1) := by decide +kernel
theorem dX5_cardSet_25 : decode cX5_cardSet 25 = .ok (.lstore_n 1, 1) := by decide +kernel
theorem dX5_cardSet_26 : decode cX5_cardSet 26 = .ok (.iinc 3 1, 3) := by decide +kernel
theorem dX5_cardSet_29 : decode cX5_cardSet 29 = .ok (.goto (-25), 3) := by decide +kernel
theorem dX5_cardSet_32 : decode cX5_cardSet 32 = .ok (.lload_n 1, 1) := by decide +kernel
theorem dX5_cardSet_33 : decode cX5_cardSet 33 = .ok (.lreturn, 1) := by decide +kernel
set_option maxRecDepth 20000 in
theorem ggX5_playerOf_X2_at : GoodIn wsX5_playerOf wsX2_at := goodIn_r _ [7, 8, 18] (by decide +kernel) (by decide +kernel)
set_option maxRecDepth 20000 in
theorem gX5_playerOf_X2_at : GoodIn wsX5_playerOf (wsV RX5 31 RX2 yX2_at wsX2_at) := goodIn_app (goodIn_of _ (by decide +kernel)) ggX5_playerOf_X2_at
set_option maxRecDepth 20000 in
theorem ggX5_playerOf_X5_playerAt : GoodIn wsX5_playerOf wsX5_playerAt := goodIn_r _ [13, 14, 15, 16, 17] (by decide +kernel) (by decide +kernel)
set_option maxRecDepth 20000 in
theorem gX5_playerOf_X5_playerAt : GoodIn wsX5_playerOf (wsV RX5 42 RX5 yX5_playerAt wsX5_playerAt) := goodIn_app (goodIn_of _ (by decide +kernel)) ggX5_playerOf_X5_playerAt
theorem dX5_playerOf_0 : decode cX5_playerOf 0 = .ok (.iconst 0, 1) := by decide +kernel
theorem dX5_playerOf_1 : decode cX5_playerOf 1 = .ok (.istore_n 2, 1) := by decide +kernel
theorem dX5_playerOf_2 : decode cX5_playerOf 2 = .ok (.iload_n 2, 1) := by decide +kernel
theorem dX5_playerOf_3 : decode cX5_playerOf 3 = .ok (.aload_n 0, 1) := by decide +kernel
theorem dX5_playerOf_4 : decode cX5_playerOf 4 = .ok (.getfield 24, 3) := by decide +kernel
theorem dX5_playerOf_7 : decode cX5_playerOf 7 = .ok (.if_icmp .ge 27, 3) := by decide +kernel
theorem dX5_playerOf_10 : decode cX5_playerOf 10 = .ok (.aload_n 0, 1) := by decide +kernel
theorem dX5_playerOf_11 : decode cX5_playerOf 11 = .ok (.getfield 14, 3) := by decide +kernel
theorem dX5_playerOf_14 : decode cX5_playerOf 14 = .ok (.iload_n 2, 1) := by decide +kernel
theorem dX5_playerOf_15 : decode cX5_playerOf 15 = .ok (.invokevirtual 31, 3) := by decide +kernel
theorem dX5_playerOf_18 : decode cX5_playerOf 18 = .ok (.iload_n 1, 1) := by decide +kernel
theorem dX5_playerOf_19 : decode cX5_playerOf 19 = .ok (.if_icmp .ne 9, 3) := by decide +kernel
theorem dX5_playerOf_22 : decode cX5_playerOf 22 = .ok (.aload_n 0, 1) := by decide +kernel
theorem dX5_playerOf_23 : decode cX5_playerOf 23 = .ok (.iload_n 2, 1) := by decide +kernel
theorem dX5_playerOf_24 : decode cX5_playerOf 24 = .ok (.invokevirtual 42, 3) := by decide +kernel
theorem dX5_playerOf_27 : decode cX5_playerOf 27 = .ok (.ireturn, 1) := by decide +kernel
theorem dX5_playerOf_28 : decode cX5_playerOf 28 = .ok (.iinc 2 1, 3) := by decide +kernel
theorem dX5_playerOf_31 : decode cX5_playerOf 31 = .ok (.goto (-29), 3) := by decide +kernel
theorem dX5_playerOf_34 : decode cX5_playerOf 34 = .ok (.iconst (-1), 1) := by decide +kernel
theorem dX5_playerOf_35 : decode cX5_playerOf 35 = .ok (.ireturn, 1) := by decide +kernel
set_option maxRecDepth 20000 in
theorem ggX5_winner_X2_at : GoodIn wsX5_winner wsX2_at := goodIn_r _ [7, 8, 24] (by decide +kernel) (by decide +kernel)
set_option maxRecDepth 20000 in
theorem gX5_winner_X2_at : GoodIn wsX5_winner (wsV RX5 31 RX2 yX2_at wsX2_at) := goodIn_app (goodIn_of _ (by decide +kernel)) ggX5_winner_X2_at
set_option maxRecDepth 20000 in
theorem ggX5_winner_X5_beats : GoodIn wsX5_winner wsX5_beats := goodIn_r _ [12, 13, 14, 15] (by decide +kernel) (by decide +kernel)
set_option maxRecDepth 20000 in
theorem gX5_winner_X5_beats : GoodIn wsX5_winner (va_wsS RX5 45 yX5_beats wsX5_beats) := goodIn_app (goodIn_of _ (by decide +kernel)) ggX5_winner_X5_beats
set_option maxRecDepth 20000 in
theorem ggX5_winner_X5_playerAt : GoodIn wsX5_winner wsX5_playerAt := goodIn_r _ [19, 20, 21, 22, 23] (by decide +kernel) (by decide +kernel)
set_option maxRecDepth 20000 in
theorem gX5_winner_X5_playerAt : GoodIn wsX5_winner (wsV RX5 42 RX5 yX5_playerAt wsX5_playerAt) := goodIn_app (goodIn_of _ (by decide +kernel)) ggX5_winner_X5_playerAt
theorem dX5_winner_0 : decode cX5_winner 0 = .ok (.iconst 0, 1) := by decide +kernel
theorem dX5_winner_1 : decode cX5_winner 1 = .ok (.istore_n 1, 1) := by decide +kernel
theorem dX5_winner_2 : decode cX5_winner 2 = .ok (.iconst 1, 1) := by decide +kernel
theorem dX5_winner_3 : decode cX5_winner 3 = .ok (.istore_n 2, 1) := by decide +kernel
theorem dX5_winner_4 : decode cX5_winner 4 = .ok (.iload_n 2, 1) := by decide +kernel
theorem dX5_winner_5 : decode cX5_winner 5 = .ok (.aload_n 0, 1) := by decide +kernel
theorem dX5_winner_6 : decode cX5_winner 6 = .ok (.getfield 24, 3) := by decide +kernel
theorem dX5_winner_9 : decode cX5_winner 9 = .ok (.if_icmp .ge 33, 3) := by decide +kernel
theorem dX5_winner_12 : decode cX5_winner 12 = .ok (.aload_n 0, 1) := by decide +kernel
theorem dX5_winner_13 : decode cX5_winner 13 = .ok (.getfield 14, 3) := by decide +kernel
theorem dX5_winner_16 : decode cX5_winner 16 = .ok (.iload_n 2, 1) := by decide +kernel
theorem dX5_winner_17 : decode cX5_winner 17 = .ok (.invokevirtual 31, 3) := by decide +kernel
theorem dX5_winner_20 : decode cX5_winner 20 = .ok (.aload_n 0, 1) := by decide +kernel
theorem dX5_winner_21 : decode cX5_winner 21 = .ok (.getfield 14, 3) := by decide +kernel
theorem dX5_winner_24 : decode cX5_winner 24 = .ok (.iload_n 1, 1) := by decide +kernel
theorem dX5_winner_25 : decode cX5_winner 25 = .ok (.invokevirtual 31, 3) := by decide +kernel
theorem dX5_winner_28 : decode cX5_winner 28 = .ok (.invokestatic 45, 3) := by decide +kernel
theorem dX5_winner_31 : decode cX5_winner 31 = .ok (.ifCond .eq 5, 3) := by decide +kernel
theorem dX5_winner_34 : decode cX5_winner 34 = .ok (.iload_n 2, 1) := by decide +kernel
theorem dX5_winner_35 : decode cX5_winner 35 = .ok (.istore_n 1, 1) := by decide +kernel
theorem dX5_winner_36 : decode cX5_winner 36 = .ok (.iinc 2 1, 3) := by decide +kernel
theorem dX5_winner_39 : decode cX5_winner 39 = .ok (.goto (-35), 3) := by decide +kernel
theorem dX5_winner_42 : decode cX5_winner 42 = .ok (.aload_n 0, 1) := by decide +kernel
theorem dX5_winner_43 : decode cX5_winner 43 = .ok (.iload_n 1, 1) := by decide +kernel
theorem dX5_winner_44 : decode cX5_winner 44 = .ok (.invokevirtual 42, 3) := by decide +kernel
theorem dX5_winner_47 : decode cX5_winner 47 = .ok (.ireturn, 1) := by decide +kernel
theorem dX5_playerAt_0 : decode cX5_playerAt 0 = .ok (.aload_n 0, 1) := by decide +kernel
theorem dX5_playerAt_1 : decode cX5_playerAt 1 = .ok (.getfield 20, 3) := by decide +kernel
theorem dX5_playerAt_4 : decode cX5_playerAt 4 = .ok (.iload_n 1, 1) := by decide +kernel
theorem dX5_playerAt_5 : decode cX5_playerAt 5 = .ok (.iadd, 1) := by decide +kernel
theorem dX5_playerAt_6 : decode cX5_playerAt 6 = .ok (.iconst 4, 1) := by decide +kernel
theorem dX5_playerAt_7 : decode cX5_playerAt 7 = .ok (.irem, 1) := by decide +kernel
theorem dX5_playerAt_8 : decode cX5_playerAt 8 = .ok (.ireturn, 1) := by decide +kernel
set_option maxRecDepth 20000 in
theorem ggX5_beats_X6_suitOf : GoodIn wsX5_beats wsX6_suitOf := goodIn_r _ [3] (by decide +kernel) (by decide +kernel)
set_option maxRecDepth 20000 in
theorem gX5_beats_X6_suitOf_n35 : GoodIn wsX5_beats (wsX6_suitOf) := ggX5_beats_X6_suitOf
theorem dX5_beats_0 : decode cX5_beats 0 = .ok (.iload_n 0, 1) := by decide +kernel
theorem dX5_beats_1 : decode cX5_beats 1 = .ok (.invokestatic 35, 3) := by decide +kernel
theorem dX5_beats_4 : decode cX5_beats 4 = .ok (.iload_n 1, 1) := by decide +kernel
theorem dX5_beats_5 : decode cX5_beats 5 = .ok (.invokestatic 35, 3) := by decide +kernel
theorem dX5_beats_8 : decode cX5_beats 8 = .ok (.if_icmp .ne 7, 3) := by decide +kernel
theorem dX5_beats_11 : decode cX5_beats 11 = .ok (.iconst 1, 1) := by decide +kernel
theorem dX5_beats_12 : decode cX5_beats 12 = .ok (.goto 4, 3) := by decide +kernel
theorem dX5_beats_15 : decode cX5_beats 15 = .ok (.iconst 0, 1) := by decide +kernel
theorem dX5_beats_16 : decode cX5_beats 16 = .ok (.istore_n 2, 1) := by decide +kernel
theorem dX5_beats_17 : decode cX5_beats 17 = .ok (.iload_n 2, 1) := by decide +kernel
theorem dX5_beats_18 : decode cX5_beats 18 = .ok (.ifCond .eq 16, 3) := by decide +kernel
theorem dX5_beats_21 : decode cX5_beats 21 = .ok (.iload_n 0, 1) := by decide +kernel
theorem dX5_beats_22 : decode cX5_beats 22 = .ok (.iload_n 1, 1) := by decide +kernel
theorem dX5_beats_23 : decode cX5_beats 23 = .ok (.if_icmp .le 7, 3) := by decide +kernel
theorem dX5_beats_26 : decode cX5_beats 26 = .ok (.iconst 1, 1) := by decide +kernel
theorem dX5_beats_27 : decode cX5_beats 27 = .ok (.goto 20, 3) := by decide +kernel
theorem dX5_beats_30 : decode cX5_beats 30 = .ok (.iconst 0, 1) := by decide +kernel
theorem dX5_beats_31 : decode cX5_beats 31 = .ok (.goto 16, 3) := by decide +kernel
theorem dX5_beats_34 : decode cX5_beats 34 = .ok (.iload_n 0, 1) := by decide +kernel
theorem dX5_beats_35 : decode cX5_beats 35 = .ok (.invokestatic 35, 3) := by decide +kernel
theorem dX5_beats_38 : decode cX5_beats 38 = .ok (.iconst 4, 1) := by decide +kernel
theorem dX5_beats_39 : decode cX5_beats 39 = .ok (.if_icmp .ne 7, 3) := by decide +kernel
theorem dX5_beats_42 : decode cX5_beats 42 = .ok (.iconst 1, 1) := by decide +kernel
theorem dX5_beats_43 : decode cX5_beats 43 = .ok (.goto 4, 3) := by decide +kernel
theorem dX5_beats_46 : decode cX5_beats 46 = .ok (.iconst 0, 1) := by decide +kernel
theorem dX5_beats_47 : decode cX5_beats 47 = .ok (.ireturn, 1) := by decide +kernel
set_option maxRecDepth 20000 in
theorem ggX6_init_X1_init : GoodIn wsX6_init wsX1_init := goodIn_r _ [34, 35, 2, 3, 36, 37, 38, 39, 40, 41, 42, 43, 44, 45, 46, 47, 48, 49, 106, 77] (by decide +kernel) (by decide +kernel)
set_option maxRecDepth 20000 in
theorem gX6_init_X1_init : GoodIn wsX6_init (wsX1_init) := ggX6_init_X1_init
set_option maxRecDepth 20000 in
theorem ggX6_init_X0_init : GoodIn wsX6_init wsX0_init := goodIn_r _ [52, 53, 2, 3, 54, 96, 97, 98] (by decide +kernel) (by decide +kernel)
set_option maxRecDepth 20000 in
theorem gX6_init_X0_init : GoodIn wsX6_init (wsX0_init) := ggX6_init_X0_init
set_option maxRecDepth 20000 in
theorem ggX6_init_X5_init : GoodIn wsX6_init wsX5_init := goodIn_r _ [57, 58, 2, 3, 59, 37, 38, 60, 61, 41, 42, 43, 44, 45, 46, 47, 48, 49, 106, 99, 100, 101] (by decide +kernel) (by decide +kernel)
set_option maxRecDepth 20000 in
theorem gX6_init_X5_init : GoodIn wsX6_init (wsX5_init) := ggX6_init_X5_init
set_option maxRecDepth 20000 in
theorem ggX6_init_X4_init : GoodIn wsX6_init wsX4_init := goodIn_r _ [64, 65, 2, 3, 66, 37, 38, 67, 68, 69, 41, 42, 43, 44, 45, 46, 47, 48, 49, 106, 102, 103, 104] (by decide +kernel) (by decide +kernel)
set_option maxRecDepth 20000 in
theorem gX6_init_X4_init : GoodIn wsX6_init (wsX4_init) := ggX6_init_X4_init
set_option maxRecDepth 20000 in
theorem ggX6_init_X3_init : GoodIn wsX6_init wsX3_init := goodIn_r _ [72, 73, 2, 3, 74, 45, 46, 47, 75, 76, 105] (by decide +kernel) (by decide +kernel)
set_option maxRecDepth 20000 in
theorem gX6_init_X3_init : GoodIn wsX6_init (wsX3_init) := ggX6_init_X3_init
theorem dX6_init_0 : decode cX6_init 0 = .ok (.aload_n 0, 1) := by decide +kernel
theorem dX6_init_1 : decode cX6_init 1 = .ok (.invokespecial 3, 3) := by decide +kernel
theorem dX6_init_4 : decode cX6_init 4 = .ok (.aload_n 0, 1) := by decide +kernel
theorem dX6_init_5 : decode cX6_init 5 = .ok (.new 9, 3) := by decide +kernel
theorem dX6_init_8 : decode cX6_init 8 = .ok (.dup, 1) := by decide +kernel
theorem dX6_init_9 : decode cX6_init 9 = .ok (.invokespecial 11, 3) := by decide +kernel
theorem dX6_init_12 : decode cX6_init 12 = .ok (.putfield 12, 3) := by decide +kernel
theorem dX6_init_15 : decode cX6_init 15 = .ok (.aload_n 0, 1) := by decide +kernel
theorem dX6_init_16 : decode cX6_init 16 = .ok (.new 16, 3) := by decide +kernel
theorem dX6_init_19 : decode cX6_init 19 = .ok (.dup, 1) := by decide +kernel
theorem dX6_init_20 : decode cX6_init 20 = .ok (.invokespecial 18, 3) := by decide +kernel
theorem dX6_init_23 : decode cX6_init 23 = .ok (.putfield 19, 3) := by decide +kernel
theorem dX6_init_26 : decode cX6_init 26 = .ok (.aload_n 0, 1) := by decide +kernel
theorem dX6_init_27 : decode cX6_init 27 = .ok (.new 23, 3) := by decide +kernel
theorem dX6_init_30 : decode cX6_init 30 = .ok (.dup, 1) := by decide +kernel
theorem dX6_init_31 : decode cX6_init 31 = .ok (.invokespecial 25, 3) := by decide +kernel
theorem dX6_init_34 : decode cX6_init 34 = .ok (.putfield 26, 3) := by decide +kernel
theorem dX6_init_37 : decode cX6_init 37 = .ok (.aload_n 0, 1) := by decide +kernel
theorem dX6_init_38 : decode cX6_init 38 = .ok (.new 30, 3) := by decide +kernel
theorem dX6_init_41 : decode cX6_init 41 = .ok (.dup, 1) := by decide +kernel
theorem dX6_init_42 : decode cX6_init 42 = .ok (.invokespecial 32, 3) := by decide +kernel
theorem dX6_init_45 : decode cX6_init 45 = .ok (.putfield 33, 3) := by decide +kernel
theorem dX6_init_48 : decode cX6_init 48 = .ok (.aload_n 0, 1) := by decide +kernel
theorem dX6_init_49 : decode cX6_init 49 = .ok (.new 37, 3) := by decide +kernel
theorem dX6_init_52 : decode cX6_init 52 = .ok (.dup, 1) := by decide +kernel
theorem dX6_init_53 : decode cX6_init 53 = .ok (.iconst 4, 1) := by decide +kernel
theorem dX6_init_54 : decode cX6_init 54 = .ok (.invokespecial 39, 3) := by decide +kernel
theorem dX6_init_57 : decode cX6_init 57 = .ok (.putfield 42, 3) := by decide +kernel
theorem dX6_init_60 : decode cX6_init 60 = .ok (.aload_n 0, 1) := by decide +kernel
theorem dX6_init_61 : decode cX6_init 61 = .ok (.new 37, 3) := by decide +kernel
theorem dX6_init_64 : decode cX6_init 64 = .ok (.dup, 1) := by decide +kernel
theorem dX6_init_65 : decode cX6_init 65 = .ok (.iconst 2, 1) := by decide +kernel
theorem dX6_init_66 : decode cX6_init 66 = .ok (.invokespecial 39, 3) := by decide +kernel
theorem dX6_init_69 : decode cX6_init 69 = .ok (.putfield 46, 3) := by decide +kernel
theorem dX6_init_72 : decode cX6_init 72 = .ok (.aload_n 0, 1) := by decide +kernel
theorem dX6_init_73 : decode cX6_init 73 = .ok (.iconst (-1), 1) := by decide +kernel
theorem dX6_init_74 : decode cX6_init 74 = .ok (.putfield 49, 3) := by decide +kernel
theorem dX6_init_77 : decode cX6_init 77 = .ok (.aload_n 0, 1) := by decide +kernel
theorem dX6_init_78 : decode cX6_init 78 = .ok (.iconst 0, 1) := by decide +kernel
theorem dX6_init_79 : decode cX6_init 79 = .ok (.putfield 53, 3) := by decide +kernel
theorem dX6_init_82 : decode cX6_init 82 = .ok (.aload_n 0, 1) := by decide +kernel
theorem dX6_init_83 : decode cX6_init 83 = .ok (.iconst (-1), 1) := by decide +kernel
theorem dX6_init_84 : decode cX6_init 84 = .ok (.putfield 56, 3) := by decide +kernel
theorem dX6_init_87 : decode cX6_init 87 = .ok (.aload_n 0, 1) := by decide +kernel
theorem dX6_init_88 : decode cX6_init 88 = .ok (.iconst (-1), 1) := by decide +kernel
theorem dX6_init_89 : decode cX6_init 89 = .ok (.putfield 59, 3) := by decide +kernel
theorem dX6_init_92 : decode cX6_init 92 = .ok (.aload_n 0, 1) := by decide +kernel
theorem dX6_init_93 : decode cX6_init 93 = .ok (.iconst (-1), 1) := by decide +kernel
theorem dX6_init_94 : decode cX6_init 94 = .ok (.putfield 62, 3) := by decide +kernel
theorem dX6_init_97 : decode cX6_init 97 = .ok (.aload_n 0, 1) := by decide +kernel
theorem dX6_init_98 : decode cX6_init 98 = .ok (.iconst (-1), 1) := by decide +kernel
theorem dX6_init_99 : decode cX6_init 99 = .ok (.putfield 65, 3) := by decide +kernel
theorem dX6_init_102 : decode cX6_init 102 = .ok (.aload_n 0, 1) := by decide +kernel
theorem dX6_init_103 : decode cX6_init 103 = .ok (.iconst (-1), 1) := by decide +kernel
theorem dX6_init_104 : decode cX6_init 104 = .ok (.putfield 68, 3) := by decide +kernel
theorem dX6_init_107 : decode cX6_init 107 = .ok (.return_, 1) := by decide +kernel
set_option maxRecDepth 20000 in
theorem ggX6_deal_X6_behind : GoodIn wsX6_deal wsX6_behind := goodIn_r _ [13] (by decide +kernel) (by decide +kernel)
set_option maxRecDepth 20000 in
theorem gX6_deal_X6_behind : GoodIn wsX6_deal (va_wsS RX6 84 yX6_behind wsX6_behind) := goodIn_app (goodIn_of _ (by decide +kernel)) ggX6_deal_X6_behind
set_option maxRecDepth 20000 in
theorem ggX6_deal_X6_clearDeal : GoodIn wsX6_deal wsX6_clearDeal := goodIn_r _ [17, 18, 19, 7, 20, 21, 22, 23, 24, 25, 26, 27, 28, 29, 30, 31, 32, 33, 34, 35, 36, 37, 38, 39, 40, 41, 42, 43, 44, 45, 46, 47, 48, 49, 83, 84, 85, 86, 87, 88, 89, 90, 91, 92, 93, 94, 95, 96, 97, 98, 99, 100, 101, 102, 103, 104, 105, 106, 107] (by decide +kernel) (by decide +kernel)
set_option maxRecDepth 20000 in
theorem gX6_deal_X6_clearDeal : GoodIn wsX6_deal (wsV RX6 88 RX6 yX6_clearDeal wsX6_clearDeal) := goodIn_app (goodIn_of _ (by decide +kernel)) ggX6_deal_X6_clearDeal
set_option maxRecDepth 20000 in
theorem ggX6_deal_X1_shuffle : GoodIn wsX6_deal wsX1_shuffle := goodIn_r _ [54, 55, 56, 57, 58, 59, 60, 61, 62, 63, 64, 65, 53, 66, 67, 68, 69, 70, 108, 109] (by decide +kernel) (by decide +kernel)
set_option maxRecDepth 20000 in
theorem gX6_deal_X1_shuffle : GoodIn wsX6_deal (wsV RX6 91 RX1 yX1_shuffle wsX1_shuffle) := goodIn_app (goodIn_of _ (by decide +kernel)) ggX6_deal_X1_shuffle
set_option maxRecDepth 20000 in
theorem ggX6_deal_X6_handOut : GoodIn wsX6_deal wsX6_handOut := goodIn_r _ [74, 7, 75, 8, 76, 77, 78, 79, 53, 80, 55, 67, 68, 69, 60, 70, 62, 81, 12, 82, 44, 45, 46, 47, 48, 49, 10, 11, 13, 83, 84, 85, 86, 87, 88, 89, 90, 91, 92, 93, 94, 95, 96, 97, 98, 99, 100, 108, 109, 107] (by decide +kernel) (by decide +kernel)
set_option maxRecDepth 20000 in
theorem gX6_deal_X6_handOut : GoodIn wsX6_deal (wsV RX6 94 RX6 yX6_handOut wsX6_handOut) := goodIn_app (goodIn_of _ (by decide +kernel)) ggX6_deal_X6_handOut
theorem dX6_deal_0 : decode cX6_deal 0 = .ok (.iload_n 1, 1) := by decide +kernel
theorem dX6_deal_1 : decode cX6_deal 1 = .ok (.ifCond .lt 9, 3) := by decide +kernel
theorem dX6_deal_4 : decode cX6_deal 4 = .ok (.iload_n 1, 1) := by decide +kernel
theorem dX6_deal_5 : decode cX6_deal 5 = .ok (.ldc 71, 2) := by decide +kernel
theorem dX6_deal_7 : decode cX6_deal 7 = .ok (.if_icmp .lt 13, 3) := by decide +kernel
theorem dX6_deal_10 : decode cX6_deal 10 = .ok (.new 72, 3) := by decide +kernel
theorem dX6_deal_13 : decode cX6_deal 13 = .ok (.dup, 1) := by decide +kernel
theorem dX6_deal_14 : decode cX6_deal 14 = .ok (.ldc 74, 2) := by decide +kernel
theorem dX6_deal_16 : decode cX6_deal 16 = .ok (.invokespecial 76, 3) := by decide +kernel
theorem dX6_deal_19 : decode cX6_deal 19 = .ok (.athrow, 1) := by decide +kernel
theorem dX6_deal_20 : decode cX6_deal 20 = .ok (.aload_n 0, 1) := by decide +kernel
theorem dX6_deal_21 : decode cX6_deal 21 = .ok (.getfield 53, 3) := by decide +kernel
theorem dX6_deal_24 : decode cX6_deal 24 = .ok (.ifCond .eq 13, 3) := by decide +kernel
theorem dX6_deal_27 : decode cX6_deal 27 = .ok (.new 79, 3) := by decide +kernel
theorem dX6_deal_30 : decode cX6_deal 30 = .ok (.dup, 1) := by decide +kernel
theorem dX6_deal_31 : decode cX6_deal 31 = .ok (.ldc 81, 2) := by decide +kernel
theorem dX6_deal_33 : decode cX6_deal 33 = .ok (.invokespecial 83, 3) := by decide +kernel
theorem dX6_deal_36 : decode cX6_deal 36 = .ok (.athrow, 1) := by decide +kernel
theorem dX6_deal_37 : decode cX6_deal 37 = .ok (.aload_n 0, 1) := by decide +kernel
theorem dX6_deal_38 : decode cX6_deal 38 = .ok (.aload_n 0, 1) := by decide +kernel
theorem dX6_deal_39 : decode cX6_deal 39 = .ok (.getfield 49, 3) := by decide +kernel
theorem dX6_deal_42 : decode cX6_deal 42 = .ok (.invokestatic 84, 3) := by decide +kernel
theorem dX6_deal_45 : decode cX6_deal 45 = .ok (.putfield 49, 3) := by decide +kernel
theorem dX6_deal_48 : decode cX6_deal 48 = .ok (.aload_n 0, 1) := by decide +kernel
theorem dX6_deal_49 : decode cX6_deal 49 = .ok (.invokevirtual 88, 3) := by decide +kernel
theorem dX6_deal_52 : decode cX6_deal 52 = .ok (.aload_n 0, 1) := by decide +kernel
theorem dX6_deal_53 : decode cX6_deal 53 = .ok (.getfield 12, 3) := by decide +kernel
theorem dX6_deal_56 : decode cX6_deal 56 = .ok (.iload_n 1, 1) := by decide +kernel
theorem dX6_deal_57 : decode cX6_deal 57 = .ok (.invokevirtual 91, 3) := by decide +kernel
theorem dX6_deal_60 : decode cX6_deal 60 = .ok (.aload_n 0, 1) := by decide +kernel
theorem dX6_deal_61 : decode cX6_deal 61 = .ok (.invokevirtual 94, 3) := by decide +kernel
theorem dX6_deal_64 : decode cX6_deal 64 = .ok (.aload_n 0, 1) := by decide +kernel
theorem dX6_deal_65 : decode cX6_deal 65 = .ok (.iconst 1, 1) := by decide +kernel
theorem dX6_deal_66 : decode cX6_deal 66 = .ok (.putfield 53, 3) := by decide +kernel
theorem dX6_deal_69 : decode cX6_deal 69 = .ok (.aload_n 0, 1) := by decide +kernel
theorem dX6_deal_70 : decode cX6_deal 70 = .ok (.aload_n 0, 1) := by decide +kernel
theorem dX6_deal_71 : decode cX6_deal 71 = .ok (.getfield 49, 3) := by decide +kernel
theorem dX6_deal_74 : decode cX6_deal 74 = .ok (.putfield 56, 3) := by decide +kernel
theorem dX6_deal_77 : decode cX6_deal 77 = .ok (.aload_n 0, 1) := by decide +kernel
theorem dX6_deal_78 : decode cX6_deal 78 = .ok (.getfield 49, 3) := by decide +kernel
theorem dX6_deal_81 : decode cX6_deal 81 = .ok (.ireturn, 1) := by decide +kernel
set_option maxRecDepth 20000 in
theorem ggX6_bid_X0_enter : GoodIn wsX6_bid wsX0_enter := goodIn_r _ [12, 13, 14, 15, 83, 84, 85] (by decide +kernel) (by decide +kernel)
set_option maxRecDepth 20000 in
theorem gX6_bid_X0_enter : GoodIn wsX6_bid (wsV RX6 106 RX0 yX0_enter wsX0_enter) := goodIn_app (goodIn_of _ (by decide +kernel)) ggX6_bid_X0_enter
set_option maxRecDepth 20000 in
theorem ggX6_bid_X0_allPassed : GoodIn wsX6_bid wsX0_allPassed := goodIn_r _ [19, 13, 20, 21, 22, 23, 24, 25, 26, 83, 84, 85] (by decide +kernel) (by decide +kernel)
set_option maxRecDepth 20000 in
theorem gX6_bid_X0_allPassed : GoodIn wsX6_bid (wsV RX6 110 RX0 yX0_allPassed wsX0_allPassed) := goodIn_app (goodIn_of _ (by decide +kernel)) ggX6_bid_X0_allPassed
set_option maxRecDepth 20000 in
theorem ggX6_bid_X6_endDeal : GoodIn wsX6_bid wsX6_endDeal := goodIn_r _ [31, 5, 7, 65, 66, 67, 68, 69, 70, 71, 72, 73, 74, 75, 76, 77, 78, 79, 80, 81, 82] (by decide +kernel) (by decide +kernel)
set_option maxRecDepth 20000 in
theorem gX6_bid_X6_endDeal : GoodIn wsX6_bid (wsV RX6 114 RX6 yX6_endDeal wsX6_endDeal) := goodIn_app (goodIn_of _ (by decide +kernel)) ggX6_bid_X6_endDeal
set_option maxRecDepth 20000 in
theorem ggX6_bid_X0_isSettled : GoodIn wsX6_bid wsX0_isSettled := goodIn_r _ [35, 15, 13, 20, 21, 22, 23, 24, 25, 26, 83, 84, 85] (by decide +kernel) (by decide +kernel)
set_option maxRecDepth 20000 in
theorem gX6_bid_X0_isSettled : GoodIn wsX6_bid (wsV RX6 117 RX0 yX0_isSettled wsX0_isSettled) := goodIn_app (goodIn_of _ (by decide +kernel)) ggX6_bid_X0_isSettled
set_option maxRecDepth 20000 in
theorem ggX6_bid_X6_beginGame : GoodIn wsX6_bid wsX6_beginGame := goodIn_r _ [39, 6, 40, 7, 5, 41, 42, 43, 30, 44, 45, 46, 47, 48, 49, 50, 51, 52, 53, 54, 65, 66, 67, 68, 69, 70, 71, 72, 73, 74, 75, 76, 77, 78, 79, 80, 81, 82, 83, 84, 85, 86] (by decide +kernel) (by decide +kernel)
set_option maxRecDepth 20000 in
theorem gX6_bid_X6_beginGame : GoodIn wsX6_bid (wsV RX6 120 RX6 yX6_beginGame wsX6_beginGame) := goodIn_app (goodIn_of _ (by decide +kernel)) ggX6_bid_X6_beginGame
set_option maxRecDepth 20000 in
theorem ggX6_bid_X0_nextBehind : GoodIn wsX6_bid wsX0_nextBehind := goodIn_r _ [58, 59, 30, 60, 61, 62, 63, 11, 64, 13, 83, 84, 85] (by decide +kernel) (by decide +kernel)
set_option maxRecDepth 20000 in
theorem gX6_bid_X0_nextBehind : GoodIn wsX6_bid (wsV RX6 123 RX0 yX0_nextBehind wsX0_nextBehind) := goodIn_app (goodIn_of _ (by decide +kernel)) ggX6_bid_X0_nextBehind
theorem dX6_bid_0 : decode cX6_bid 0 = .ok (.iload_n 1, 1) := by decide +kernel
theorem dX6_bid_1 : decode cX6_bid 1 = .ok (.ifCond .lt 8, 3) := by decide +kernel
theorem dX6_bid_4 : decode cX6_bid 4 = .ok (.iload_n 1, 1) := by decide +kernel
theorem dX6_bid_5 : decode cX6_bid 5 = .ok (.iconst 5, 1) := by decide +kernel
theorem dX6_bid_6 : decode cX6_bid 6 = .ok (.if_icmp .le 13, 3) := by decide +kernel
theorem dX6_bid_9 : decode cX6_bid 9 = .ok (.new 72, 3) := by decide +kernel
theorem dX6_bid_12 : decode cX6_bid 12 = .ok (.dup, 1) := by decide +kernel
theorem dX6_bid_13 : decode cX6_bid 13 = .ok (.ldc 97, 2) := by decide +kernel
theorem dX6_bid_15 : decode cX6_bid 15 = .ok (.invokespecial 76, 3) := by decide +kernel
theorem dX6_bid_18 : decode cX6_bid 18 = .ok (.athrow, 1) := by decide +kernel
theorem dX6_bid_19 : decode cX6_bid 19 = .ok (.aload_n 0, 1) := by decide +kernel
theorem dX6_bid_20 : decode cX6_bid 20 = .ok (.getfield 53, 3) := by decide +kernel
theorem dX6_bid_23 : decode cX6_bid 23 = .ok (.iconst 1, 1) := by decide +kernel
theorem dX6_bid_24 : decode cX6_bid 24 = .ok (.if_icmp .eq 13, 3) := by decide +kernel
theorem dX6_bid_27 : decode cX6_bid 27 = .ok (.new 79, 3) := by decide +kernel
theorem dX6_bid_30 : decode cX6_bid 30 = .ok (.dup, 1) := by decide +kernel
theorem dX6_bid_31 : decode cX6_bid 31 = .ok (.ldc 99, 2) := by decide +kernel
theorem dX6_bid_33 : decode cX6_bid 33 = .ok (.invokespecial 83, 3) := by decide +kernel
theorem dX6_bid_36 : decode cX6_bid 36 = .ok (.athrow, 1) := by decide +kernel
theorem dX6_bid_37 : decode cX6_bid 37 = .ok (.iload_n 1, 1) := by decide +kernel
theorem dX6_bid_38 : decode cX6_bid 38 = .ok (.ifCond .le 24, 3) := by decide +kernel
theorem dX6_bid_41 : decode cX6_bid 41 = .ok (.iload_n 1, 1) := by decide +kernel
theorem dX6_bid_42 : decode cX6_bid 42 = .ok (.aload_n 0, 1) := by decide +kernel
theorem dX6_bid_43 : decode cX6_bid 43 = .ok (.getfield 19, 3) := by decide +kernel
theorem dX6_bid_46 : decode cX6_bid 46 = .ok (.getfield 101, 3) := by decide +kernel
theorem dX6_bid_49 : decode cX6_bid 49 = .ok (.if_icmp .gt 13, 3) := by decide +kernel
theorem dX6_bid_52 : decode cX6_bid 52 = .ok (.new 79, 3) := by decide +kernel
theorem dX6_bid_55 : decode cX6_bid 55 = .ok (.dup, 1) := by decide +kernel
theorem dX6_bid_56 : decode cX6_bid 56 = .ok (.ldc 104, 2) := by decide +kernel
theorem dX6_bid_58 : decode cX6_bid 58 = .ok (.invokespecial 83, 3) := by decide +kernel
theorem dX6_bid_61 : decode cX6_bid 61 = .ok (.athrow, 1) := by decide +kernel
theorem dX6_bid_62 : decode cX6_bid 62 = .ok (.aload_n 0, 1) := by decide +kernel
theorem dX6_bid_63 : decode cX6_bid 63 = .ok (.getfield 19, 3) := by decide +kernel
theorem dX6_bid_66 : decode cX6_bid 66 = .ok (.aload_n 0, 1) := by decide +kernel
theorem dX6_bid_67 : decode cX6_bid 67 = .ok (.getfield 56, 3) := by decide +kernel
theorem dX6_bid_70 : decode cX6_bid 70 = .ok (.iload_n 1, 1) := by decide +kernel
theorem dX6_bid_71 : decode cX6_bid 71 = .ok (.invokevirtual 106, 3) := by decide +kernel
theorem dX6_bid_74 : decode cX6_bid 74 = .ok (.aload_n 0, 1) := by decide +kernel
theorem dX6_bid_75 : decode cX6_bid 75 = .ok (.getfield 19, 3) := by decide +kernel
theorem dX6_bid_78 : decode cX6_bid 78 = .ok (.invokevirtual 110, 3) := by decide +kernel
theorem dX6_bid_81 : decode cX6_bid 81 = .ok (.ifCond .eq 10, 3) := by decide +kernel
theorem dX6_bid_84 : decode cX6_bid 84 = .ok (.aload_n 0, 1) := by decide +kernel
theorem dX6_bid_85 : decode cX6_bid 85 = .ok (.invokevirtual 114, 3) := by decide +kernel
theorem dX6_bid_88 : decode cX6_bid 88 = .ok (.goto 35, 3) := by decide +kernel
theorem dX6_bid_91 : decode cX6_bid 91 = .ok (.aload_n 0, 1) := by decide +kernel
theorem dX6_bid_92 : decode cX6_bid 92 = .ok (.getfield 19, 3) := by decide +kernel
theorem dX6_bid_95 : decode cX6_bid 95 = .ok (.invokevirtual 117, 3) := by decide +kernel
theorem dX6_bid_98 : decode cX6_bid 98 = .ok (.ifCond .eq 10, 3) := by decide +kernel
theorem dX6_bid_101 : decode cX6_bid 101 = .ok (.aload_n 0, 1) := by decide +kernel
theorem dX6_bid_102 : decode cX6_bid 102 = .ok (.invokevirtual 120, 3) := by decide +kernel
theorem dX6_bid_105 : decode cX6_bid 105 = .ok (.goto 18, 3) := by decide +kernel
theorem dX6_bid_108 : decode cX6_bid 108 = .ok (.aload_n 0, 1) := by decide +kernel
theorem dX6_bid_109 : decode cX6_bid 109 = .ok (.aload_n 0, 1) := by decide +kernel
theorem dX6_bid_110 : decode cX6_bid 110 = .ok (.getfield 19, 3) := by decide +kernel
theorem dX6_bid_113 : decode cX6_bid 113 = .ok (.aload_n 0, 1) := by decide +kernel
theorem dX6_bid_114 : decode cX6_bid 114 = .ok (.getfield 56, 3) := by decide +kernel
theorem dX6_bid_117 : decode cX6_bid 117 = .ok (.invokevirtual 123, 3) := by decide +kernel
theorem dX6_bid_120 : decode cX6_bid 120 = .ok (.putfield 56, 3) := by decide +kernel
theorem dX6_bid_123 : decode cX6_bid 123 = .ok (.aload_n 0, 1) := by decide +kernel
theorem dX6_bid_124 : decode cX6_bid 124 = .ok (.getfield 53, 3) := by decide +kernel
theorem dX6_bid_127 : decode cX6_bid 127 = .ok (.ireturn, 1) := by decide +kernel
set_option maxRecDepth 20000 in
theorem ggX6_call_X6_calledKing : GoodIn wsX6_call wsX6_calledKing := goodIn_r _ [14, 6, 29, 30, 31, 32, 33, 34, 35, 36, 37, 38, 39, 40, 41, 42, 43, 44, 45, 46] (by decide +kernel) (by decide +kernel)
set_option maxRecDepth 20000 in
theorem gX6_call_X6_calledKing : GoodIn wsX6_call (wsV RX6 133 RX6 yX6_calledKing wsX6_calledKing) := goodIn_app (goodIn_of _ (by decide +kernel)) ggX6_call_X6_calledKing
set_option maxRecDepth 20000 in
theorem ggX6_call_X6_ownerOf : GoodIn wsX6_call wsX6_ownerOf := goodIn_r _ [18, 19, 20, 21, 22, 23, 24, 25, 26, 27, 13, 28, 29, 30, 31, 32, 33, 34, 35, 36, 37, 38, 39, 40, 41, 42, 43, 44, 45, 46, 47] (by decide +kernel) (by decide +kernel)
set_option maxRecDepth 20000 in
theorem gX6_call_X6_ownerOf : GoodIn wsX6_call (wsV RX6 137 RX6 yX6_ownerOf wsX6_ownerOf) := goodIn_app (goodIn_of _ (by decide +kernel)) ggX6_call_X6_ownerOf
theorem dX6_call_0 : decode cX6_call 0 = .ok (.iload_n 1, 1) := by decide +kernel
theorem dX6_call_1 : decode cX6_call 1 = .ok (.ifCond .lt 8, 3) := by decide +kernel
theorem dX6_call_4 : decode cX6_call 4 = .ok (.iload_n 1, 1) := by decide +kernel
theorem dX6_call_5 : decode cX6_call 5 = .ok (.iconst 4, 1) := by decide +kernel
theorem dX6_call_6 : decode cX6_call 6 = .ok (.if_icmp .lt 13, 3) := by decide +kernel
theorem dX6_call_9 : decode cX6_call 9 = .ok (.new 126, 3) := by decide +kernel
theorem dX6_call_12 : decode cX6_call 12 = .ok (.dup, 1) := by decide +kernel
theorem dX6_call_13 : decode cX6_call 13 = .ok (.ldc 128, 2) := by decide +kernel
theorem dX6_call_15 : decode cX6_call 15 = .ok (.invokespecial 130, 3) := by decide +kernel
theorem dX6_call_18 : decode cX6_call 18 = .ok (.athrow, 1) := by decide +kernel
theorem dX6_call_19 : decode cX6_call 19 = .ok (.aload_n 0, 1) := by decide +kernel
theorem dX6_call_20 : decode cX6_call 20 = .ok (.getfield 53, 3) := by decide +kernel
theorem dX6_call_23 : decode cX6_call 23 = .ok (.iconst 2, 1) := by decide +kernel
theorem dX6_call_24 : decode cX6_call 24 = .ok (.if_icmp .eq 13, 3) := by decide +kernel
theorem dX6_call_27 : decode cX6_call 27 = .ok (.new 79, 3) := by decide +kernel
theorem dX6_call_30 : decode cX6_call 30 = .ok (.dup, 1) := by decide +kernel
theorem dX6_call_31 : decode cX6_call 31 = .ok (.ldc 131, 2) := by decide +kernel
theorem dX6_call_33 : decode cX6_call 33 = .ok (.invokespecial 83, 3) := by decide +kernel
theorem dX6_call_36 : decode cX6_call 36 = .ok (.athrow, 1) := by decide +kernel
theorem dX6_call_37 : decode cX6_call 37 = .ok (.aload_n 0, 1) := by decide +kernel
theorem dX6_call_38 : decode cX6_call 38 = .ok (.iload_n 1, 1) := by decide +kernel
theorem dX6_call_39 : decode cX6_call 39 = .ok (.putfield 62, 3) := by decide +kernel
theorem dX6_call_42 : decode cX6_call 42 = .ok (.aload_n 0, 1) := by decide +kernel
theorem dX6_call_43 : decode cX6_call 43 = .ok (.aload_n 0, 1) := by decide +kernel
theorem dX6_call_44 : decode cX6_call 44 = .ok (.aload_n 0, 1) := by decide +kernel
theorem dX6_call_45 : decode cX6_call 45 = .ok (.invokevirtual 133, 3) := by decide +kernel
theorem dX6_call_48 : decode cX6_call 48 = .ok (.invokevirtual 137, 3) := by decide +kernel
theorem dX6_call_51 : decode cX6_call 51 = .ok (.putfield 65, 3) := by decide +kernel
theorem dX6_call_54 : decode cX6_call 54 = .ok (.aload_n 0, 1) := by decide +kernel
theorem dX6_call_55 : decode cX6_call 55 = .ok (.aload_n 0, 1) := by decide +kernel
theorem dX6_call_56 : decode cX6_call 56 = .ok (.getfield 65, 3) := by decide +kernel
theorem dX6_call_59 : decode cX6_call 59 = .ok (.aload_n 0, 1) := by decide +kernel
theorem dX6_call_60 : decode cX6_call 60 = .ok (.getfield 59, 3) := by decide +kernel
theorem dX6_call_63 : decode cX6_call 63 = .ok (.if_icmp .ne 7, 3) := by decide +kernel
theorem dX6_call_66 : decode cX6_call 66 = .ok (.iconst (-1), 1) := by decide +kernel
theorem dX6_call_67 : decode cX6_call 67 = .ok (.goto 7, 3) := by decide +kernel
theorem dX6_call_70 : decode cX6_call 70 = .ok (.aload_n 0, 1) := by decide +kernel
theorem dX6_call_71 : decode cX6_call 71 = .ok (.getfield 65, 3) := by decide +kernel
theorem dX6_call_74 : decode cX6_call 74 = .ok (.putfield 68, 3) := by decide +kernel
theorem dX6_call_77 : decode cX6_call 77 = .ok (.aload_n 0, 1) := by decide +kernel
theorem dX6_call_78 : decode cX6_call 78 = .ok (.iconst 3, 1) := by decide +kernel
theorem dX6_call_79 : decode cX6_call 79 = .ok (.putfield 53, 3) := by decide +kernel
theorem dX6_call_82 : decode cX6_call 82 = .ok (.aload_n 0, 1) := by decide +kernel
theorem dX6_call_83 : decode cX6_call 83 = .ok (.getfield 53, 3) := by decide +kernel
theorem dX6_call_86 : decode cX6_call 86 = .ok (.ireturn, 1) := by decide +kernel
set_option maxRecDepth 20000 in
theorem ggX6_take_X6_groupsNow : GoodIn wsX6_take wsX6_groupsNow := goodIn_r _ [17, 5, 6, 18, 19, 16, 20, 48, 49, 50, 51, 52, 53, 54, 55, 56, 57, 58, 59, 60, 61, 62, 63, 64, 65, 66, 67, 68] (by decide +kernel) (by decide +kernel)
set_option maxRecDepth 20000 in
theorem gX6_take_X6_groupsNow : GoodIn wsX6_take (wsV RX6 140 RX6 yX6_groupsNow wsX6_groupsNow) := goodIn_app (goodIn_of _ (by decide +kernel)) ggX6_take_X6_groupsNow
set_option maxRecDepth 20000 in
theorem ggX6_take_X6_groupSize : GoodIn wsX6_take wsX6_groupSize := goodIn_r _ [23] (by decide +kernel) (by decide +kernel)
set_option maxRecDepth 20000 in
theorem gX6_take_X6_groupSize : GoodIn wsX6_take (va_wsS RX6 147 yX6_groupSize wsX6_groupSize) := goodIn_app (goodIn_of _ (by decide +kernel)) ggX6_take_X6_groupSize
set_option maxRecDepth 20000 in
theorem ggX6_take_X1_cardsFrom : GoodIn wsX6_take wsX1_cardsFrom := goodIn_r _ [28, 29, 30, 31, 32, 33, 34, 35, 36, 16, 37, 69, 70] (by decide +kernel) (by decide +kernel)
set_option maxRecDepth 20000 in
theorem gX6_take_X1_cardsFrom : GoodIn wsX6_take (wsV RX6 150 RX1 yX1_cardsFrom wsX1_cardsFrom) := goodIn_app (goodIn_of _ (by decide +kernel)) ggX6_take_X1_cardsFrom
set_option maxRecDepth 20000 in
theorem ggX6_take_X3_at : GoodIn wsX6_take wsX3_at := goodIn_r _ [42, 43, 71] (by decide +kernel) (by decide +kernel)
set_option maxRecDepth 20000 in
theorem gX6_take_X3_at : GoodIn wsX6_take (wsV RX6 154 RX3 yX3_at wsX3_at) := goodIn_app (goodIn_of _ (by decide +kernel)) ggX6_take_X3_at
set_option maxRecDepth 20000 in
theorem ggX6_take_X3_put : GoodIn wsX6_take wsX3_put := goodIn_r _ [47, 43, 71] (by decide +kernel) (by decide +kernel)
set_option maxRecDepth 20000 in
theorem gX6_take_X3_put : GoodIn wsX6_take (wsV RX6 158 RX3 yX3_put wsX3_put) := goodIn_app (goodIn_of _ (by decide +kernel)) ggX6_take_X3_put
theorem dX6_take_0 : decode cX6_take 0 = .ok (.iload_n 1, 1) := by decide +kernel
theorem dX6_take_1 : decode cX6_take 1 = .ok (.ifCond .lt 11, 3) := by decide +kernel
theorem dX6_take_4 : decode cX6_take 4 = .ok (.iload_n 1, 1) := by decide +kernel
theorem dX6_take_5 : decode cX6_take 5 = .ok (.aload_n 0, 1) := by decide +kernel
theorem dX6_take_6 : decode cX6_take 6 = .ok (.invokevirtual 140, 3) := by decide +kernel
theorem dX6_take_9 : decode cX6_take 9 = .ok (.if_icmp .lt 13, 3) := by decide +kernel
theorem dX6_take_12 : decode cX6_take 12 = .ok (.new 126, 3) := by decide +kernel
theorem dX6_take_15 : decode cX6_take 15 = .ok (.dup, 1) := by decide +kernel
theorem dX6_take_16 : decode cX6_take 16 = .ok (.ldc 143, 2) := by decide +kernel
theorem dX6_take_18 : decode cX6_take 18 = .ok (.invokespecial 130, 3) := by decide +kernel
theorem dX6_take_21 : decode cX6_take 21 = .ok (.athrow, 1) := by decide +kernel
theorem dX6_take_22 : decode cX6_take 22 = .ok (.aload_n 0, 1) := by decide +kernel
theorem dX6_take_23 : decode cX6_take 23 = .ok (.getfield 53, 3) := by decide +kernel
theorem dX6_take_26 : decode cX6_take 26 = .ok (.iconst 3, 1) := by decide +kernel
theorem dX6_take_27 : decode cX6_take 27 = .ok (.if_icmp .eq 13, 3) := by decide +kernel
theorem dX6_take_30 : decode cX6_take 30 = .ok (.new 79, 3) := by decide +kernel
theorem dX6_take_33 : decode cX6_take 33 = .ok (.dup, 1) := by decide +kernel
theorem dX6_take_34 : decode cX6_take 34 = .ok (.ldc 145, 2) := by decide +kernel
theorem dX6_take_36 : decode cX6_take 36 = .ok (.invokespecial 83, 3) := by decide +kernel
theorem dX6_take_39 : decode cX6_take 39 = .ok (.athrow, 1) := by decide +kernel
theorem dX6_take_40 : decode cX6_take 40 = .ok (.aload_n 0, 1) := by decide +kernel
theorem dX6_take_41 : decode cX6_take 41 = .ok (.getfield 19, 3) := by decide +kernel
theorem dX6_take_44 : decode cX6_take 44 = .ok (.getfield 101, 3) := by decide +kernel
theorem dX6_take_47 : decode cX6_take 47 = .ok (.invokestatic 147, 3) := by decide +kernel
theorem dX6_take_50 : decode cX6_take 50 = .ok (.istore_n 2, 1) := by decide +kernel
theorem dX6_take_51 : decode cX6_take 51 = .ok (.aload_n 0, 1) := by decide +kernel
theorem dX6_take_52 : decode cX6_take 52 = .ok (.getfield 12, 3) := by decide +kernel
theorem dX6_take_55 : decode cX6_take 55 = .ok (.bipush 48, 2) := by decide +kernel
theorem dX6_take_57 : decode cX6_take 57 = .ok (.iload_n 1, 1) := by decide +kernel
theorem dX6_take_58 : decode cX6_take 58 = .ok (.iload_n 2, 1) := by decide +kernel
theorem dX6_take_59 : decode cX6_take 59 = .ok (.imul, 1) := by decide +kernel
theorem dX6_take_60 : decode cX6_take 60 = .ok (.iadd, 1) := by decide +kernel
theorem dX6_take_61 : decode cX6_take 61 = .ok (.iload_n 2, 1) := by decide +kernel
theorem dX6_take_62 : decode cX6_take 62 = .ok (.invokevirtual 150, 3) := by decide +kernel
theorem dX6_take_65 : decode cX6_take 65 = .ok (.lstore_n 3, 1) := by decide +kernel
theorem dX6_take_66 : decode cX6_take 66 = .ok (.aload_n 0, 1) := by decide +kernel
theorem dX6_take_67 : decode cX6_take 67 = .ok (.getfield 42, 3) := by decide +kernel
theorem dX6_take_70 : decode cX6_take 70 = .ok (.aload_n 0, 1) := by decide +kernel
theorem dX6_take_71 : decode cX6_take 71 = .ok (.getfield 59, 3) := by decide +kernel
theorem dX6_take_74 : decode cX6_take 74 = .ok (.aload_n 0, 1) := by decide +kernel
theorem dX6_take_75 : decode cX6_take 75 = .ok (.getfield 42, 3) := by decide +kernel
theorem dX6_take_78 : decode cX6_take 78 = .ok (.aload_n 0, 1) := by decide +kernel
theorem dX6_take_79 : decode cX6_take 79 = .ok (.getfield 59, 3) := by decide +kernel
theorem dX6_take_82 : decode cX6_take 82 = .ok (.invokevirtual 154, 3) := by decide +kernel
theorem dX6_take_85 : decode cX6_take 85 = .ok (.lload_n 3, 1) := by decide +kernel
theorem dX6_take_86 : decode cX6_take 86 = .ok (.lor, 1) := by decide +kernel
theorem dX6_take_87 : decode cX6_take 87 = .ok (.invokevirtual 158, 3) := by decide +kernel
theorem dX6_take_90 : decode cX6_take 90 = .ok (.aload_n 0, 1) := by decide +kernel
theorem dX6_take_91 : decode cX6_take 91 = .ok (.dup, 1) := by decide +kernel
theorem dX6_take_92 : decode cX6_take 92 = .ok (.getfield 162, 3) := by decide +kernel
theorem dX6_take_95 : decode cX6_take 95 = .ok (.lload_n 3, 1) := by decide +kernel
theorem dX6_take_96 : decode cX6_take 96 = .ok (.ldc2_w 166, 3) := by decide +kernel
theorem dX6_take_99 : decode cX6_take 99 = .ok (.lxor, 1) := by decide +kernel
theorem dX6_take_100 : decode cX6_take 100 = .ok (.land, 1) := by decide +kernel
theorem dX6_take_101 : decode cX6_take 101 = .ok (.putfield 162, 3) := by decide +kernel
theorem dX6_take_104 : decode cX6_take 104 = .ok (.aload_n 0, 1) := by decide +kernel
theorem dX6_take_105 : decode cX6_take 105 = .ok (.iload_n 2, 1) := by decide +kernel
theorem dX6_take_106 : decode cX6_take 106 = .ok (.putfield 168, 3) := by decide +kernel
theorem dX6_take_109 : decode cX6_take 109 = .ok (.aload_n 0, 1) := by decide +kernel
theorem dX6_take_110 : decode cX6_take 110 = .ok (.iconst 4, 1) := by decide +kernel
theorem dX6_take_111 : decode cX6_take 111 = .ok (.putfield 53, 3) := by decide +kernel
theorem dX6_take_114 : decode cX6_take 114 = .ok (.iload_n 2, 1) := by decide +kernel
theorem dX6_take_115 : decode cX6_take 115 = .ok (.ireturn, 1) := by decide +kernel
set_option maxRecDepth 20000 in
theorem ggX6_discard_X6_isCard : GoodIn wsX6_discard wsX6_isCard := goodIn_r _ [14] (by decide +kernel) (by decide +kernel)
set_option maxRecDepth 20000 in
theorem gX6_discard_X6_isCard : GoodIn wsX6_discard (va_wsS RX6 171 yX6_isCard wsX6_isCard) := goodIn_app (goodIn_of _ (by decide +kernel)) ggX6_discard_X6_isCard
set_option maxRecDepth 20000 in
theorem ggX6_discard_X3_at : GoodIn wsX6_discard wsX3_at := goodIn_r _ [19, 20, 66] (by decide +kernel) (by decide +kernel)
set_option maxRecDepth 20000 in
theorem gX6_discard_X3_at : GoodIn wsX6_discard (wsV RX6 154 RX3 yX3_at wsX3_at) := goodIn_app (goodIn_of _ (by decide +kernel)) ggX6_discard_X3_at
set_option maxRecDepth 20000 in
theorem ggX6_discard_X6_holds : GoodIn wsX6_discard wsX6_holds := goodIn_r _ [23] (by decide +kernel) (by decide +kernel)
set_option maxRecDepth 20000 in
theorem gX6_discard_X6_holds : GoodIn wsX6_discard (va_wsS RX6 179 yX6_holds wsX6_holds) := goodIn_app (goodIn_of _ (by decide +kernel)) ggX6_discard_X6_holds
set_option maxRecDepth 20000 in
theorem ggX6_discard_X6_canBeLaidAway : GoodIn wsX6_discard wsX6_canBeLaidAway := goodIn_r _ [26, 27, 28, 13, 29, 30, 31, 32] (by decide +kernel) (by decide +kernel)
set_option maxRecDepth 20000 in
theorem gX6_discard_X6_canBeLaidAway : GoodIn wsX6_discard (va_wsS RX6 183 yX6_canBeLaidAway wsX6_canBeLaidAway) := goodIn_app (goodIn_of _ (by decide +kernel)) ggX6_discard_X6_canBeLaidAway
set_option maxRecDepth 20000 in
theorem ggX6_discard_X6_only : GoodIn wsX6_discard wsX6_only := goodIn_r _ [35] (by decide +kernel) (by decide +kernel)
set_option maxRecDepth 20000 in
theorem gX6_discard_X6_only : GoodIn wsX6_discard (va_wsS RX6 188 yX6_only wsX6_only) := goodIn_app (goodIn_of _ (by decide +kernel)) ggX6_discard_X6_only
set_option maxRecDepth 20000 in
theorem ggX6_discard_X3_put : GoodIn wsX6_discard wsX3_put := goodIn_r _ [39, 20, 66] (by decide +kernel) (by decide +kernel)
set_option maxRecDepth 20000 in
theorem gX6_discard_X3_put : GoodIn wsX6_discard (wsV RX6 158 RX3 yX3_put wsX3_put) := goodIn_app (goodIn_of _ (by decide +kernel)) ggX6_discard_X3_put
set_option maxRecDepth 20000 in
theorem ggX6_discard_X6_beginPlay : GoodIn wsX6_discard wsX6_beginPlay := goodIn_r _ [43, 44, 9, 45, 5, 46, 47, 36, 37, 38, 18, 39, 20, 48, 49, 50, 51, 52, 53, 54, 55, 56, 57, 58, 59, 60, 61, 62, 63, 64, 65, 66] (by decide +kernel) (by decide +kernel)
set_option maxRecDepth 20000 in
theorem gX6_discard_X6_beginPlay : GoodIn wsX6_discard (wsV RX6 194 RX6 yX6_beginPlay wsX6_beginPlay) := goodIn_app (goodIn_of _ (by decide +kernel)) ggX6_discard_X6_beginPlay
theorem dX6_discard_0 : decode cX6_discard 0 = .ok (.iload_n 1, 1) := by decide +kernel
theorem dX6_discard_1 : decode cX6_discard 1 = .ok (.invokestatic 171, 3) := by decide +kernel
theorem dX6_discard_4 : decode cX6_discard 4 = .ok (.ifCond .ne 13, 3) := by decide +kernel
theorem dX6_discard_7 : decode cX6_discard 7 = .ok (.new 126, 3) := by decide +kernel
theorem dX6_discard_10 : decode cX6_discard 10 = .ok (.dup, 1) := by decide +kernel
theorem dX6_discard_11 : decode cX6_discard 11 = .ok (.ldc 175, 2) := by decide +kernel
theorem dX6_discard_13 : decode cX6_discard 13 = .ok (.invokespecial 130, 3) := by decide +kernel
theorem dX6_discard_16 : decode cX6_discard 16 = .ok (.athrow, 1) := by decide +kernel
theorem dX6_discard_17 : decode cX6_discard 17 = .ok (.aload_n 0, 1) := by decide +kernel
theorem dX6_discard_18 : decode cX6_discard 18 = .ok (.getfield 53, 3) := by decide +kernel
theorem dX6_discard_21 : decode cX6_discard 21 = .ok (.iconst 4, 1) := by decide +kernel
theorem dX6_discard_22 : decode cX6_discard 22 = .ok (.if_icmp .eq 13, 3) := by decide +kernel
theorem dX6_discard_25 : decode cX6_discard 25 = .ok (.new 79, 3) := by decide +kernel
theorem dX6_discard_28 : decode cX6_discard 28 = .ok (.dup, 1) := by decide +kernel
theorem dX6_discard_29 : decode cX6_discard 29 = .ok (.ldc 177, 2) := by decide +kernel
theorem dX6_discard_31 : decode cX6_discard 31 = .ok (.invokespecial 83, 3) := by decide +kernel
theorem dX6_discard_34 : decode cX6_discard 34 = .ok (.athrow, 1) := by decide +kernel
theorem dX6_discard_35 : decode cX6_discard 35 = .ok (.aload_n 0, 1) := by decide +kernel
theorem dX6_discard_36 : decode cX6_discard 36 = .ok (.getfield 42, 3) := by decide +kernel
theorem dX6_discard_39 : decode cX6_discard 39 = .ok (.aload_n 0, 1) := by decide +kernel
theorem dX6_discard_40 : decode cX6_discard 40 = .ok (.getfield 59, 3) := by decide +kernel
theorem dX6_discard_43 : decode cX6_discard 43 = .ok (.invokevirtual 154, 3) := by decide +kernel
theorem dX6_discard_46 : decode cX6_discard 46 = .ok (.lstore_n 2, 1) := by decide +kernel
theorem dX6_discard_47 : decode cX6_discard 47 = .ok (.lload_n 2, 1) := by decide +kernel
theorem dX6_discard_48 : decode cX6_discard 48 = .ok (.iload_n 1, 1) := by decide +kernel
theorem dX6_discard_49 : decode cX6_discard 49 = .ok (.invokestatic 179, 3) := by decide +kernel
theorem dX6_discard_52 : decode cX6_discard 52 = .ok (.ifCond .eq 10, 3) := by decide +kernel
theorem dX6_discard_55 : decode cX6_discard 55 = .ok (.iload_n 1, 1) := by decide +kernel
theorem dX6_discard_56 : decode cX6_discard 56 = .ok (.invokestatic 183, 3) := by decide +kernel
theorem dX6_discard_59 : decode cX6_discard 59 = .ok (.ifCond .ne 13, 3) := by decide +kernel
theorem dX6_discard_62 : decode cX6_discard 62 = .ok (.new 79, 3) := by decide +kernel
theorem dX6_discard_65 : decode cX6_discard 65 = .ok (.dup, 1) := by decide +kernel
theorem dX6_discard_66 : decode cX6_discard 66 = .ok (.ldc 186, 2) := by decide +kernel
theorem dX6_discard_68 : decode cX6_discard 68 = .ok (.invokespecial 83, 3) := by decide +kernel
theorem dX6_discard_71 : decode cX6_discard 71 = .ok (.athrow, 1) := by decide +kernel
theorem dX6_discard_72 : decode cX6_discard 72 = .ok (.aload_n 0, 1) := by decide +kernel
theorem dX6_discard_73 : decode cX6_discard 73 = .ok (.getfield 42, 3) := by decide +kernel
theorem dX6_discard_76 : decode cX6_discard 76 = .ok (.aload_n 0, 1) := by decide +kernel
theorem dX6_discard_77 : decode cX6_discard 77 = .ok (.getfield 59, 3) := by decide +kernel
theorem dX6_discard_80 : decode cX6_discard 80 = .ok (.lload_n 2, 1) := by decide +kernel
theorem dX6_discard_81 : decode cX6_discard 81 = .ok (.iload_n 1, 1) := by decide +kernel
theorem dX6_discard_82 : decode cX6_discard 82 = .ok (.invokestatic 188, 3) := by decide +kernel
theorem dX6_discard_85 : decode cX6_discard 85 = .ok (.ldc2_w 166, 3) := by decide +kernel
theorem dX6_discard_88 : decode cX6_discard 88 = .ok (.lxor, 1) := by decide +kernel
theorem dX6_discard_89 : decode cX6_discard 89 = .ok (.land, 1) := by decide +kernel
theorem dX6_discard_90 : decode cX6_discard 90 = .ok (.invokevirtual 158, 3) := by decide +kernel
theorem dX6_discard_93 : decode cX6_discard 93 = .ok (.aload_n 0, 1) := by decide +kernel
theorem dX6_discard_94 : decode cX6_discard 94 = .ok (.dup, 1) := by decide +kernel
theorem dX6_discard_95 : decode cX6_discard 95 = .ok (.getfield 191, 3) := by decide +kernel
theorem dX6_discard_98 : decode cX6_discard 98 = .ok (.iload_n 1, 1) := by decide +kernel
theorem dX6_discard_99 : decode cX6_discard 99 = .ok (.invokestatic 188, 3) := by decide +kernel
theorem dX6_discard_102 : decode cX6_discard 102 = .ok (.lor, 1) := by decide +kernel
theorem dX6_discard_103 : decode cX6_discard 103 = .ok (.putfield 191, 3) := by decide +kernel
theorem dX6_discard_106 : decode cX6_discard 106 = .ok (.aload_n 0, 1) := by decide +kernel
theorem dX6_discard_107 : decode cX6_discard 107 = .ok (.dup, 1) := by decide +kernel
theorem dX6_discard_108 : decode cX6_discard 108 = .ok (.getfield 168, 3) := by decide +kernel
theorem dX6_discard_111 : decode cX6_discard 111 = .ok (.iconst 1, 1) := by decide +kernel
theorem dX6_discard_112 : decode cX6_discard 112 = .ok (.isub, 1) := by decide +kernel
theorem dX6_discard_113 : decode cX6_discard 113 = .ok (.putfield 168, 3) := by decide +kernel
theorem dX6_discard_116 : decode cX6_discard 116 = .ok (.aload_n 0, 1) := by decide +kernel
theorem dX6_discard_117 : decode cX6_discard 117 = .ok (.getfield 168, 3) := by decide +kernel
theorem dX6_discard_120 : decode cX6_discard 120 = .ok (.ifCond .ne 7, 3) := by decide +kernel
theorem dX6_discard_123 : decode cX6_discard 123 = .ok (.aload_n 0, 1) := by decide +kernel
theorem dX6_discard_124 : decode cX6_discard 124 = .ok (.invokevirtual 194, 3) := by decide +kernel
theorem dX6_discard_127 : decode cX6_discard 127 = .ok (.aload_n 0, 1) := by decide +kernel
theorem dX6_discard_128 : decode cX6_discard 128 = .ok (.getfield 168, 3) := by decide +kernel
theorem dX6_discard_131 : decode cX6_discard 131 = .ok (.ireturn, 1) := by decide +kernel
set_option maxRecDepth 20000 in
theorem ggX6_announce_X6_isAnnounced : GoodIn wsX6_announce wsX6_isAnnounced := goodIn_r _ [14, 9, 22, 23, 24, 25, 26, 27, 28, 29, 30, 31, 32, 33, 34, 35, 36, 37, 38, 39] (by decide +kernel) (by decide +kernel)
set_option maxRecDepth 20000 in
theorem gX6_announce_X6_isAnnounced : GoodIn wsX6_announce (wsV RX6 207 RX6 yX6_isAnnounced wsX6_isAnnounced) := goodIn_app (goodIn_of _ (by decide +kernel)) ggX6_announce_X6_isAnnounced
set_option maxRecDepth 20000 in
theorem ggX6_announce_J6_bitCount_0f7a4 : GoodIn wsX6_announce wsJ6_bitCount_0f7a4 := goodIn_r _ [18, 19, 20, 21] (by decide +kernel) (by decide +kernel)
set_option maxRecDepth 20000 in
theorem gX6_announce_J6_bitCount_0f7a4 : GoodIn wsX6_announce (va_wsS RX6 217 yJ6_bitCount_0f7a4 wsJ6_bitCount_0f7a4) := goodIn_app (goodIn_of _ (by decide +kernel)) ggX6_announce_J6_bitCount_0f7a4
theorem dX6_announce_0 : decode cX6_announce 0 = .ok (.iload_n 1, 1) := by decide +kernel
theorem dX6_announce_1 : decode cX6_announce 1 = .ok (.ifCond .lt 8, 3) := by decide +kernel
theorem dX6_announce_4 : decode cX6_announce 4 = .ok (.iload_n 1, 1) := by decide +kernel
theorem dX6_announce_5 : decode cX6_announce 5 = .ok (.iconst 2, 1) := by decide +kernel
theorem dX6_announce_6 : decode cX6_announce 6 = .ok (.if_icmp .lt 13, 3) := by decide +kernel
theorem dX6_announce_9 : decode cX6_announce 9 = .ok (.new 126, 3) := by decide +kernel
theorem dX6_announce_12 : decode cX6_announce 12 = .ok (.dup, 1) := by decide +kernel
theorem dX6_announce_13 : decode cX6_announce 13 = .ok (.ldc 197, 2) := by decide +kernel
theorem dX6_announce_15 : decode cX6_announce 15 = .ok (.invokespecial 130, 3) := by decide +kernel
theorem dX6_announce_18 : decode cX6_announce 18 = .ok (.athrow, 1) := by decide +kernel
theorem dX6_announce_19 : decode cX6_announce 19 = .ok (.aload_n 0, 1) := by decide +kernel
theorem dX6_announce_20 : decode cX6_announce 20 = .ok (.getfield 53, 3) := by decide +kernel
theorem dX6_announce_23 : decode cX6_announce 23 = .ok (.iconst 5, 1) := by decide +kernel
theorem dX6_announce_24 : decode cX6_announce 24 = .ok (.if_icmp .ne 20, 3) := by decide +kernel
theorem dX6_announce_27 : decode cX6_announce 27 = .ok (.aload_n 0, 1) := by decide +kernel
theorem dX6_announce_28 : decode cX6_announce 28 = .ok (.getfield 199, 3) := by decide +kernel
theorem dX6_announce_31 : decode cX6_announce 31 = .ok (.ifCond .gt 13, 3) := by decide +kernel
theorem dX6_announce_34 : decode cX6_announce 34 = .ok (.aload_n 0, 1) := by decide +kernel
theorem dX6_announce_35 : decode cX6_announce 35 = .ok (.getfield 26, 3) := by decide +kernel
theorem dX6_announce_38 : decode cX6_announce 38 = .ok (.getfield 202, 3) := by decide +kernel
theorem dX6_announce_41 : decode cX6_announce 41 = .ok (.ifCond .le 13, 3) := by decide +kernel
theorem dX6_announce_44 : decode cX6_announce 44 = .ok (.new 79, 3) := by decide +kernel
theorem dX6_announce_47 : decode cX6_announce 47 = .ok (.dup, 1) := by decide +kernel
theorem dX6_announce_48 : decode cX6_announce 48 = .ok (.ldc 205, 2) := by decide +kernel
theorem dX6_announce_50 : decode cX6_announce 50 = .ok (.invokespecial 83, 3) := by decide +kernel
theorem dX6_announce_53 : decode cX6_announce 53 = .ok (.athrow, 1) := by decide +kernel
theorem dX6_announce_54 : decode cX6_announce 54 = .ok (.aload_n 0, 1) := by decide +kernel
theorem dX6_announce_55 : decode cX6_announce 55 = .ok (.iload_n 1, 1) := by decide +kernel
theorem dX6_announce_56 : decode cX6_announce 56 = .ok (.invokevirtual 207, 3) := by decide +kernel
theorem dX6_announce_59 : decode cX6_announce 59 = .ok (.ifCond .eq 13, 3) := by decide +kernel
theorem dX6_announce_62 : decode cX6_announce 62 = .ok (.new 79, 3) := by decide +kernel
theorem dX6_announce_65 : decode cX6_announce 65 = .ok (.dup, 1) := by decide +kernel
theorem dX6_announce_66 : decode cX6_announce 66 = .ok (.ldc 210, 2) := by decide +kernel
theorem dX6_announce_68 : decode cX6_announce 68 = .ok (.invokespecial 83, 3) := by decide +kernel
theorem dX6_announce_71 : decode cX6_announce 71 = .ok (.athrow, 1) := by decide +kernel
theorem dX6_announce_72 : decode cX6_announce 72 = .ok (.iload_n 1, 1) := by decide +kernel
theorem dX6_announce_73 : decode cX6_announce 73 = .ok (.iconst 1, 1) := by decide +kernel
theorem dX6_announce_74 : decode cX6_announce 74 = .ok (.if_icmp .ne 24, 3) := by decide +kernel
theorem dX6_announce_77 : decode cX6_announce 77 = .ok (.aload_n 0, 1) := by decide +kernel
theorem dX6_announce_78 : decode cX6_announce 78 = .ok (.getfield 19, 3) := by decide +kernel
theorem dX6_announce_81 : decode cX6_announce 81 = .ok (.getfield 101, 3) := by decide +kernel
theorem dX6_announce_84 : decode cX6_announce 84 = .ok (.iconst 3, 1) := by decide +kernel
theorem dX6_announce_85 : decode cX6_announce 85 = .ok (.if_icmp .le 13, 3) := by decide +kernel
theorem dX6_announce_88 : decode cX6_announce 88 = .ok (.new 79, 3) := by decide +kernel
theorem dX6_announce_91 : decode cX6_announce 91 = .ok (.dup, 1) := by decide +kernel
theorem dX6_announce_92 : decode cX6_announce 92 = .ok (.ldc 212, 2) := by decide +kernel
theorem dX6_announce_94 : decode cX6_announce 94 = .ok (.invokespecial 83, 3) := by decide +kernel
theorem dX6_announce_97 : decode cX6_announce 97 = .ok (.athrow, 1) := by decide +kernel
theorem dX6_announce_98 : decode cX6_announce 98 = .ok (.aload_n 0, 1) := by decide +kernel
theorem dX6_announce_99 : decode cX6_announce 99 = .ok (.dup, 1) := by decide +kernel
theorem dX6_announce_100 : decode cX6_announce 100 = .ok (.getfield 214, 3) := by decide +kernel
theorem dX6_announce_103 : decode cX6_announce 103 = .ok (.iconst 1, 1) := by decide +kernel
theorem dX6_announce_104 : decode cX6_announce 104 = .ok (.iload_n 1, 1) := by decide +kernel
theorem dX6_announce_105 : decode cX6_announce 105 = .ok (.ishl, 1) := by decide +kernel
theorem dX6_announce_106 : decode cX6_announce 106 = .ok (.ior, 1) := by decide +kernel
theorem dX6_announce_107 : decode cX6_announce 107 = .ok (.putfield 214, 3) := by decide +kernel
theorem dX6_announce_110 : decode cX6_announce 110 = .ok (.aload_n 0, 1) := by decide +kernel
theorem dX6_announce_111 : decode cX6_announce 111 = .ok (.getfield 214, 3) := by decide +kernel
theorem dX6_announce_114 : decode cX6_announce 114 = .ok (.invokestatic 217, 3) := by decide +kernel
theorem dX6_announce_117 : decode cX6_announce 117 = .ok (.ireturn, 1) := by decide +kernel
set_option maxRecDepth 20000 in
theorem ggX6_play_X6_isCard : GoodIn wsX6_play wsX6_isCard := goodIn_r _ [8] (by decide +kernel) (by decide +kernel)
set_option maxRecDepth 20000 in
theorem gX6_play_X6_isCard : GoodIn wsX6_play (va_wsS RX6 171 yX6_isCard wsX6_isCard) := goodIn_app (goodIn_of _ (by decide +kernel)) ggX6_play_X6_isCard
set_option maxRecDepth 20000 in
theorem ggX6_play_X6_playableNow : GoodIn wsX6_play wsX6_playableNow := goodIn_r _ [12, 13, 14, 15, 16, 17, 18, 19, 20, 21, 22, 23, 24, 25, 26, 27, 28, 29, 30, 31, 32, 33, 34, 35, 36, 7, 37, 38, 39, 40, 41, 42, 43, 44, 45, 174, 175, 176, 177, 178, 179, 180, 181, 182, 183, 184, 185, 186, 187, 188, 189, 190, 191, 192, 193, 194, 195, 196] (by decide +kernel) (by decide +kernel)
set_option maxRecDepth 20000 in
theorem gX6_play_X6_playableNow : GoodIn wsX6_play (wsV RX6 222 RX6 yX6_playableNow wsX6_playableNow) := goodIn_app (goodIn_of _ (by decide +kernel)) ggX6_play_X6_playableNow
set_option maxRecDepth 20000 in
theorem ggX6_play_X6_holds : GoodIn wsX6_play wsX6_holds := goodIn_r _ [48] (by decide +kernel) (by decide +kernel)
set_option maxRecDepth 20000 in
theorem gX6_play_X6_holds : GoodIn wsX6_play (va_wsS RX6 179 yX6_holds wsX6_holds) := goodIn_app (goodIn_of _ (by decide +kernel)) ggX6_play_X6_holds
set_option maxRecDepth 20000 in
theorem ggX6_play_X6_addToTrick : GoodIn wsX6_play wsX6_addToTrick := goodIn_r _ [52, 14, 15, 53, 16, 17, 18, 19, 20, 21, 22, 54, 55, 7, 56, 57, 58, 59, 60, 61, 62, 63, 26, 64, 29, 28, 65, 66, 67, 33, 68, 35, 69, 70, 71, 72, 73, 74, 75, 30, 31, 32, 34, 76, 77, 78, 36, 37, 79, 80, 81, 82, 83, 84, 85, 86, 87, 88, 89, 90, 91, 92, 93, 94, 95, 96, 97, 98, 99, 100, 101, 102, 103, 104, 105, 106, 107, 108, 46, 47, 48, 109, 110, 111, 112, 113, 114, 115, 116, 117, 118, 119, 120, 121, 122, 123, 124, 125, 126, 127, 128, 129, 130, 131, 132, 133, 134, 135, 136, 137, 138, 139, 140, 141, 142, 143, 144, 145, 146, 147, 148, 149, 150, 151, 152, 153, 154, 155, 156, 157, 158, 159, 160, 161, 162, 163, 164, 165, 166, 167, 168, 169, 13, 170, 171, 172, 173, 174, 175, 176, 177, 178, 179, 180, 181, 182, 183, 184, 185, 186, 187, 188, 189, 190, 191, 193, 194, 195, 192, 196, 197, 198, 199, 200, 201, 202] (by decide +kernel) (by decide +kernel)
set_option maxRecDepth 20000 in
theorem gX6_play_X6_addToTrick : GoodIn wsX6_play (wsV RX6 228 RX6 yX6_addToTrick wsX6_addToTrick) := goodIn_app (goodIn_of _ (by decide +kernel)) ggX6_play_X6_addToTrick
theorem dX6_play_0 : decode cX6_play 0 = .ok (.iload_n 1, 1) := by decide +kernel
theorem dX6_play_1 : decode cX6_play 1 = .ok (.invokestatic 171, 3) := by decide +kernel
theorem dX6_play_4 : decode cX6_play 4 = .ok (.ifCond .ne 13, 3) := by decide +kernel
theorem dX6_play_7 : decode cX6_play 7 = .ok (.new 126, 3) := by decide +kernel
theorem dX6_play_10 : decode cX6_play 10 = .ok (.dup, 1) := by decide +kernel
theorem dX6_play_11 : decode cX6_play 11 = .ok (.ldc 175, 2) := by decide +kernel
theorem dX6_play_13 : decode cX6_play 13 = .ok (.invokespecial 130, 3) := by decide +kernel
theorem dX6_play_16 : decode cX6_play 16 = .ok (.athrow, 1) := by decide +kernel
theorem dX6_play_17 : decode cX6_play 17 = .ok (.aload_n 0, 1) := by decide +kernel
theorem dX6_play_18 : decode cX6_play 18 = .ok (.invokevirtual 222, 3) := by decide +kernel
theorem dX6_play_21 : decode cX6_play 21 = .ok (.iload_n 1, 1) := by decide +kernel
theorem dX6_play_22 : decode cX6_play 22 = .ok (.invokestatic 179, 3) := by decide +kernel
theorem dX6_play_25 : decode cX6_play 25 = .ok (.ifCond .ne 13, 3) := by decide +kernel
theorem dX6_play_28 : decode cX6_play 28 = .ok (.new 79, 3) := by decide +kernel
theorem dX6_play_31 : decode cX6_play 31 = .ok (.dup, 1) := by decide +kernel
theorem dX6_play_32 : decode cX6_play 32 = .ok (.ldc 226, 2) := by decide +kernel
theorem dX6_play_34 : decode cX6_play 34 = .ok (.invokespecial 83, 3) := by decide +kernel
theorem dX6_play_37 : decode cX6_play 37 = .ok (.athrow, 1) := by decide +kernel
theorem dX6_play_38 : decode cX6_play 38 = .ok (.aload_n 0, 1) := by decide +kernel
theorem dX6_play_39 : decode cX6_play 39 = .ok (.iload_n 1, 1) := by decide +kernel
theorem dX6_play_40 : decode cX6_play 40 = .ok (.invokevirtual 228, 3) := by decide +kernel
theorem dX6_play_43 : decode cX6_play 43 = .ok (.ireturn, 1) := by decide +kernel
set_option maxRecDepth 20000 in
theorem ggX6_playLowest_X6_playableNow : GoodIn wsX6_playLowest wsX6_playableNow := goodIn_r _ [10, 5, 11, 12, 13, 14, 15, 16, 17, 18, 19, 20, 21, 22, 23, 24, 25, 26, 27, 28, 29, 30, 31, 32, 33, 9, 34, 35, 36, 37, 38, 39, 40, 41, 42, 174, 175, 176, 177, 178, 179, 180, 181, 182, 183, 184, 185, 186, 187, 188, 189, 190, 191, 192, 193, 194, 195, 196] (by decide +kernel) (by decide +kernel)
set_option maxRecDepth 20000 in
theorem gX6_playLowest_X6_playableNow : GoodIn wsX6_playLowest (wsV RX6 222 RX6 yX6_playableNow wsX6_playableNow) := goodIn_app (goodIn_of _ (by decide +kernel)) ggX6_playLowest_X6_playableNow
set_option maxRecDepth 20000 in
theorem ggX6_playLowest_X6_lowestOf : GoodIn wsX6_playLowest wsX6_lowestOf := goodIn_r _ [45, 46, 47, 9, 48] (by decide +kernel) (by decide +kernel)
set_option maxRecDepth 20000 in
theorem gX6_playLowest_X6_lowestOf : GoodIn wsX6_playLowest (va_wsS RX6 235 yX6_lowestOf wsX6_lowestOf) := goodIn_app (goodIn_of _ (by decide +kernel)) ggX6_playLowest_X6_lowestOf
set_option maxRecDepth 20000 in
theorem ggX6_playLowest_X6_addToTrick : GoodIn wsX6_playLowest wsX6_addToTrick := goodIn_r _ [52, 11, 12, 53, 13, 14, 15, 16, 17, 18, 19, 54, 55, 9, 56, 57, 58, 59, 60, 61, 62, 63, 23, 64, 26, 25, 65, 66, 67, 30, 68, 32, 69, 70, 71, 72, 73, 74, 75, 27, 28, 29, 31, 76, 77, 78, 33, 34, 79, 80, 81, 82, 83, 84, 85, 86, 87, 88, 89, 90, 91, 92, 93, 94, 95, 96, 97, 98, 99, 100, 101, 102, 103, 104, 105, 106, 107, 108, 46, 47, 48, 109, 110, 111, 112, 113, 114, 115, 116, 117, 118, 119, 120, 121, 122, 123, 124, 125, 126, 127, 128, 129, 130, 131, 132, 133, 134, 135, 136, 137, 138, 139, 140, 141, 142, 143, 144, 145, 146, 147, 148, 149, 150, 151, 152, 153, 154, 155, 156, 157, 158, 159, 160, 161, 162, 163, 164, 165, 166, 167, 168, 169, 5, 170, 171, 172, 173, 174, 175, 176, 177, 178, 179, 180, 181, 182, 183, 184, 185, 186, 187, 188, 189, 190, 191, 193, 194, 195, 192, 196, 197, 198, 199, 200, 201, 202] (by decide +kernel) (by decide +kernel)
set_option maxRecDepth 20000 in
theorem gX6_playLowest_X6_addToTrick : GoodIn wsX6_playLowest (wsV RX6 228 RX6 yX6_addToTrick wsX6_addToTrick) := goodIn_app (goodIn_of _ (by decide +kernel)) ggX6_playLowest_X6_addToTrick
theorem dX6_playLowest_0 : decode cX6_playLowest 0 = .ok (.iload_n 1, 1) := by decide +kernel
theorem dX6_playLowest_1 : decode cX6_playLowest 1 = .ok (.iconst 1, 1) := by decide +kernel
theorem dX6_playLowest_2 : decode cX6_playLowest 2 = .ok (.if_icmp .lt 9, 3) := by decide +kernel
theorem dX6_playLowest_5 : decode cX6_playLowest 5 = .ok (.iload_n 1, 1) := by decide +kernel
theorem dX6_playLowest_6 : decode cX6_playLowest 6 = .ok (.bipush 48, 2) := by decide +kernel
theorem dX6_playLowest_8 : decode cX6_playLowest 8 = .ok (.if_icmp .le 13, 3) := by decide +kernel
theorem dX6_playLowest_11 : decode cX6_playLowest 11 = .ok (.new 72, 3) := by decide +kernel
theorem dX6_playLowest_14 : decode cX6_playLowest 14 = .ok (.dup, 1) := by decide +kernel
theorem dX6_playLowest_15 : decode cX6_playLowest 15 = .ok (.ldc 231, 2) := by decide +kernel
theorem dX6_playLowest_17 : decode cX6_playLowest 17 = .ok (.invokespecial 76, 3) := by decide +kernel
theorem dX6_playLowest_20 : decode cX6_playLowest 20 = .ok (.athrow, 1) := by decide +kernel
theorem dX6_playLowest_21 : decode cX6_playLowest 21 = .ok (.aload_n 0, 1) := by decide +kernel
theorem dX6_playLowest_22 : decode cX6_playLowest 22 = .ok (.getfield 53, 3) := by decide +kernel
theorem dX6_playLowest_25 : decode cX6_playLowest 25 = .ok (.iconst 5, 1) := by decide +kernel
theorem dX6_playLowest_26 : decode cX6_playLowest 26 = .ok (.if_icmp .eq 13, 3) := by decide +kernel
theorem dX6_playLowest_29 : decode cX6_playLowest 29 = .ok (.new 79, 3) := by decide +kernel
theorem dX6_playLowest_32 : decode cX6_playLowest 32 = .ok (.dup, 1) := by decide +kernel
theorem dX6_playLowest_33 : decode cX6_playLowest 33 = .ok (.ldc 233, 2) := by decide +kernel
theorem dX6_playLowest_35 : decode cX6_playLowest 35 = .ok (.invokespecial 83, 3) := by decide +kernel
theorem dX6_playLowest_38 : decode cX6_playLowest 38 = .ok (.athrow, 1) := by decide +kernel
theorem dX6_playLowest_39 : decode cX6_playLowest 39 = .ok (.iconst 0, 1) := by decide +kernel
theorem dX6_playLowest_40 : decode cX6_playLowest 40 = .ok (.istore_n 2, 1) := by decide +kernel
theorem dX6_playLowest_41 : decode cX6_playLowest 41 = .ok (.iconst 0, 1) := by decide +kernel
theorem dX6_playLowest_42 : decode cX6_playLowest 42 = .ok (.istore_n 3, 1) := by decide +kernel
theorem dX6_playLowest_43 : decode cX6_playLowest 43 = .ok (.iload_n 3, 1) := by decide +kernel
theorem dX6_playLowest_44 : decode cX6_playLowest 44 = .ok (.iload_n 1, 1) := by decide +kernel
theorem dX6_playLowest_45 : decode cX6_playLowest 45 = .ok (.if_icmp .ge 32, 3) := by decide +kernel
theorem dX6_playLowest_48 : decode cX6_playLowest 48 = .ok (.aload_n 0, 1) := by decide +kernel
theorem dX6_playLowest_49 : decode cX6_playLowest 49 = .ok (.getfield 53, 3) := by decide +kernel
theorem dX6_playLowest_52 : decode cX6_playLowest 52 = .ok (.iconst 5, 1) := by decide +kernel
theorem dX6_playLowest_53 : decode cX6_playLowest 53 = .ok (.if_icmp .ne 24, 3) := by decide +kernel
theorem dX6_playLowest_56 : decode cX6_playLowest 56 = .ok (.aload_n 0, 1) := by decide +kernel
theorem dX6_playLowest_57 : decode cX6_playLowest 57 = .ok (.aload_n 0, 1) := by decide +kernel
theorem dX6_playLowest_58 : decode cX6_playLowest 58 = .ok (.invokevirtual 222, 3) := by decide +kernel
theorem dX6_playLowest_61 : decode cX6_playLowest 61 = .ok (.invokestatic 235, 3) := by decide +kernel
theorem dX6_playLowest_64 : decode cX6_playLowest 64 = .ok (.invokevirtual 228, 3) := by decide +kernel
theorem dX6_playLowest_67 : decode cX6_playLowest 67 = .ok (.pop, 1) := by decide +kernel
theorem dX6_playLowest_68 : decode cX6_playLowest 68 = .ok (.iinc 2 1, 3) := by decide +kernel
theorem dX6_playLowest_71 : decode cX6_playLowest 71 = .ok (.iinc 3 1, 3) := by decide +kernel
theorem dX6_playLowest_74 : decode cX6_playLowest 74 = .ok (.goto (-31), 3) := by decide +kernel
theorem dX6_playLowest_77 : decode cX6_playLowest 77 = .ok (.iload_n 2, 1) := by decide +kernel
theorem dX6_playLowest_78 : decode cX6_playLowest 78 = .ok (.ireturn, 1) := by decide +kernel
theorem dX6_phase_0 : decode cX6_phase 0 = .ok (.aload_n 0, 1) := by decide +kernel
theorem dX6_phase_1 : decode cX6_phase 1 = .ok (.getfield 53, 3) := by decide +kernel
theorem dX6_phase_4 : decode cX6_phase 4 = .ok (.ireturn, 1) := by decide +kernel
theorem dX6_turn_0 : decode cX6_turn 0 = .ok (.aload_n 0, 1) := by decide +kernel
theorem dX6_turn_1 : decode cX6_turn 1 = .ok (.getfield 56, 3) := by decide +kernel
theorem dX6_turn_4 : decode cX6_turn 4 = .ok (.ireturn, 1) := by decide +kernel
theorem dX6_declarer_0 : decode cX6_declarer 0 = .ok (.aload_n 0, 1) := by decide +kernel
theorem dX6_declarer_1 : decode cX6_declarer 1 = .ok (.getfield 59, 3) := by decide +kernel
theorem dX6_declarer_4 : decode cX6_declarer 4 = .ok (.ireturn, 1) := by decide +kernel
theorem dX6_level_0 : decode cX6_level 0 = .ok (.aload_n 0, 1) := by decide +kernel
theorem dX6_level_1 : decode cX6_level 1 = .ok (.getfield 19, 3) := by decide +kernel
theorem dX6_level_4 : decode cX6_level 4 = .ok (.getfield 101, 3) := by decide +kernel
theorem dX6_level_7 : decode cX6_level 7 = .ok (.ireturn, 1) := by decide +kernel
theorem dX6_called_0 : decode cX6_called 0 = .ok (.aload_n 0, 1) := by decide +kernel
theorem dX6_called_1 : decode cX6_called 1 = .ok (.getfield 62, 3) := by decide +kernel
theorem dX6_called_4 : decode cX6_called 4 = .ok (.ireturn, 1) := by decide +kernel
theorem dX6_partner_0 : decode cX6_partner 0 = .ok (.aload_n 0, 1) := by decide +kernel
theorem dX6_partner_1 : decode cX6_partner 1 = .ok (.getfield 68, 3) := by decide +kernel
theorem dX6_partner_4 : decode cX6_partner 4 = .ok (.ireturn, 1) := by decide +kernel
set_option maxRecDepth 20000 in
theorem ggX6_hand_X6_isPlayer : GoodIn wsX6_hand wsX6_isPlayer := goodIn_r _ [7] (by decide +kernel) (by decide +kernel)
set_option maxRecDepth 20000 in
theorem gX6_hand_X6_isPlayer : GoodIn wsX6_hand (va_wsS RX6 239 yX6_isPlayer wsX6_isPlayer) := goodIn_app (goodIn_of _ (by decide +kernel)) ggX6_hand_X6_isPlayer
set_option maxRecDepth 20000 in
theorem ggX6_hand_X3_at : GoodIn wsX6_hand wsX3_at := goodIn_r _ [12, 13, 32] (by decide +kernel) (by decide +kernel)
set_option maxRecDepth 20000 in
theorem gX6_hand_X3_at : GoodIn wsX6_hand (wsV RX6 154 RX3 yX3_at wsX3_at) := goodIn_app (goodIn_of _ (by decide +kernel)) ggX6_hand_X3_at
theorem dX6_hand_0 : decode cX6_hand 0 = .ok (.iload_n 1, 1) := by decide +kernel
theorem dX6_hand_1 : decode cX6_hand 1 = .ok (.invokestatic 239, 3) := by decide +kernel
theorem dX6_hand_4 : decode cX6_hand 4 = .ok (.ifCond .ne 13, 3) := by decide +kernel
theorem dX6_hand_7 : decode cX6_hand 7 = .ok (.new 126, 3) := by decide +kernel
theorem dX6_hand_10 : decode cX6_hand 10 = .ok (.dup, 1) := by decide +kernel
theorem dX6_hand_11 : decode cX6_hand 11 = .ok (.ldc 242, 2) := by decide +kernel
theorem dX6_hand_13 : decode cX6_hand 13 = .ok (.invokespecial 130, 3) := by decide +kernel
theorem dX6_hand_16 : decode cX6_hand 16 = .ok (.athrow, 1) := by decide +kernel
theorem dX6_hand_17 : decode cX6_hand 17 = .ok (.aload_n 0, 1) := by decide +kernel
theorem dX6_hand_18 : decode cX6_hand 18 = .ok (.getfield 42, 3) := by decide +kernel
theorem dX6_hand_21 : decode cX6_hand 21 = .ok (.iload_n 1, 1) := by decide +kernel
theorem dX6_hand_22 : decode cX6_hand 22 = .ok (.invokevirtual 154, 3) := by decide +kernel
theorem dX6_hand_25 : decode cX6_hand 25 = .ok (.lreturn, 1) := by decide +kernel
set_option maxRecDepth 20000 in
theorem ggX6_talonAt_X1_cardAt : GoodIn wsX6_talonAt wsX1_cardAt := goodIn_r _ [11, 12, 13, 14, 15, 16, 17, 18, 37, 38] (by decide +kernel) (by decide +kernel)
set_option maxRecDepth 20000 in
theorem gX6_talonAt_X1_cardAt : GoodIn wsX6_talonAt (wsV RX6 248 RX1 yX1_cardAt wsX1_cardAt) := goodIn_app (goodIn_of _ (by decide +kernel)) ggX6_talonAt_X1_cardAt
theorem dX6_talonAt_0 : decode cX6_talonAt 0 = .ok (.iload_n 1, 1) := by decide +kernel
theorem dX6_talonAt_1 : decode cX6_talonAt 1 = .ok (.ifCond .lt 9, 3) := by decide +kernel
theorem dX6_talonAt_4 : decode cX6_talonAt 4 = .ok (.iload_n 1, 1) := by decide +kernel
theorem dX6_talonAt_5 : decode cX6_talonAt 5 = .ok (.bipush 6, 2) := by decide +kernel
theorem dX6_talonAt_7 : decode cX6_talonAt 7 = .ok (.if_icmp .lt 13, 3) := by decide +kernel
theorem dX6_talonAt_10 : decode cX6_talonAt 10 = .ok (.new 126, 3) := by decide +kernel
theorem dX6_talonAt_13 : decode cX6_talonAt 13 = .ok (.dup, 1) := by decide +kernel
theorem dX6_talonAt_14 : decode cX6_talonAt 14 = .ok (.ldc 244, 2) := by decide +kernel
theorem dX6_talonAt_16 : decode cX6_talonAt 16 = .ok (.invokespecial 130, 3) := by decide +kernel
theorem dX6_talonAt_19 : decode cX6_talonAt 19 = .ok (.athrow, 1) := by decide +kernel
theorem dX6_talonAt_20 : decode cX6_talonAt 20 = .ok (.aload_n 0, 1) := by decide +kernel
theorem dX6_talonAt_21 : decode cX6_talonAt 21 = .ok (.getfield 49, 3) := by decide +kernel
theorem dX6_talonAt_24 : decode cX6_talonAt 24 = .ok (.iconst (-1), 1) := by decide +kernel
theorem dX6_talonAt_25 : decode cX6_talonAt 25 = .ok (.if_icmp .ne 13, 3) := by decide +kernel
theorem dX6_talonAt_28 : decode cX6_talonAt 28 = .ok (.new 79, 3) := by decide +kernel
theorem dX6_talonAt_31 : decode cX6_talonAt 31 = .ok (.dup, 1) := by decide +kernel
theorem dX6_talonAt_32 : decode cX6_talonAt 32 = .ok (.ldc 246, 2) := by decide +kernel
theorem dX6_talonAt_34 : decode cX6_talonAt 34 = .ok (.invokespecial 83, 3) := by decide +kernel
theorem dX6_talonAt_37 : decode cX6_talonAt 37 = .ok (.athrow, 1) := by decide +kernel
theorem dX6_talonAt_38 : decode cX6_talonAt 38 = .ok (.aload_n 0, 1) := by decide +kernel
theorem dX6_talonAt_39 : decode cX6_talonAt 39 = .ok (.getfield 12, 3) := by decide +kernel
theorem dX6_talonAt_42 : decode cX6_talonAt 42 = .ok (.bipush 48, 2) := by decide +kernel
theorem dX6_talonAt_44 : decode cX6_talonAt 44 = .ok (.iload_n 1, 1) := by decide +kernel
theorem dX6_talonAt_45 : decode cX6_talonAt 45 = .ok (.iadd, 1) := by decide +kernel
theorem dX6_talonAt_46 : decode cX6_talonAt 46 = .ok (.invokevirtual 248, 3) := by decide +kernel
theorem dX6_talonAt_49 : decode cX6_talonAt 49 = .ok (.ireturn, 1) := by decide +kernel
theorem dX6_inTrick_0 : decode cX6_inTrick 0 = .ok (.aload_n 0, 1) := by decide +kernel
theorem dX6_inTrick_1 : decode cX6_inTrick 1 = .ok (.getfield 26, 3) := by decide +kernel
theorem dX6_inTrick_4 : decode cX6_inTrick 4 = .ok (.getfield 202, 3) := by decide +kernel
theorem dX6_inTrick_7 : decode cX6_inTrick 7 = .ok (.ireturn, 1) := by decide +kernel
set_option maxRecDepth 20000 in
theorem ggX6_trickAt_X5_cardAt : GoodIn wsX6_trickAt wsX5_cardAt := goodIn_r _ [8, 9, 10, 11, 12, 13, 14, 15, 34, 35, 36, 37] (by decide +kernel) (by decide +kernel)
set_option maxRecDepth 20000 in
theorem gX6_trickAt_X5_cardAt : GoodIn wsX6_trickAt (wsV RX6 253 RX5 yX5_cardAt wsX5_cardAt) := goodIn_app (goodIn_of _ (by decide +kernel)) ggX6_trickAt_X5_cardAt
theorem dX6_trickAt_0 : decode cX6_trickAt 0 = .ok (.iload_n 1, 1) := by decide +kernel
theorem dX6_trickAt_1 : decode cX6_trickAt 1 = .ok (.ifCond .lt 14, 3) := by decide +kernel
theorem dX6_trickAt_4 : decode cX6_trickAt 4 = .ok (.iload_n 1, 1) := by decide +kernel
theorem dX6_trickAt_5 : decode cX6_trickAt 5 = .ok (.aload_n 0, 1) := by decide +kernel
theorem dX6_trickAt_6 : decode cX6_trickAt 6 = .ok (.getfield 26, 3) := by decide +kernel
theorem dX6_trickAt_9 : decode cX6_trickAt 9 = .ok (.getfield 202, 3) := by decide +kernel
theorem dX6_trickAt_12 : decode cX6_trickAt 12 = .ok (.if_icmp .lt 13, 3) := by decide +kernel
theorem dX6_trickAt_15 : decode cX6_trickAt 15 = .ok (.new 126, 3) := by decide +kernel
theorem dX6_trickAt_18 : decode cX6_trickAt 18 = .ok (.dup, 1) := by decide +kernel
theorem dX6_trickAt_19 : decode cX6_trickAt 19 = .ok (.ldc 251, 2) := by decide +kernel
theorem dX6_trickAt_21 : decode cX6_trickAt 21 = .ok (.invokespecial 130, 3) := by decide +kernel
theorem dX6_trickAt_24 : decode cX6_trickAt 24 = .ok (.athrow, 1) := by decide +kernel
theorem dX6_trickAt_25 : decode cX6_trickAt 25 = .ok (.aload_n 0, 1) := by decide +kernel
theorem dX6_trickAt_26 : decode cX6_trickAt 26 = .ok (.getfield 26, 3) := by decide +kernel
theorem dX6_trickAt_29 : decode cX6_trickAt 29 = .ok (.iload_n 1, 1) := by decide +kernel
theorem dX6_trickAt_30 : decode cX6_trickAt 30 = .ok (.invokevirtual 253, 3) := by decide +kernel
theorem dX6_trickAt_33 : decode cX6_trickAt 33 = .ok (.ireturn, 1) := by decide +kernel
set_option maxRecDepth 20000 in
theorem ggX6_canPlay_X6_isCard : GoodIn wsX6_canPlay wsX6_isCard := goodIn_r _ [6] (by decide +kernel) (by decide +kernel)
set_option maxRecDepth 20000 in
theorem gX6_canPlay_X6_isCard : GoodIn wsX6_canPlay (va_wsS RX6 171 yX6_isCard wsX6_isCard) := goodIn_app (goodIn_of _ (by decide +kernel)) ggX6_canPlay_X6_isCard
set_option maxRecDepth 20000 in
theorem ggX6_canPlay_X6_playableNow : GoodIn wsX6_canPlay wsX6_playableNow := goodIn_r _ [10, 11, 12, 13, 14, 15, 16, 17, 18, 19, 20, 21, 22, 23, 24, 25, 26, 27, 28, 29, 30, 31, 32, 33, 34, 5, 35, 36, 37, 38, 39, 40, 41, 42, 43, 47, 48, 49, 50, 51, 52, 53, 54, 55, 56, 57, 58, 59, 60, 61, 62, 63, 64, 65, 66, 67, 68, 69] (by decide +kernel) (by decide +kernel)
set_option maxRecDepth 20000 in
theorem gX6_canPlay_X6_playableNow : GoodIn wsX6_canPlay (wsV RX6 222 RX6 yX6_playableNow wsX6_playableNow) := goodIn_app (goodIn_of _ (by decide +kernel)) ggX6_canPlay_X6_playableNow
set_option maxRecDepth 20000 in
theorem ggX6_canPlay_X6_holds : GoodIn wsX6_canPlay wsX6_holds := goodIn_r _ [46] (by decide +kernel) (by decide +kernel)
set_option maxRecDepth 20000 in
theorem gX6_canPlay_X6_holds : GoodIn wsX6_canPlay (va_wsS RX6 179 yX6_holds wsX6_holds) := goodIn_app (goodIn_of _ (by decide +kernel)) ggX6_canPlay_X6_holds
theorem dX6_canPlay_0 : decode cX6_canPlay 0 = .ok (.iload_n 1, 1) := by decide +kernel
theorem dX6_canPlay_1 : decode cX6_canPlay 1 = .ok (.invokestatic 171, 3) := by decide +kernel
theorem dX6_canPlay_4 : decode cX6_canPlay 4 = .ok (.ifCond .ne 13, 3) := by decide +kernel
theorem dX6_canPlay_7 : decode cX6_canPlay 7 = .ok (.new 126, 3) := by decide +kernel
theorem dX6_canPlay_10 : decode cX6_canPlay 10 = .ok (.dup, 1) := by decide +kernel
theorem dX6_canPlay_11 : decode cX6_canPlay 11 = .ok (.ldc 175, 2) := by decide +kernel
theorem dX6_canPlay_13 : decode cX6_canPlay 13 = .ok (.invokespecial 130, 3) := by decide +kernel
theorem dX6_canPlay_16 : decode cX6_canPlay 16 = .ok (.athrow, 1) := by decide +kernel
theorem dX6_canPlay_17 : decode cX6_canPlay 17 = .ok (.aload_n 0, 1) := by decide +kernel
theorem dX6_canPlay_18 : decode cX6_canPlay 18 = .ok (.invokevirtual 222, 3) := by decide +kernel
theorem dX6_canPlay_21 : decode cX6_canPlay 21 = .ok (.iload_n 1, 1) := by decide +kernel
theorem dX6_canPlay_22 : decode cX6_canPlay 22 = .ok (.invokestatic 179, 3) := by decide +kernel
theorem dX6_canPlay_25 : decode cX6_canPlay 25 = .ok (.ireturn, 1) := by decide +kernel
theorem dX6_tricks_0 : decode cX6_tricks 0 = .ok (.aload_n 0, 1) := by decide +kernel
theorem dX6_tricks_1 : decode cX6_tricks 1 = .ok (.getfield 199, 3) := by decide +kernel
theorem dX6_tricks_4 : decode cX6_tricks 4 = .ok (.ireturn, 1) := by decide +kernel
set_option maxRecDepth 20000 in
theorem ggX6_valueOf_X6_isCard : GoodIn wsX6_valueOf wsX6_isCard := goodIn_r _ [6] (by decide +kernel) (by decide +kernel)
set_option maxRecDepth 20000 in
theorem gX6_valueOf_X6_isCard : GoodIn wsX6_valueOf (va_wsS RX6 171 yX6_isCard wsX6_isCard) := goodIn_app (goodIn_of _ (by decide +kernel)) ggX6_valueOf_X6_isCard
set_option maxRecDepth 20000 in
theorem ggX6_valueOf_X6_worth : GoodIn wsX6_valueOf wsX6_worth := goodIn_r _ [9, 10, 11, 5, 12] (by decide +kernel) (by decide +kernel)
set_option maxRecDepth 20000 in
theorem gX6_valueOf_X6_worth : GoodIn wsX6_valueOf (va_wsS RX6 254 yX6_worth wsX6_worth) := goodIn_app (goodIn_of _ (by decide +kernel)) ggX6_valueOf_X6_worth
theorem dX6_valueOf_0 : decode cX6_valueOf 0 = .ok (.iload_n 1, 1) := by decide +kernel
theorem dX6_valueOf_1 : decode cX6_valueOf 1 = .ok (.invokestatic 171, 3) := by decide +kernel
theorem dX6_valueOf_4 : decode cX6_valueOf 4 = .ok (.ifCond .ne 13, 3) := by decide +kernel
theorem dX6_valueOf_7 : decode cX6_valueOf 7 = .ok (.new 126, 3) := by decide +kernel
theorem dX6_valueOf_10 : decode cX6_valueOf 10 = .ok (.dup, 1) := by decide +kernel
theorem dX6_valueOf_11 : decode cX6_valueOf 11 = .ok (.ldc 175, 2) := by decide +kernel
theorem dX6_valueOf_13 : decode cX6_valueOf 13 = .ok (.invokespecial 130, 3) := by decide +kernel
theorem dX6_valueOf_16 : decode cX6_valueOf 16 = .ok (.athrow, 1) := by decide +kernel
theorem dX6_valueOf_17 : decode cX6_valueOf 17 = .ok (.iload_n 1, 1) := by decide +kernel
theorem dX6_valueOf_18 : decode cX6_valueOf 18 = .ok (.invokestatic 254, 3) := by decide +kernel
theorem dX6_valueOf_21 : decode cX6_valueOf 21 = .ok (.ireturn, 1) := by decide +kernel
set_option maxRecDepth 20000 in
theorem ggX6_thirds_X6_isSide : GoodIn wsX6_thirds wsX6_isSide := goodIn_r _ [7] (by decide +kernel) (by decide +kernel)
set_option maxRecDepth 20000 in
theorem gX6_thirds_X6_isSide : GoodIn wsX6_thirds (va_wsS RX6 257 yX6_isSide wsX6_isSide) := goodIn_app (goodIn_of _ (by decide +kernel)) ggX6_thirds_X6_isSide
set_option maxRecDepth 20000 in
theorem ggX6_thirds_X3_at : GoodIn wsX6_thirds wsX3_at := goodIn_r _ [12, 13, 44] (by decide +kernel) (by decide +kernel)
set_option maxRecDepth 20000 in
theorem gX6_thirds_X3_at : GoodIn wsX6_thirds (wsV RX6 154 RX3 yX3_at wsX3_at) := goodIn_app (goodIn_of _ (by decide +kernel)) ggX6_thirds_X3_at
set_option maxRecDepth 20000 in
theorem ggX6_thirds_X6_thirdsOf : GoodIn wsX6_thirds wsX6_thirdsOf := goodIn_r _ [16, 17, 18, 6, 19, 20, 21, 22, 23, 24, 25] (by decide +kernel) (by decide +kernel)
set_option maxRecDepth 20000 in
theorem gX6_thirds_X6_thirdsOf : GoodIn wsX6_thirds (va_wsS RX6 262 yX6_thirdsOf wsX6_thirdsOf) := goodIn_app (goodIn_of _ (by decide +kernel)) ggX6_thirds_X6_thirdsOf
theorem dX6_thirds_0 : decode cX6_thirds 0 = .ok (.iload_n 1, 1) := by decide +kernel
theorem dX6_thirds_1 : decode cX6_thirds 1 = .ok (.invokestatic 257, 3) := by decide +kernel
theorem dX6_thirds_4 : decode cX6_thirds 4 = .ok (.ifCond .ne 14, 3) := by decide +kernel
theorem dX6_thirds_7 : decode cX6_thirds 7 = .ok (.new 126, 3) := by decide +kernel
theorem dX6_thirds_10 : decode cX6_thirds 10 = .ok (.dup, 1) := by decide +kernel
theorem dX6_thirds_11 : decode cX6_thirds 11 = .ok (.ldc_w 260, 3) := by decide +kernel
theorem dX6_thirds_14 : decode cX6_thirds 14 = .ok (.invokespecial 130, 3) := by decide +kernel
theorem dX6_thirds_17 : decode cX6_thirds 17 = .ok (.athrow, 1) := by decide +kernel
theorem dX6_thirds_18 : decode cX6_thirds 18 = .ok (.aload_n 0, 1) := by decide +kernel
theorem dX6_thirds_19 : decode cX6_thirds 19 = .ok (.getfield 46, 3) := by decide +kernel
theorem dX6_thirds_22 : decode cX6_thirds 22 = .ok (.iload_n 1, 1) := by decide +kernel
theorem dX6_thirds_23 : decode cX6_thirds 23 = .ok (.invokevirtual 154, 3) := by decide +kernel
theorem dX6_thirds_26 : decode cX6_thirds 26 = .ok (.invokestatic 262, 3) := by decide +kernel
theorem dX6_thirds_29 : decode cX6_thirds 29 = .ok (.ireturn, 1) := by decide +kernel
set_option maxRecDepth 20000 in
theorem ggX6_byPacks_X6_isSide : GoodIn wsX6_byPacks wsX6_isSide := goodIn_r _ [7] (by decide +kernel) (by decide +kernel)
set_option maxRecDepth 20000 in
theorem gX6_byPacks_X6_isSide : GoodIn wsX6_byPacks (va_wsS RX6 257 yX6_isSide wsX6_isSide) := goodIn_app (goodIn_of _ (by decide +kernel)) ggX6_byPacks_X6_isSide
set_option maxRecDepth 20000 in
theorem ggX6_byPacks_X3_at : GoodIn wsX6_byPacks wsX3_at := goodIn_r _ [12, 13, 44] (by decide +kernel) (by decide +kernel)
set_option maxRecDepth 20000 in
theorem gX6_byPacks_X3_at : GoodIn wsX6_byPacks (wsV RX6 154 RX3 yX3_at wsX3_at) := goodIn_app (goodIn_of _ (by decide +kernel)) ggX6_byPacks_X3_at
set_option maxRecDepth 20000 in
theorem ggX6_byPacks_X6_packPointsOf : GoodIn wsX6_byPacks wsX6_packPointsOf := goodIn_r _ [16, 17, 18, 6, 19, 20, 21, 22, 23, 24, 25] (by decide +kernel) (by decide +kernel)
set_option maxRecDepth 20000 in
theorem gX6_byPacks_X6_packPointsOf : GoodIn wsX6_byPacks (va_wsS RX6 265 yX6_packPointsOf wsX6_packPointsOf) := goodIn_app (goodIn_of _ (by decide +kernel)) ggX6_byPacks_X6_packPointsOf
theorem dX6_byPacks_0 : decode cX6_byPacks 0 = .ok (.iload_n 1, 1) := by decide +kernel
theorem dX6_byPacks_1 : decode cX6_byPacks 1 = .ok (.invokestatic 257, 3) := by decide +kernel
theorem dX6_byPacks_4 : decode cX6_byPacks 4 = .ok (.ifCond .ne 14, 3) := by decide +kernel
theorem dX6_byPacks_7 : decode cX6_byPacks 7 = .ok (.new 126, 3) := by decide +kernel
theorem dX6_byPacks_10 : decode cX6_byPacks 10 = .ok (.dup, 1) := by decide +kernel
theorem dX6_byPacks_11 : decode cX6_byPacks 11 = .ok (.ldc_w 260, 3) := by decide +kernel
theorem dX6_byPacks_14 : decode cX6_byPacks 14 = .ok (.invokespecial 130, 3) := by decide +kernel
theorem dX6_byPacks_17 : decode cX6_byPacks 17 = .ok (.athrow, 1) := by decide +kernel
theorem dX6_byPacks_18 : decode cX6_byPacks 18 = .ok (.aload_n 0, 1) := by decide +kernel
theorem dX6_byPacks_19 : decode cX6_byPacks 19 = .ok (.getfield 46, 3) := by decide +kernel
theorem dX6_byPacks_22 : decode cX6_byPacks 22 = .ok (.iload_n 1, 1) := by decide +kernel
theorem dX6_byPacks_23 : decode cX6_byPacks 23 = .ok (.invokevirtual 154, 3) := by decide +kernel
theorem dX6_byPacks_26 : decode cX6_byPacks 26 = .ok (.invokestatic 265, 3) := by decide +kernel
theorem dX6_byPacks_29 : decode cX6_byPacks 29 = .ok (.ireturn, 1) := by decide +kernel
set_option maxRecDepth 20000 in
theorem ggX6_score_X6_isPlayer : GoodIn wsX6_score wsX6_isPlayer := goodIn_r _ [7] (by decide +kernel) (by decide +kernel)
set_option maxRecDepth 20000 in
theorem gX6_score_X6_isPlayer : GoodIn wsX6_score (va_wsS RX6 239 yX6_isPlayer wsX6_isPlayer) := goodIn_app (goodIn_of _ (by decide +kernel)) ggX6_score_X6_isPlayer
set_option maxRecDepth 20000 in
theorem ggX6_score_X2_at : GoodIn wsX6_score wsX2_at := goodIn_r _ [12, 13, 35] (by decide +kernel) (by decide +kernel)
set_option maxRecDepth 20000 in
theorem gX6_score_X2_at : GoodIn wsX6_score (wsV RX6 272 RX2 yX2_at wsX2_at) := goodIn_app (goodIn_of _ (by decide +kernel)) ggX6_score_X2_at
theorem dX6_score_0 : decode cX6_score 0 = .ok (.iload_n 1, 1) := by decide +kernel
theorem dX6_score_1 : decode cX6_score 1 = .ok (.invokestatic 239, 3) := by decide +kernel
theorem dX6_score_4 : decode cX6_score 4 = .ok (.ifCond .ne 13, 3) := by decide +kernel
theorem dX6_score_7 : decode cX6_score 7 = .ok (.new 126, 3) := by decide +kernel
theorem dX6_score_10 : decode cX6_score 10 = .ok (.dup, 1) := by decide +kernel
theorem dX6_score_11 : decode cX6_score 11 = .ok (.ldc 242, 2) := by decide +kernel
theorem dX6_score_13 : decode cX6_score 13 = .ok (.invokespecial 130, 3) := by decide +kernel
theorem dX6_score_16 : decode cX6_score 16 = .ok (.athrow, 1) := by decide +kernel
theorem dX6_score_17 : decode cX6_score 17 = .ok (.aload_n 0, 1) := by decide +kernel
theorem dX6_score_18 : decode cX6_score 18 = .ok (.getfield 33, 3) := by decide +kernel
theorem dX6_score_21 : decode cX6_score 21 = .ok (.getfield 268, 3) := by decide +kernel
theorem dX6_score_24 : decode cX6_score 24 = .ok (.iload_n 1, 1) := by decide +kernel
theorem dX6_score_25 : decode cX6_score 25 = .ok (.invokevirtual 272, 3) := by decide +kernel
theorem dX6_score_28 : decode cX6_score 28 = .ok (.ireturn, 1) := by decide +kernel
set_option maxRecDepth 20000 in
theorem ggX6_radli_X6_isPlayer : GoodIn wsX6_radli wsX6_isPlayer := goodIn_r _ [7] (by decide +kernel) (by decide +kernel)
set_option maxRecDepth 20000 in
theorem gX6_radli_X6_isPlayer : GoodIn wsX6_radli (va_wsS RX6 239 yX6_isPlayer wsX6_isPlayer) := goodIn_app (goodIn_of _ (by decide +kernel)) ggX6_radli_X6_isPlayer
set_option maxRecDepth 20000 in
theorem ggX6_radli_X2_at : GoodIn wsX6_radli wsX2_at := goodIn_r _ [12, 13, 35] (by decide +kernel) (by decide +kernel)
set_option maxRecDepth 20000 in
theorem gX6_radli_X2_at : GoodIn wsX6_radli (wsV RX6 272 RX2 yX2_at wsX2_at) := goodIn_app (goodIn_of _ (by decide +kernel)) ggX6_radli_X2_at
theorem dX6_radli_0 : decode cX6_radli 0 = .ok (.iload_n 1, 1) := by decide +kernel
theorem dX6_radli_1 : decode cX6_radli 1 = .ok (.invokestatic 239, 3) := by decide +kernel
theorem dX6_radli_4 : decode cX6_radli 4 = .ok (.ifCond .ne 13, 3) := by decide +kernel
theorem dX6_radli_7 : decode cX6_radli 7 = .ok (.new 126, 3) := by decide +kernel
theorem dX6_radli_10 : decode cX6_radli 10 = .ok (.dup, 1) := by decide +kernel
theorem dX6_radli_11 : decode cX6_radli 11 = .ok (.ldc 242, 2) := by decide +kernel
theorem dX6_radli_13 : decode cX6_radli 13 = .ok (.invokespecial 130, 3) := by decide +kernel
theorem dX6_radli_16 : decode cX6_radli 16 = .ok (.athrow, 1) := by decide +kernel
theorem dX6_radli_17 : decode cX6_radli 17 = .ok (.aload_n 0, 1) := by decide +kernel
theorem dX6_radli_18 : decode cX6_radli 18 = .ok (.getfield 33, 3) := by decide +kernel
theorem dX6_radli_21 : decode cX6_radli 21 = .ok (.getfield 276, 3) := by decide +kernel
theorem dX6_radli_24 : decode cX6_radli 24 = .ok (.iload_n 1, 1) := by decide +kernel
theorem dX6_radli_25 : decode cX6_radli 25 = .ok (.invokevirtual 272, 3) := by decide +kernel
theorem dX6_radli_28 : decode cX6_radli 28 = .ok (.ireturn, 1) := by decide +kernel
theorem dX6_result_0 : decode cX6_result 0 = .ok (.aload_n 0, 1) := by decide +kernel
theorem dX6_result_1 : decode cX6_result 1 = .ok (.getfield 33, 3) := by decide +kernel
theorem dX6_result_4 : decode cX6_result 4 = .ok (.getfield 279, 3) := by decide +kernel
theorem dX6_result_7 : decode cX6_result 7 = .ok (.ireturn, 1) := by decide +kernel
set_option maxRecDepth 20000 in
theorem ggX6_knows_X6_isPlayer : GoodIn wsX6_knows wsX6_isPlayer := goodIn_r _ [9] (by decide +kernel) (by decide +kernel)
set_option maxRecDepth 20000 in
theorem gX6_knows_X6_isPlayer : GoodIn wsX6_knows (va_wsS RX6 239 yX6_isPlayer wsX6_isPlayer) := goodIn_app (goodIn_of _ (by decide +kernel)) ggX6_knows_X6_isPlayer
set_option maxRecDepth 20000 in
theorem ggX6_knows_X6_sidesAreOpen : GoodIn wsX6_knows wsX6_sidesAreOpen := goodIn_r _ [13, 14, 5, 15, 16, 17, 18, 19, 20, 21, 22, 23, 24, 8, 25, 26, 27, 28, 34, 35, 36, 37, 38, 39, 40, 41, 42, 43, 44, 45, 46, 47, 48, 49, 50, 51, 52] (by decide +kernel) (by decide +kernel)
set_option maxRecDepth 20000 in
theorem gX6_knows_X6_sidesAreOpen : GoodIn wsX6_knows (wsV RX6 282 RX6 yX6_sidesAreOpen wsX6_sidesAreOpen) := goodIn_app (goodIn_of _ (by decide +kernel)) ggX6_knows_X6_sidesAreOpen
set_option maxRecDepth 20000 in
theorem ggX6_knows_X6_sideOf : GoodIn wsX6_knows wsX6_sideOf := goodIn_r _ [32, 3, 33, 34, 35, 36, 37, 38, 39, 40, 41, 42, 43, 44, 45, 46, 47, 48, 49, 50, 51] (by decide +kernel) (by decide +kernel)
set_option maxRecDepth 20000 in
theorem gX6_knows_X6_sideOf : GoodIn wsX6_knows (wsV RX6 285 RX6 yX6_sideOf wsX6_sideOf) := goodIn_app (goodIn_of _ (by decide +kernel)) ggX6_knows_X6_sideOf
theorem dX6_knows_0 : decode cX6_knows 0 = .ok (.iload_n 1, 1) := by decide +kernel
theorem dX6_knows_1 : decode cX6_knows 1 = .ok (.invokestatic 239, 3) := by decide +kernel
theorem dX6_knows_4 : decode cX6_knows 4 = .ok (.ifCond .eq 10, 3) := by decide +kernel
theorem dX6_knows_7 : decode cX6_knows 7 = .ok (.iload_n 2, 1) := by decide +kernel
theorem dX6_knows_8 : decode cX6_knows 8 = .ok (.invokestatic 239, 3) := by decide +kernel
theorem dX6_knows_11 : decode cX6_knows 11 = .ok (.ifCond .ne 13, 3) := by decide +kernel
theorem dX6_knows_14 : decode cX6_knows 14 = .ok (.new 126, 3) := by decide +kernel
theorem dX6_knows_17 : decode cX6_knows 17 = .ok (.dup, 1) := by decide +kernel
theorem dX6_knows_18 : decode cX6_knows 18 = .ok (.ldc 242, 2) := by decide +kernel
theorem dX6_knows_20 : decode cX6_knows 20 = .ok (.invokespecial 130, 3) := by decide +kernel
theorem dX6_knows_23 : decode cX6_knows 23 = .ok (.athrow, 1) := by decide +kernel
theorem dX6_knows_24 : decode cX6_knows 24 = .ok (.aload_n 0, 1) := by decide +kernel
theorem dX6_knows_25 : decode cX6_knows 25 = .ok (.getfield 59, 3) := by decide +kernel
theorem dX6_knows_28 : decode cX6_knows 28 = .ok (.iconst (-1), 1) := by decide +kernel
theorem dX6_knows_29 : decode cX6_knows 29 = .ok (.if_icmp .eq 11, 3) := by decide +kernel
theorem dX6_knows_32 : decode cX6_knows 32 = .ok (.aload_n 0, 1) := by decide +kernel
theorem dX6_knows_33 : decode cX6_knows 33 = .ok (.getfield 53, 3) := by decide +kernel
theorem dX6_knows_36 : decode cX6_knows 36 = .ok (.iconst 2, 1) := by decide +kernel
theorem dX6_knows_37 : decode cX6_knows 37 = .ok (.if_icmp .ne 5, 3) := by decide +kernel
theorem dX6_knows_40 : decode cX6_knows 40 = .ok (.iconst (-1), 1) := by decide +kernel
theorem dX6_knows_41 : decode cX6_knows 41 = .ok (.ireturn, 1) := by decide +kernel
theorem dX6_knows_42 : decode cX6_knows 42 = .ok (.iload_n 2, 1) := by decide +kernel
theorem dX6_knows_43 : decode cX6_knows 43 = .ok (.aload_n 0, 1) := by decide +kernel
theorem dX6_knows_44 : decode cX6_knows 44 = .ok (.getfield 59, 3) := by decide +kernel
theorem dX6_knows_47 : decode cX6_knows 47 = .ok (.if_icmp .eq 23, 3) := by decide +kernel
theorem dX6_knows_50 : decode cX6_knows 50 = .ok (.iload_n 2, 1) := by decide +kernel
theorem dX6_knows_51 : decode cX6_knows 51 = .ok (.iload_n 1, 1) := by decide +kernel
theorem dX6_knows_52 : decode cX6_knows 52 = .ok (.if_icmp .eq 18, 3) := by decide +kernel
theorem dX6_knows_55 : decode cX6_knows 55 = .ok (.iload_n 1, 1) := by decide +kernel
theorem dX6_knows_56 : decode cX6_knows 56 = .ok (.aload_n 0, 1) := by decide +kernel
theorem dX6_knows_57 : decode cX6_knows 57 = .ok (.getfield 65, 3) := by decide +kernel
theorem dX6_knows_60 : decode cX6_knows 60 = .ok (.if_icmp .eq 10, 3) := by decide +kernel
theorem dX6_knows_63 : decode cX6_knows 63 = .ok (.aload_n 0, 1) := by decide +kernel
theorem dX6_knows_64 : decode cX6_knows 64 = .ok (.invokevirtual 282, 3) := by decide +kernel
theorem dX6_knows_67 : decode cX6_knows 67 = .ok (.ifCond .eq 7, 3) := by decide +kernel
theorem dX6_knows_70 : decode cX6_knows 70 = .ok (.iconst 1, 1) := by decide +kernel
theorem dX6_knows_71 : decode cX6_knows 71 = .ok (.goto 4, 3) := by decide +kernel
theorem dX6_knows_74 : decode cX6_knows 74 = .ok (.iconst 0, 1) := by decide +kernel
theorem dX6_knows_75 : decode cX6_knows 75 = .ok (.istore_n 3, 1) := by decide +kernel
theorem dX6_knows_76 : decode cX6_knows 76 = .ok (.iload_n 3, 1) := by decide +kernel
theorem dX6_knows_77 : decode cX6_knows 77 = .ok (.ifCond .eq 11, 3) := by decide +kernel
theorem dX6_knows_80 : decode cX6_knows 80 = .ok (.aload_n 0, 1) := by decide +kernel
theorem dX6_knows_81 : decode cX6_knows 81 = .ok (.iload_n 2, 1) := by decide +kernel
theorem dX6_knows_82 : decode cX6_knows 82 = .ok (.invokevirtual 285, 3) := by decide +kernel
theorem dX6_knows_85 : decode cX6_knows 85 = .ok (.goto 4, 3) := by decide +kernel
theorem dX6_knows_88 : decode cX6_knows 88 = .ok (.iconst (-1), 1) := by decide +kernel
theorem dX6_knows_89 : decode cX6_knows 89 = .ok (.ireturn, 1) := by decide +kernel
set_option maxRecDepth 20000 in
theorem ggX6_clearDeal_X0_clear : GoodIn wsX6_clearDeal wsX0_clear := goodIn_r _ [17, 18, 19, 20, 52, 53, 54] (by decide +kernel) (by decide +kernel)
set_option maxRecDepth 20000 in
theorem gX6_clearDeal_X0_clear : GoodIn wsX6_clearDeal (wsV RX6 288 RX0 yX0_clear wsX0_clear) := goodIn_app (goodIn_of _ (by decide +kernel)) ggX6_clearDeal_X0_clear
set_option maxRecDepth 20000 in
theorem ggX6_clearDeal_X5_begin : GoodIn wsX6_clearDeal wsX5_begin := goodIn_r _ [25, 26, 27, 55, 56, 57] (by decide +kernel) (by decide +kernel)
set_option maxRecDepth 20000 in
theorem gX6_clearDeal_X5_begin : GoodIn wsX6_clearDeal (wsV RX6 291 RX5 yX5_begin wsX5_begin) := goodIn_app (goodIn_of _ (by decide +kernel)) ggX6_clearDeal_X5_begin
set_option maxRecDepth 20000 in
theorem ggX6_clearDeal_X3_put : GoodIn wsX6_clearDeal wsX3_put := goodIn_r _ [32, 33, 58] (by decide +kernel) (by decide +kernel)
set_option maxRecDepth 20000 in
theorem gX6_clearDeal_X3_put : GoodIn wsX6_clearDeal (wsV RX6 158 RX3 yX3_put wsX3_put) := goodIn_app (goodIn_of _ (by decide +kernel)) ggX6_clearDeal_X3_put
theorem dX6_clearDeal_0 : decode cX6_clearDeal 0 = .ok (.aload_n 0, 1) := by decide +kernel
theorem dX6_clearDeal_1 : decode cX6_clearDeal 1 = .ok (.getfield 19, 3) := by decide +kernel
theorem dX6_clearDeal_4 : decode cX6_clearDeal 4 = .ok (.invokevirtual 288, 3) := by decide +kernel
theorem dX6_clearDeal_7 : decode cX6_clearDeal 7 = .ok (.aload_n 0, 1) := by decide +kernel
theorem dX6_clearDeal_8 : decode cX6_clearDeal 8 = .ok (.getfield 26, 3) := by decide +kernel
theorem dX6_clearDeal_11 : decode cX6_clearDeal 11 = .ok (.aload_n 0, 1) := by decide +kernel
theorem dX6_clearDeal_12 : decode cX6_clearDeal 12 = .ok (.getfield 49, 3) := by decide +kernel
theorem dX6_clearDeal_15 : decode cX6_clearDeal 15 = .ok (.invokevirtual 291, 3) := by decide +kernel
theorem dX6_clearDeal_18 : decode cX6_clearDeal 18 = .ok (.aload_n 0, 1) := by decide +kernel
theorem dX6_clearDeal_19 : decode cX6_clearDeal 19 = .ok (.iconst (-1), 1) := by decide +kernel
theorem dX6_clearDeal_20 : decode cX6_clearDeal 20 = .ok (.putfield 59, 3) := by decide +kernel
theorem dX6_clearDeal_23 : decode cX6_clearDeal 23 = .ok (.aload_n 0, 1) := by decide +kernel
theorem dX6_clearDeal_24 : decode cX6_clearDeal 24 = .ok (.iconst (-1), 1) := by decide +kernel
theorem dX6_clearDeal_25 : decode cX6_clearDeal 25 = .ok (.putfield 62, 3) := by decide +kernel
theorem dX6_clearDeal_28 : decode cX6_clearDeal 28 = .ok (.aload_n 0, 1) := by decide +kernel
theorem dX6_clearDeal_29 : decode cX6_clearDeal 29 = .ok (.iconst (-1), 1) := by decide +kernel
theorem dX6_clearDeal_30 : decode cX6_clearDeal 30 = .ok (.putfield 65, 3) := by decide +kernel
theorem dX6_clearDeal_33 : decode cX6_clearDeal 33 = .ok (.aload_n 0, 1) := by decide +kernel
theorem dX6_clearDeal_34 : decode cX6_clearDeal 34 = .ok (.iconst (-1), 1) := by decide +kernel
theorem dX6_clearDeal_35 : decode cX6_clearDeal 35 = .ok (.putfield 68, 3) := by decide +kernel
theorem dX6_clearDeal_38 : decode cX6_clearDeal 38 = .ok (.aload_n 0, 1) := by decide +kernel
theorem dX6_clearDeal_39 : decode cX6_clearDeal 39 = .ok (.iconst 0, 1) := by decide +kernel
theorem dX6_clearDeal_40 : decode cX6_clearDeal 40 = .ok (.putfield 168, 3) := by decide +kernel
theorem dX6_clearDeal_43 : decode cX6_clearDeal 43 = .ok (.aload_n 0, 1) := by decide +kernel
theorem dX6_clearDeal_44 : decode cX6_clearDeal 44 = .ok (.lconst 0, 1) := by decide +kernel
theorem dX6_clearDeal_45 : decode cX6_clearDeal 45 = .ok (.putfield 191, 3) := by decide +kernel
theorem dX6_clearDeal_48 : decode cX6_clearDeal 48 = .ok (.aload_n 0, 1) := by decide +kernel
theorem dX6_clearDeal_49 : decode cX6_clearDeal 49 = .ok (.iconst 0, 1) := by decide +kernel
theorem dX6_clearDeal_50 : decode cX6_clearDeal 50 = .ok (.putfield 214, 3) := by decide +kernel
theorem dX6_clearDeal_53 : decode cX6_clearDeal 53 = .ok (.aload_n 0, 1) := by decide +kernel
theorem dX6_clearDeal_54 : decode cX6_clearDeal 54 = .ok (.iconst 0, 1) := by decide +kernel
theorem dX6_clearDeal_55 : decode cX6_clearDeal 55 = .ok (.putfield 199, 3) := by decide +kernel
theorem dX6_clearDeal_58 : decode cX6_clearDeal 58 = .ok (.aload_n 0, 1) := by decide +kernel
theorem dX6_clearDeal_59 : decode cX6_clearDeal 59 = .ok (.getfield 46, 3) := by decide +kernel
theorem dX6_clearDeal_62 : decode cX6_clearDeal 62 = .ok (.iconst 0, 1) := by decide +kernel
theorem dX6_clearDeal_63 : decode cX6_clearDeal 63 = .ok (.lconst 0, 1) := by decide +kernel
theorem dX6_clearDeal_64 : decode cX6_clearDeal 64 = .ok (.invokevirtual 158, 3) := by decide +kernel
theorem dX6_clearDeal_67 : decode cX6_clearDeal 67 = .ok (.aload_n 0, 1) := by decide +kernel
theorem dX6_clearDeal_68 : decode cX6_clearDeal 68 = .ok (.getfield 46, 3) := by decide +kernel
theorem dX6_clearDeal_71 : decode cX6_clearDeal 71 = .ok (.iconst 1, 1) := by decide +kernel
theorem dX6_clearDeal_72 : decode cX6_clearDeal 72 = .ok (.lconst 0, 1) := by decide +kernel
theorem dX6_clearDeal_73 : decode cX6_clearDeal 73 = .ok (.invokevirtual 158, 3) := by decide +kernel
theorem dX6_clearDeal_76 : decode cX6_clearDeal 76 = .ok (.return_, 1) := by decide +kernel
set_option maxRecDepth 20000 in
theorem ggX6_handOut_X1_cardsFrom : GoodIn wsX6_handOut wsX1_cardsFrom := goodIn_r _ [9, 10, 11, 12, 13, 14, 15, 16, 17, 18, 19, 47, 48] (by decide +kernel) (by decide +kernel)
set_option maxRecDepth 20000 in
theorem gX6_handOut_X1_cardsFrom : GoodIn wsX6_handOut (wsV RX6 150 RX1 yX1_cardsFrom wsX1_cardsFrom) := goodIn_app (goodIn_of _ (by decide +kernel)) ggX6_handOut_X1_cardsFrom
set_option maxRecDepth 20000 in
theorem ggX6_handOut_X3_put : GoodIn wsX6_handOut wsX3_put := goodIn_r _ [24, 25, 49] (by decide +kernel) (by decide +kernel)
set_option maxRecDepth 20000 in
theorem gX6_handOut_X3_put : GoodIn wsX6_handOut (wsV RX6 158 RX3 yX3_put wsX3_put) := goodIn_app (goodIn_of _ (by decide +kernel)) ggX6_handOut_X3_put
set_option maxRecDepth 20000 in
theorem ggX6_handOut_X6_behind : GoodIn wsX6_handOut wsX6_behind := goodIn_r _ [28] (by decide +kernel) (by decide +kernel)
set_option maxRecDepth 20000 in
theorem gX6_handOut_X6_behind : GoodIn wsX6_handOut (va_wsS RX6 84 yX6_behind wsX6_behind) := goodIn_app (goodIn_of _ (by decide +kernel)) ggX6_handOut_X6_behind
theorem dX6_handOut_0 : decode cX6_handOut 0 = .ok (.aload_n 0, 1) := by decide +kernel
theorem dX6_handOut_1 : decode cX6_handOut 1 = .ok (.getfield 49, 3) := by decide +kernel
theorem dX6_handOut_4 : decode cX6_handOut 4 = .ok (.istore_n 1, 1) := by decide +kernel
theorem dX6_handOut_5 : decode cX6_handOut 5 = .ok (.iconst 0, 1) := by decide +kernel
theorem dX6_handOut_6 : decode cX6_handOut 6 = .ok (.istore_n 2, 1) := by decide +kernel
theorem dX6_handOut_7 : decode cX6_handOut 7 = .ok (.iload_n 2, 1) := by decide +kernel
theorem dX6_handOut_8 : decode cX6_handOut 8 = .ok (.iconst 4, 1) := by decide +kernel
theorem dX6_handOut_9 : decode cX6_handOut 9 = .ok (.if_icmp .ge 35, 3) := by decide +kernel
theorem dX6_handOut_12 : decode cX6_handOut 12 = .ok (.aload_n 0, 1) := by decide +kernel
theorem dX6_handOut_13 : decode cX6_handOut 13 = .ok (.getfield 42, 3) := by decide +kernel
theorem dX6_handOut_16 : decode cX6_handOut 16 = .ok (.iload_n 1, 1) := by decide +kernel
theorem dX6_handOut_17 : decode cX6_handOut 17 = .ok (.aload_n 0, 1) := by decide +kernel
theorem dX6_handOut_18 : decode cX6_handOut 18 = .ok (.getfield 12, 3) := by decide +kernel
theorem dX6_handOut_21 : decode cX6_handOut 21 = .ok (.iload_n 2, 1) := by decide +kernel
theorem dX6_handOut_22 : decode cX6_handOut 22 = .ok (.bipush 12, 2) := by decide +kernel
theorem dX6_handOut_24 : decode cX6_handOut 24 = .ok (.imul, 1) := by decide +kernel
theorem dX6_handOut_25 : decode cX6_handOut 25 = .ok (.bipush 12, 2) := by decide +kernel
theorem dX6_handOut_27 : decode cX6_handOut 27 = .ok (.invokevirtual 150, 3) := by decide +kernel
theorem dX6_handOut_30 : decode cX6_handOut 30 = .ok (.invokevirtual 158, 3) := by decide +kernel
theorem dX6_handOut_33 : decode cX6_handOut 33 = .ok (.iload_n 1, 1) := by decide +kernel
theorem dX6_handOut_34 : decode cX6_handOut 34 = .ok (.invokestatic 84, 3) := by decide +kernel
theorem dX6_handOut_37 : decode cX6_handOut 37 = .ok (.istore_n 1, 1) := by decide +kernel
theorem dX6_handOut_38 : decode cX6_handOut 38 = .ok (.iinc 2 1, 3) := by decide +kernel
theorem dX6_handOut_41 : decode cX6_handOut 41 = .ok (.goto (-34), 3) := by decide +kernel
theorem dX6_handOut_44 : decode cX6_handOut 44 = .ok (.aload_n 0, 1) := by decide +kernel
theorem dX6_handOut_45 : decode cX6_handOut 45 = .ok (.aload_n 0, 1) := by decide +kernel
theorem dX6_handOut_46 : decode cX6_handOut 46 = .ok (.getfield 12, 3) := by decide +kernel
theorem dX6_handOut_49 : decode cX6_handOut 49 = .ok (.bipush 48, 2) := by decide +kernel
theorem dX6_handOut_51 : decode cX6_handOut 51 = .ok (.bipush 6, 2) := by decide +kernel
theorem dX6_handOut_53 : decode cX6_handOut 53 = .ok (.invokevirtual 150, 3) := by decide +kernel
theorem dX6_handOut_56 : decode cX6_handOut 56 = .ok (.putfield 162, 3) := by decide +kernel
theorem dX6_handOut_59 : decode cX6_handOut 59 = .ok (.return_, 1) := by decide +kernel
set_option maxRecDepth 20000 in
theorem ggX6_beginGame_X6_beginPlay : GoodIn wsX6_beginGame wsX6_beginPlay := goodIn_r _ [9, 10, 11, 12, 4, 13, 3, 14, 15, 16, 17, 18, 19, 20, 21, 22, 23, 24, 25, 26, 27, 28, 29, 30, 31, 32, 33, 34, 35, 36, 37, 41] (by decide +kernel) (by decide +kernel)
set_option maxRecDepth 20000 in
theorem gX6_beginGame_X6_beginPlay : GoodIn wsX6_beginGame (wsV RX6 194 RX6 yX6_beginPlay wsX6_beginPlay) := goodIn_app (goodIn_of _ (by decide +kernel)) ggX6_beginGame_X6_beginPlay
theorem dX6_beginGame_0 : decode cX6_beginGame 0 = .ok (.aload_n 0, 1) := by decide +kernel
theorem dX6_beginGame_1 : decode cX6_beginGame 1 = .ok (.aload_n 0, 1) := by decide +kernel
theorem dX6_beginGame_2 : decode cX6_beginGame 2 = .ok (.getfield 19, 3) := by decide +kernel
theorem dX6_beginGame_5 : decode cX6_beginGame 5 = .ok (.getfield 294, 3) := by decide +kernel
theorem dX6_beginGame_8 : decode cX6_beginGame 8 = .ok (.putfield 59, 3) := by decide +kernel
theorem dX6_beginGame_11 : decode cX6_beginGame 11 = .ok (.aload_n 0, 1) := by decide +kernel
theorem dX6_beginGame_12 : decode cX6_beginGame 12 = .ok (.aload_n 0, 1) := by decide +kernel
theorem dX6_beginGame_13 : decode cX6_beginGame 13 = .ok (.getfield 59, 3) := by decide +kernel
theorem dX6_beginGame_16 : decode cX6_beginGame 16 = .ok (.putfield 56, 3) := by decide +kernel
theorem dX6_beginGame_19 : decode cX6_beginGame 19 = .ok (.aload_n 0, 1) := by decide +kernel
theorem dX6_beginGame_20 : decode cX6_beginGame 20 = .ok (.getfield 19, 3) := by decide +kernel
theorem dX6_beginGame_23 : decode cX6_beginGame 23 = .ok (.getfield 101, 3) := by decide +kernel
theorem dX6_beginGame_26 : decode cX6_beginGame 26 = .ok (.iconst 3, 1) := by decide +kernel
theorem dX6_beginGame_27 : decode cX6_beginGame 27 = .ok (.if_icmp .gt 11, 3) := by decide +kernel
theorem dX6_beginGame_30 : decode cX6_beginGame 30 = .ok (.aload_n 0, 1) := by decide +kernel
theorem dX6_beginGame_31 : decode cX6_beginGame 31 = .ok (.iconst 2, 1) := by decide +kernel
theorem dX6_beginGame_32 : decode cX6_beginGame 32 = .ok (.putfield 53, 3) := by decide +kernel
theorem dX6_beginGame_35 : decode cX6_beginGame 35 = .ok (.goto 26, 3) := by decide +kernel
theorem dX6_beginGame_38 : decode cX6_beginGame 38 = .ok (.aload_n 0, 1) := by decide +kernel
theorem dX6_beginGame_39 : decode cX6_beginGame 39 = .ok (.getfield 19, 3) := by decide +kernel
theorem dX6_beginGame_42 : decode cX6_beginGame 42 = .ok (.getfield 101, 3) := by decide +kernel
theorem dX6_beginGame_45 : decode cX6_beginGame 45 = .ok (.iconst 4, 1) := by decide +kernel
theorem dX6_beginGame_46 : decode cX6_beginGame 46 = .ok (.if_icmp .gt 11, 3) := by decide +kernel
theorem dX6_beginGame_49 : decode cX6_beginGame 49 = .ok (.aload_n 0, 1) := by decide +kernel
theorem dX6_beginGame_50 : decode cX6_beginGame 50 = .ok (.iconst 3, 1) := by decide +kernel
theorem dX6_beginGame_51 : decode cX6_beginGame 51 = .ok (.putfield 53, 3) := by decide +kernel
theorem dX6_beginGame_54 : decode cX6_beginGame 54 = .ok (.goto 7, 3) := by decide +kernel
theorem dX6_beginGame_57 : decode cX6_beginGame 57 = .ok (.aload_n 0, 1) := by decide +kernel
theorem dX6_beginGame_58 : decode cX6_beginGame 58 = .ok (.invokevirtual 194, 3) := by decide +kernel
theorem dX6_beginGame_61 : decode cX6_beginGame 61 = .ok (.return_, 1) := by decide +kernel
set_option maxRecDepth 20000 in
theorem ggX6_beginPlay_X3_put : GoodIn wsX6_beginPlay wsX3_put := goodIn_r _ [11, 12, 31] (by decide +kernel) (by decide +kernel)
set_option maxRecDepth 20000 in
theorem gX6_beginPlay_X3_put : GoodIn wsX6_beginPlay (wsV RX6 158 RX3 yX3_put wsX3_put) := goodIn_app (goodIn_of _ (by decide +kernel)) ggX6_beginPlay_X3_put
theorem dX6_beginPlay_0 : decode cX6_beginPlay 0 = .ok (.aload_n 0, 1) := by decide +kernel
theorem dX6_beginPlay_1 : decode cX6_beginPlay 1 = .ok (.getfield 46, 3) := by decide +kernel
theorem dX6_beginPlay_4 : decode cX6_beginPlay 4 = .ok (.iconst 0, 1) := by decide +kernel
theorem dX6_beginPlay_5 : decode cX6_beginPlay 5 = .ok (.aload_n 0, 1) := by decide +kernel
theorem dX6_beginPlay_6 : decode cX6_beginPlay 6 = .ok (.getfield 191, 3) := by decide +kernel
theorem dX6_beginPlay_9 : decode cX6_beginPlay 9 = .ok (.invokevirtual 158, 3) := by decide +kernel
theorem dX6_beginPlay_12 : decode cX6_beginPlay 12 = .ok (.aload_n 0, 1) := by decide +kernel
theorem dX6_beginPlay_13 : decode cX6_beginPlay 13 = .ok (.getfield 46, 3) := by decide +kernel
theorem dX6_beginPlay_16 : decode cX6_beginPlay 16 = .ok (.iconst 1, 1) := by decide +kernel
theorem dX6_beginPlay_17 : decode cX6_beginPlay 17 = .ok (.aload_n 0, 1) := by decide +kernel
theorem dX6_beginPlay_18 : decode cX6_beginPlay 18 = .ok (.getfield 162, 3) := by decide +kernel
theorem dX6_beginPlay_21 : decode cX6_beginPlay 21 = .ok (.invokevirtual 158, 3) := by decide +kernel
theorem dX6_beginPlay_24 : decode cX6_beginPlay 24 = .ok (.aload_n 0, 1) := by decide +kernel
theorem dX6_beginPlay_25 : decode cX6_beginPlay 25 = .ok (.iconst 5, 1) := by decide +kernel
theorem dX6_beginPlay_26 : decode cX6_beginPlay 26 = .ok (.putfield 53, 3) := by decide +kernel
theorem dX6_beginPlay_29 : decode cX6_beginPlay 29 = .ok (.aload_n 0, 1) := by decide +kernel
theorem dX6_beginPlay_30 : decode cX6_beginPlay 30 = .ok (.aload_n 0, 1) := by decide +kernel
theorem dX6_beginPlay_31 : decode cX6_beginPlay 31 = .ok (.getfield 49, 3) := by decide +kernel
theorem dX6_beginPlay_34 : decode cX6_beginPlay 34 = .ok (.putfield 56, 3) := by decide +kernel
theorem dX6_beginPlay_37 : decode cX6_beginPlay 37 = .ok (.return_, 1) := by decide +kernel
set_option maxRecDepth 20000 in
theorem ggX6_addToTrick_X3_at : GoodIn wsX6_addToTrick wsX3_at := goodIn_r _ [9, 10, 168] (by decide +kernel) (by decide +kernel)
set_option maxRecDepth 20000 in
theorem gX6_addToTrick_X3_at : GoodIn wsX6_addToTrick (wsV RX6 154 RX3 yX3_at wsX3_at) := goodIn_app (goodIn_of _ (by decide +kernel)) ggX6_addToTrick_X3_at
set_option maxRecDepth 20000 in
theorem ggX6_addToTrick_X6_only : GoodIn wsX6_addToTrick wsX6_only := goodIn_r _ [14] (by decide +kernel) (by decide +kernel)
set_option maxRecDepth 20000 in
theorem gX6_addToTrick_X6_only : GoodIn wsX6_addToTrick (va_wsS RX6 188 yX6_only wsX6_only) := goodIn_app (goodIn_of _ (by decide +kernel)) ggX6_addToTrick_X6_only
set_option maxRecDepth 20000 in
theorem ggX6_addToTrick_X3_put : GoodIn wsX6_addToTrick wsX3_put := goodIn_r _ [18, 10, 168] (by decide +kernel) (by decide +kernel)
set_option maxRecDepth 20000 in
theorem gX6_addToTrick_X3_put : GoodIn wsX6_addToTrick (wsV RX6 158 RX3 yX3_put wsX3_put) := goodIn_app (goodIn_of _ (by decide +kernel)) ggX6_addToTrick_X3_put
set_option maxRecDepth 20000 in
theorem ggX6_addToTrick_X5_add : GoodIn wsX6_addToTrick wsX5_add := goodIn_r _ [23, 24, 25, 26, 27, 28, 29, 30, 31, 165, 166, 167, 169] (by decide +kernel) (by decide +kernel)
set_option maxRecDepth 20000 in
theorem gX6_addToTrick_X5_add : GoodIn wsX6_addToTrick (wsV RX6 297 RX5 yX5_add wsX5_add) := goodIn_app (goodIn_of _ (by decide +kernel)) ggX6_addToTrick_X5_add
set_option maxRecDepth 20000 in
theorem ggX6_addToTrick_X6_behind : GoodIn wsX6_addToTrick wsX6_behind := goodIn_r _ [34] (by decide +kernel) (by decide +kernel)
set_option maxRecDepth 20000 in
theorem gX6_addToTrick_X6_behind : GoodIn wsX6_addToTrick (va_wsS RX6 84 yX6_behind wsX6_behind) := goodIn_app (goodIn_of _ (by decide +kernel)) ggX6_addToTrick_X6_behind
set_option maxRecDepth 20000 in
theorem ggX6_addToTrick_X5_winner : GoodIn wsX6_addToTrick wsX5_winner := goodIn_r _ [38, 25, 24, 39, 40, 41, 29, 42, 31, 43, 44, 22, 45, 46, 13, 47, 48, 49, 50, 51, 52, 165, 166, 167, 169] (by decide +kernel) (by decide +kernel)
set_option maxRecDepth 20000 in
theorem gX6_addToTrick_X5_winner : GoodIn wsX6_addToTrick (wsV RX6 300 RX5 yX5_winner wsX5_winner) := goodIn_app (goodIn_of _ (by decide +kernel)) ggX6_addToTrick_X5_winner
set_option maxRecDepth 20000 in
theorem ggX6_addToTrick_X6_endTrick : GoodIn wsX6_addToTrick wsX6_endTrick := goodIn_r _ [56, 57, 4, 58, 2, 59, 60, 61, 13, 62, 63, 64, 5, 6, 7, 8, 9, 10, 65, 66, 67, 22, 68, 25, 24, 39, 40, 41, 29, 42, 31, 12, 14, 15, 16, 17, 18, 69, 70, 71, 72, 73, 74, 75, 76, 77, 78, 79, 80, 81, 82, 83, 84, 46, 47, 85, 86, 87, 88, 89, 90, 91, 92, 93, 94, 95, 96, 97, 98, 99, 100, 101, 102, 103, 104, 105, 48, 49, 50, 51, 52, 106, 107, 108, 109, 110, 111, 112, 113, 114, 115, 116, 117, 118, 119, 120, 121, 122, 123, 124, 125, 126, 127, 128, 27, 28, 30, 129, 130, 131, 132, 133, 134, 135, 136, 137, 138, 139, 140, 141, 142, 143, 144, 145, 146, 147, 148, 149, 150, 151, 152, 153, 154, 155, 156, 157, 158, 159, 160, 161, 162, 163, 164, 168, 165, 166, 167, 169, 170, 171, 172, 173, 174, 175] (by decide +kernel) (by decide +kernel)
set_option maxRecDepth 20000 in
theorem gX6_addToTrick_X6_endTrick : GoodIn wsX6_addToTrick (wsV RX6 303 RX6 yX6_endTrick wsX6_endTrick) := goodIn_app (goodIn_of _ (by decide +kernel)) ggX6_addToTrick_X6_endTrick
theorem dX6_addToTrick_0 : decode cX6_addToTrick 0 = .ok (.aload_n 0, 1) := by decide +kernel
theorem dX6_addToTrick_1 : decode cX6_addToTrick 1 = .ok (.getfield 42, 3) := by decide +kernel
theorem dX6_addToTrick_4 : decode cX6_addToTrick 4 = .ok (.aload_n 0, 1) := by decide +kernel
theorem dX6_addToTrick_5 : decode cX6_addToTrick 5 = .ok (.getfield 56, 3) := by decide +kernel
theorem dX6_addToTrick_8 : decode cX6_addToTrick 8 = .ok (.aload_n 0, 1) := by decide +kernel
theorem dX6_addToTrick_9 : decode cX6_addToTrick 9 = .ok (.getfield 42, 3) := by decide +kernel
theorem dX6_addToTrick_12 : decode cX6_addToTrick 12 = .ok (.aload_n 0, 1) := by decide +kernel
theorem dX6_addToTrick_13 : decode cX6_addToTrick 13 = .ok (.getfield 56, 3) := by decide +kernel
theorem dX6_addToTrick_16 : decode cX6_addToTrick 16 = .ok (.invokevirtual 154, 3) := by decide +kernel
theorem dX6_addToTrick_19 : decode cX6_addToTrick 19 = .ok (.iload_n 1, 1) := by decide +kernel
theorem dX6_addToTrick_20 : decode cX6_addToTrick 20 = .ok (.invokestatic 188, 3) := by decide +kernel
theorem dX6_addToTrick_23 : decode cX6_addToTrick 23 = .ok (.ldc2_w 166, 3) := by decide +kernel
theorem dX6_addToTrick_26 : decode cX6_addToTrick 26 = .ok (.lxor, 1) := by decide +kernel
theorem dX6_addToTrick_27 : decode cX6_addToTrick 27 = .ok (.land, 1) := by decide +kernel
theorem dX6_addToTrick_28 : decode cX6_addToTrick 28 = .ok (.invokevirtual 158, 3) := by decide +kernel
theorem dX6_addToTrick_31 : decode cX6_addToTrick 31 = .ok (.aload_n 0, 1) := by decide +kernel
theorem dX6_addToTrick_32 : decode cX6_addToTrick 32 = .ok (.getfield 26, 3) := by decide +kernel
theorem dX6_addToTrick_35 : decode cX6_addToTrick 35 = .ok (.iload_n 1, 1) := by decide +kernel
theorem dX6_addToTrick_36 : decode cX6_addToTrick 36 = .ok (.invokevirtual 297, 3) := by decide +kernel
theorem dX6_addToTrick_39 : decode cX6_addToTrick 39 = .ok (.aload_n 0, 1) := by decide +kernel
theorem dX6_addToTrick_40 : decode cX6_addToTrick 40 = .ok (.getfield 26, 3) := by decide +kernel
theorem dX6_addToTrick_43 : decode cX6_addToTrick 43 = .ok (.getfield 202, 3) := by decide +kernel
theorem dX6_addToTrick_46 : decode cX6_addToTrick 46 = .ok (.iconst 4, 1) := by decide +kernel
theorem dX6_addToTrick_47 : decode cX6_addToTrick 47 = .ok (.if_icmp .ge 16, 3) := by decide +kernel
theorem dX6_addToTrick_50 : decode cX6_addToTrick 50 = .ok (.aload_n 0, 1) := by decide +kernel
theorem dX6_addToTrick_51 : decode cX6_addToTrick 51 = .ok (.aload_n 0, 1) := by decide +kernel
theorem dX6_addToTrick_52 : decode cX6_addToTrick 52 = .ok (.getfield 56, 3) := by decide +kernel
theorem dX6_addToTrick_55 : decode cX6_addToTrick 55 = .ok (.invokestatic 84, 3) := by decide +kernel
theorem dX6_addToTrick_58 : decode cX6_addToTrick 58 = .ok (.putfield 56, 3) := by decide +kernel
theorem dX6_addToTrick_61 : decode cX6_addToTrick 61 = .ok (.iconst (-1), 1) := by decide +kernel
theorem dX6_addToTrick_62 : decode cX6_addToTrick 62 = .ok (.ireturn, 1) := by decide +kernel
theorem dX6_addToTrick_63 : decode cX6_addToTrick 63 = .ok (.aload_n 0, 1) := by decide +kernel
theorem dX6_addToTrick_64 : decode cX6_addToTrick 64 = .ok (.getfield 26, 3) := by decide +kernel
theorem dX6_addToTrick_67 : decode cX6_addToTrick 67 = .ok (.invokevirtual 300, 3) := by decide +kernel
theorem dX6_addToTrick_70 : decode cX6_addToTrick 70 = .ok (.istore_n 2, 1) := by decide +kernel
theorem dX6_addToTrick_71 : decode cX6_addToTrick 71 = .ok (.aload_n 0, 1) := by decide +kernel
theorem dX6_addToTrick_72 : decode cX6_addToTrick 72 = .ok (.iload_n 2, 1) := by decide +kernel
theorem dX6_addToTrick_73 : decode cX6_addToTrick 73 = .ok (.invokevirtual 303, 3) := by decide +kernel
theorem dX6_addToTrick_76 : decode cX6_addToTrick 76 = .ok (.iload_n 2, 1) := by decide +kernel
theorem dX6_addToTrick_77 : decode cX6_addToTrick 77 = .ok (.ireturn, 1) := by decide +kernel
set_option maxRecDepth 20000 in
theorem ggX6_endTrick_X6_sideOf : GoodIn wsX6_endTrick wsX6_sideOf := goodIn_r _ [9, 10, 11, 125, 126, 127, 128, 129, 130, 131, 132, 133, 134, 135, 136, 137, 138, 139, 140, 141, 142] (by decide +kernel) (by decide +kernel)
set_option maxRecDepth 20000 in
theorem gX6_endTrick_X6_sideOf : GoodIn wsX6_endTrick (wsV RX6 285 RX6 yX6_sideOf wsX6_sideOf) := goodIn_app (goodIn_of _ (by decide +kernel)) ggX6_endTrick_X6_sideOf
set_option maxRecDepth 20000 in
theorem ggX6_endTrick_X3_at : GoodIn wsX6_endTrick wsX3_at := goodIn_r _ [16, 17, 143] (by decide +kernel) (by decide +kernel)
set_option maxRecDepth 20000 in
theorem gX6_endTrick_X3_at : GoodIn wsX6_endTrick (wsV RX6 154 RX3 yX3_at wsX3_at) := goodIn_app (goodIn_of _ (by decide +kernel)) ggX6_endTrick_X3_at
set_option maxRecDepth 20000 in
theorem ggX6_endTrick_X5_cardSet : GoodIn wsX6_endTrick wsX5_cardSet := goodIn_r _ [22, 23, 24, 25, 26, 27, 28, 29, 30, 31, 8, 32, 144, 145, 146, 147] (by decide +kernel) (by decide +kernel)
set_option maxRecDepth 20000 in
theorem gX6_endTrick_X5_cardSet : GoodIn wsX6_endTrick (wsV RX6 306 RX5 yX5_cardSet wsX5_cardSet) := goodIn_app (goodIn_of _ (by decide +kernel)) ggX6_endTrick_X5_cardSet
set_option maxRecDepth 20000 in
theorem ggX6_endTrick_X3_put : GoodIn wsX6_endTrick wsX3_put := goodIn_r _ [36, 17, 143] (by decide +kernel) (by decide +kernel)
set_option maxRecDepth 20000 in
theorem gX6_endTrick_X3_put : GoodIn wsX6_endTrick (wsV RX6 158 RX3 yX3_put wsX3_put) := goodIn_app (goodIn_of _ (by decide +kernel)) ggX6_endTrick_X3_put
set_option maxRecDepth 20000 in
theorem ggX6_endTrick_X6_enterResult : GoodIn wsX6_endTrick wsX6_enterResult := goodIn_r _ [40, 41, 1, 42, 10, 11, 12, 13, 14, 15, 16, 17, 43, 44, 8, 45, 46, 47, 48, 49, 50, 51, 52, 53, 54, 55, 56, 57, 58, 59, 60, 61, 62, 63, 64, 65, 66, 67, 68, 69, 70, 71, 2, 72, 73, 74, 21, 75, 23, 24, 25, 26, 27, 28, 29, 30, 76, 77, 78, 79, 80, 5, 6, 7, 9, 81, 82, 83, 84, 85, 86, 87, 88, 89, 90, 91, 92, 93, 94, 95, 96, 97, 98, 99, 100, 101, 102, 103, 104, 105, 106, 107, 108, 109, 110, 111, 112, 113, 114, 115, 125, 126, 127, 128, 129, 130, 131, 132, 133, 134, 135, 136, 137, 138, 139, 140, 141, 142, 148, 149, 150, 143, 144, 145, 146, 147, 151, 152, 153] (by decide +kernel) (by decide +kernel)
set_option maxRecDepth 20000 in
theorem gX6_endTrick_X6_enterResult : GoodIn wsX6_endTrick (wsV RX6 309 RX6 yX6_enterResult wsX6_enterResult) := goodIn_app (goodIn_of _ (by decide +kernel)) ggX6_endTrick_X6_enterResult
set_option maxRecDepth 20000 in
theorem ggX6_endTrick_X6_endDeal : GoodIn wsX6_endTrick wsX6_endDeal := goodIn_r _ [119, 120, 4, 125, 126, 127, 128, 129, 130, 131, 132, 133, 134, 135, 136, 137, 138, 139, 140, 141, 142] (by decide +kernel) (by decide +kernel)
set_option maxRecDepth 20000 in
theorem gX6_endTrick_X6_endDeal : GoodIn wsX6_endTrick (wsV RX6 114 RX6 yX6_endDeal wsX6_endDeal) := goodIn_app (goodIn_of _ (by decide +kernel)) ggX6_endTrick_X6_endDeal
set_option maxRecDepth 20000 in
theorem ggX6_endTrick_X5_begin : GoodIn wsX6_endTrick wsX5_begin := goodIn_r _ [124, 80, 23, 144, 145, 146] (by decide +kernel) (by decide +kernel)
set_option maxRecDepth 20000 in
theorem gX6_endTrick_X5_begin : GoodIn wsX6_endTrick (wsV RX6 291 RX5 yX5_begin wsX5_begin) := goodIn_app (goodIn_of _ (by decide +kernel)) ggX6_endTrick_X5_begin
theorem dX6_endTrick_0 : decode cX6_endTrick 0 = .ok (.aload_n 0, 1) := by decide +kernel
theorem dX6_endTrick_1 : decode cX6_endTrick 1 = .ok (.iload_n 1, 1) := by decide +kernel
theorem dX6_endTrick_2 : decode cX6_endTrick 2 = .ok (.invokevirtual 285, 3) := by decide +kernel
theorem dX6_endTrick_5 : decode cX6_endTrick 5 = .ok (.istore_n 2, 1) := by decide +kernel
theorem dX6_endTrick_6 : decode cX6_endTrick 6 = .ok (.aload_n 0, 1) := by decide +kernel
theorem dX6_endTrick_7 : decode cX6_endTrick 7 = .ok (.getfield 46, 3) := by decide +kernel
theorem dX6_endTrick_10 : decode cX6_endTrick 10 = .ok (.iload_n 2, 1) := by decide +kernel
theorem dX6_endTrick_11 : decode cX6_endTrick 11 = .ok (.aload_n 0, 1) := by decide +kernel
theorem dX6_endTrick_12 : decode cX6_endTrick 12 = .ok (.getfield 46, 3) := by decide +kernel
theorem dX6_endTrick_15 : decode cX6_endTrick 15 = .ok (.iload_n 2, 1) := by decide +kernel
theorem dX6_endTrick_16 : decode cX6_endTrick 16 = .ok (.invokevirtual 154, 3) := by decide +kernel
theorem dX6_endTrick_19 : decode cX6_endTrick 19 = .ok (.aload_n 0, 1) := by decide +kernel
theorem dX6_endTrick_20 : decode cX6_endTrick 20 = .ok (.getfield 26, 3) := by decide +kernel
theorem dX6_endTrick_23 : decode cX6_endTrick 23 = .ok (.invokevirtual 306, 3) := by decide +kernel
theorem dX6_endTrick_26 : decode cX6_endTrick 26 = .ok (.lor, 1) := by decide +kernel
theorem dX6_endTrick_27 : decode cX6_endTrick 27 = .ok (.invokevirtual 158, 3) := by decide +kernel
theorem dX6_endTrick_30 : decode cX6_endTrick 30 = .ok (.aload_n 0, 1) := by decide +kernel
theorem dX6_endTrick_31 : decode cX6_endTrick 31 = .ok (.dup, 1) := by decide +kernel
theorem dX6_endTrick_32 : decode cX6_endTrick 32 = .ok (.getfield 199, 3) := by decide +kernel
theorem dX6_endTrick_35 : decode cX6_endTrick 35 = .ok (.iconst 1, 1) := by decide +kernel
theorem dX6_endTrick_36 : decode cX6_endTrick 36 = .ok (.iadd, 1) := by decide +kernel
theorem dX6_endTrick_37 : decode cX6_endTrick 37 = .ok (.putfield 199, 3) := by decide +kernel
theorem dX6_endTrick_40 : decode cX6_endTrick 40 = .ok (.aload_n 0, 1) := by decide +kernel
theorem dX6_endTrick_41 : decode cX6_endTrick 41 = .ok (.iload_n 1, 1) := by decide +kernel
theorem dX6_endTrick_42 : decode cX6_endTrick 42 = .ok (.putfield 56, 3) := by decide +kernel
theorem dX6_endTrick_45 : decode cX6_endTrick 45 = .ok (.aload_n 0, 1) := by decide +kernel
theorem dX6_endTrick_46 : decode cX6_endTrick 46 = .ok (.getfield 199, 3) := by decide +kernel
theorem dX6_endTrick_49 : decode cX6_endTrick 49 = .ok (.bipush 12, 2) := by decide +kernel
theorem dX6_endTrick_51 : decode cX6_endTrick 51 = .ok (.if_icmp .ne 12, 3) := by decide +kernel
theorem dX6_endTrick_54 : decode cX6_endTrick 54 = .ok (.aload_n 0, 1) := by decide +kernel
theorem dX6_endTrick_55 : decode cX6_endTrick 55 = .ok (.iload_n 1, 1) := by decide +kernel
theorem dX6_endTrick_56 : decode cX6_endTrick 56 = .ok (.invokevirtual 309, 3) := by decide +kernel
theorem dX6_endTrick_59 : decode cX6_endTrick 59 = .ok (.aload_n 0, 1) := by decide +kernel
theorem dX6_endTrick_60 : decode cX6_endTrick 60 = .ok (.invokevirtual 114, 3) := by decide +kernel
theorem dX6_endTrick_63 : decode cX6_endTrick 63 = .ok (.aload_n 0, 1) := by decide +kernel
theorem dX6_endTrick_64 : decode cX6_endTrick 64 = .ok (.getfield 26, 3) := by decide +kernel
theorem dX6_endTrick_67 : decode cX6_endTrick 67 = .ok (.iload_n 1, 1) := by decide +kernel
theorem dX6_endTrick_68 : decode cX6_endTrick 68 = .ok (.invokevirtual 291, 3) := by decide +kernel
theorem dX6_endTrick_71 : decode cX6_endTrick 71 = .ok (.return_, 1) := by decide +kernel
theorem dX6_endDeal_0 : decode cX6_endDeal 0 = .ok (.aload_n 0, 1) := by decide +kernel
theorem dX6_endDeal_1 : decode cX6_endDeal 1 = .ok (.iconst 0, 1) := by decide +kernel
theorem dX6_endDeal_2 : decode cX6_endDeal 2 = .ok (.putfield 53, 3) := by decide +kernel
theorem dX6_endDeal_5 : decode cX6_endDeal 5 = .ok (.aload_n 0, 1) := by decide +kernel
theorem dX6_endDeal_6 : decode cX6_endDeal 6 = .ok (.iconst (-1), 1) := by decide +kernel
theorem dX6_endDeal_7 : decode cX6_endDeal 7 = .ok (.putfield 56, 3) := by decide +kernel
theorem dX6_endDeal_10 : decode cX6_endDeal 10 = .ok (.return_, 1) := by decide +kernel
set_option maxRecDepth 20000 in
theorem ggX6_enterResult_X3_at : GoodIn wsX6_enterResult wsX3_at := goodIn_r _ [10, 11, 121] (by decide +kernel) (by decide +kernel)
set_option maxRecDepth 20000 in
theorem gX6_enterResult_X3_at : GoodIn wsX6_enterResult (wsV RX6 154 RX3 yX3_at wsX3_at) := goodIn_app (goodIn_of _ (by decide +kernel)) ggX6_enterResult_X3_at
set_option maxRecDepth 20000 in
theorem ggX6_enterResult_X6_thirdsOf : GoodIn wsX6_enterResult wsX6_thirdsOf := goodIn_r _ [15, 16, 17, 14, 18, 19, 20, 21, 22, 23, 24] (by decide +kernel) (by decide +kernel)
set_option maxRecDepth 20000 in
theorem gX6_enterResult_X6_thirdsOf : GoodIn wsX6_enterResult (va_wsS RX6 262 yX6_thirdsOf wsX6_thirdsOf) := goodIn_app (goodIn_of _ (by decide +kernel)) ggX6_enterResult_X6_thirdsOf
set_option maxRecDepth 20000 in
theorem ggX6_enterResult_X6_gamePoints : GoodIn wsX6_enterResult wsX6_gamePoints := goodIn_r _ [27, 28, 29, 30, 31, 32, 33, 14, 34, 35, 36, 37] (by decide +kernel) (by decide +kernel)
set_option maxRecDepth 20000 in
theorem gX6_enterResult_X6_gamePoints : GoodIn wsX6_enterResult (va_wsS RX6 312 yX6_gamePoints wsX6_gamePoints) := goodIn_app (goodIn_of _ (by decide +kernel)) ggX6_enterResult_X6_gamePoints
set_option maxRecDepth 20000 in
theorem ggX6_enterResult_X6_pagatPoints : GoodIn wsX6_enterResult wsX6_pagatPoints := goodIn_r _ [41, 42, 43, 44, 45, 46, 47, 48, 49, 50, 51, 52, 53, 54, 55, 56, 57, 58, 59, 60, 61, 62, 63, 14, 64, 4, 5, 65, 66, 67, 68, 69, 100, 101, 102, 103, 104, 105, 106, 107, 108, 109, 110, 111, 112, 113, 114, 115, 116, 117, 122, 123, 124, 125] (by decide +kernel) (by decide +kernel)
set_option maxRecDepth 20000 in
theorem gX6_enterResult_X6_pagatPoints : GoodIn wsX6_enterResult (wsV RX6 316 RX6 yX6_pagatPoints wsX6_pagatPoints) := goodIn_app (goodIn_of _ (by decide +kernel)) ggX6_enterResult_X6_pagatPoints
set_option maxRecDepth 20000 in
theorem ggX6_enterResult_X6_kingPoints : GoodIn wsX6_enterResult wsX6_kingPoints := goodIn_r _ [73, 74, 42, 75, 76, 77, 14, 78, 43, 44, 45, 46, 47, 48, 49, 50, 51, 52, 53, 54, 55, 56, 57, 58, 59, 60, 61, 62, 63, 64, 4, 5, 65, 66, 67, 68, 69, 100, 101, 102, 103, 104, 105, 106, 107, 108, 109, 110, 111, 112, 113, 114, 115, 116, 117, 122, 123, 124, 125] (by decide +kernel) (by decide +kernel)
set_option maxRecDepth 20000 in
theorem gX6_enterResult_X6_kingPoints : GoodIn wsX6_enterResult (wsV RX6 319 RX6 yX6_kingPoints wsX6_kingPoints) := goodIn_app (goodIn_of _ (by decide +kernel)) ggX6_enterResult_X6_kingPoints
set_option maxRecDepth 20000 in
theorem ggX6_enterResult_X6_isWon : GoodIn wsX6_enterResult wsX6_isWon := goodIn_r _ [37] (by decide +kernel) (by decide +kernel)
set_option maxRecDepth 20000 in
theorem gX6_enterResult_X6_isWon : GoodIn wsX6_enterResult (va_wsS RX6 322 yX6_isWon wsX6_isWon) := goodIn_app (goodIn_of _ (by decide +kernel)) ggX6_enterResult_X6_isWon
set_option maxRecDepth 20000 in
theorem ggX6_enterResult_X4_enter : GoodIn wsX6_enterResult wsX4_enter := goodIn_r _ [83, 84, 85, 86, 51, 52, 53, 54, 55, 87, 88, 89, 90, 91, 92, 93, 82, 94, 95, 126, 127, 128, 125] (by decide +kernel) (by decide +kernel)
set_option maxRecDepth 20000 in
theorem gX6_enterResult_X4_enter : GoodIn wsX6_enterResult (wsV RX6 325 RX4 yX4_enter wsX4_enter) := goodIn_app (goodIn_of _ (by decide +kernel)) ggX6_enterResult_X4_enter
set_option maxRecDepth 20000 in
theorem ggX6_enterResult_X4_giveRadli : GoodIn wsX6_enterResult wsX4_giveRadli := goodIn_r _ [99, 84, 86, 51, 52, 53, 54, 55, 87, 88, 89, 90, 126, 127, 128, 125] (by decide +kernel) (by decide +kernel)
set_option maxRecDepth 20000 in
theorem gX6_enterResult_X4_giveRadli : GoodIn wsX6_enterResult (wsV RX6 328 RX4 yX4_giveRadli wsX4_giveRadli) := goodIn_app (goodIn_of _ (by decide +kernel)) ggX6_enterResult_X4_giveRadli
theorem dX6_enterResult_0 : decode cX6_enterResult 0 = .ok (.aload_n 0, 1) := by decide +kernel
theorem dX6_enterResult_1 : decode cX6_enterResult 1 = .ok (.getfield 19, 3) := by decide +kernel
theorem dX6_enterResult_4 : decode cX6_enterResult 4 = .ok (.getfield 101, 3) := by decide +kernel
theorem dX6_enterResult_7 : decode cX6_enterResult 7 = .ok (.istore_n 2, 1) := by decide +kernel
theorem dX6_enterResult_8 : decode cX6_enterResult 8 = .ok (.aload_n 0, 1) := by decide +kernel
theorem dX6_enterResult_9 : decode cX6_enterResult 9 = .ok (.getfield 46, 3) := by decide +kernel
theorem dX6_enterResult_12 : decode cX6_enterResult 12 = .ok (.iconst 0, 1) := by decide +kernel
theorem dX6_enterResult_13 : decode cX6_enterResult 13 = .ok (.invokevirtual 154, 3) := by decide +kernel
theorem dX6_enterResult_16 : decode cX6_enterResult 16 = .ok (.invokestatic 262, 3) := by decide +kernel
theorem dX6_enterResult_19 : decode cX6_enterResult 19 = .ok (.istore_n 3, 1) := by decide +kernel
theorem dX6_enterResult_20 : decode cX6_enterResult 20 = .ok (.iload_n 2, 1) := by decide +kernel
theorem dX6_enterResult_21 : decode cX6_enterResult 21 = .ok (.iload_n 3, 1) := by decide +kernel
theorem dX6_enterResult_22 : decode cX6_enterResult 22 = .ok (.invokestatic 312, 3) := by decide +kernel
theorem dX6_enterResult_25 : decode cX6_enterResult 25 = .ok (.aload_n 0, 1) := by decide +kernel
theorem dX6_enterResult_26 : decode cX6_enterResult 26 = .ok (.iload_n 1, 1) := by decide +kernel
theorem dX6_enterResult_27 : decode cX6_enterResult 27 = .ok (.invokevirtual 316, 3) := by decide +kernel
theorem dX6_enterResult_30 : decode cX6_enterResult 30 = .ok (.iadd, 1) := by decide +kernel
theorem dX6_enterResult_31 : decode cX6_enterResult 31 = .ok (.aload_n 0, 1) := by decide +kernel
theorem dX6_enterResult_32 : decode cX6_enterResult 32 = .ok (.iload_n 1, 1) := by decide +kernel
theorem dX6_enterResult_33 : decode cX6_enterResult 33 = .ok (.invokevirtual 319, 3) := by decide +kernel
theorem dX6_enterResult_36 : decode cX6_enterResult 36 = .ok (.iadd, 1) := by decide +kernel
theorem dX6_enterResult_37 : decode cX6_enterResult 37 = .ok (.istore 4, 2) := by decide +kernel
theorem dX6_enterResult_39 : decode cX6_enterResult 39 = .ok (.aload_n 0, 1) := by decide +kernel
theorem dX6_enterResult_40 : decode cX6_enterResult 40 = .ok (.getfield 33, 3) := by decide +kernel
theorem dX6_enterResult_43 : decode cX6_enterResult 43 = .ok (.aload_n 0, 1) := by decide +kernel
theorem dX6_enterResult_44 : decode cX6_enterResult 44 = .ok (.getfield 59, 3) := by decide +kernel
theorem dX6_enterResult_47 : decode cX6_enterResult 47 = .ok (.aload_n 0, 1) := by decide +kernel
theorem dX6_enterResult_48 : decode cX6_enterResult 48 = .ok (.getfield 68, 3) := by decide +kernel
theorem dX6_enterResult_51 : decode cX6_enterResult 51 = .ok (.iload 4, 2) := by decide +kernel
theorem dX6_enterResult_53 : decode cX6_enterResult 53 = .ok (.iload_n 3, 1) := by decide +kernel
theorem dX6_enterResult_54 : decode cX6_enterResult 54 = .ok (.invokestatic 322, 3) := by decide +kernel
theorem dX6_enterResult_57 : decode cX6_enterResult 57 = .ok (.invokevirtual 325, 3) := by decide +kernel
theorem dX6_enterResult_60 : decode cX6_enterResult 60 = .ok (.iload_n 2, 1) := by decide +kernel
theorem dX6_enterResult_61 : decode cX6_enterResult 61 = .ok (.iconst 3, 1) := by decide +kernel
theorem dX6_enterResult_62 : decode cX6_enterResult 62 = .ok (.if_icmp .le 10, 3) := by decide +kernel
theorem dX6_enterResult_65 : decode cX6_enterResult 65 = .ok (.aload_n 0, 1) := by decide +kernel
theorem dX6_enterResult_66 : decode cX6_enterResult 66 = .ok (.getfield 33, 3) := by decide +kernel
theorem dX6_enterResult_69 : decode cX6_enterResult 69 = .ok (.invokevirtual 328, 3) := by decide +kernel
theorem dX6_enterResult_72 : decode cX6_enterResult 72 = .ok (.return_, 1) := by decide +kernel
set_option maxRecDepth 20000 in
theorem ggX6_pagatPoints_X5_playerOf : GoodIn wsX6_pagatPoints wsX5_playerOf := goodIn_r _ [6, 7, 8, 9, 10, 11, 12, 13, 14, 15, 16, 17, 5, 18, 19, 50, 51, 52, 53] (by decide +kernel) (by decide +kernel)
set_option maxRecDepth 20000 in
theorem gX6_pagatPoints_X5_playerOf : GoodIn wsX6_pagatPoints (wsV RX6 331 RX5 yX5_playerOf wsX5_playerOf) := goodIn_app (goodIn_of _ (by decide +kernel)) ggX6_pagatPoints_X5_playerOf
set_option maxRecDepth 20000 in
theorem ggX6_pagatPoints_X6_sideOf : GoodIn wsX6_pagatPoints wsX6_sideOf := goodIn_r _ [24, 25, 26, 32, 33, 34, 35, 36, 37, 38, 39, 40, 41, 42, 43, 44, 45, 46, 47, 48, 49] (by decide +kernel) (by decide +kernel)
set_option maxRecDepth 20000 in
theorem gX6_pagatPoints_X6_sideOf : GoodIn wsX6_pagatPoints (wsV RX6 285 RX6 yX6_sideOf wsX6_sideOf) := goodIn_app (goodIn_of _ (by decide +kernel)) ggX6_pagatPoints_X6_sideOf
set_option maxRecDepth 20000 in
theorem ggX6_pagatPoints_X6_isAnnounced : GoodIn wsX6_pagatPoints wsX6_isAnnounced := goodIn_r _ [30, 31, 32, 33, 34, 35, 36, 37, 38, 39, 40, 41, 42, 43, 44, 45, 46, 47, 48, 49] (by decide +kernel) (by decide +kernel)
set_option maxRecDepth 20000 in
theorem gX6_pagatPoints_X6_isAnnounced : GoodIn wsX6_pagatPoints (wsV RX6 207 RX6 yX6_isAnnounced wsX6_isAnnounced) := goodIn_app (goodIn_of _ (by decide +kernel)) ggX6_pagatPoints_X6_isAnnounced
theorem dX6_pagatPoints_0 : decode cX6_pagatPoints 0 = .ok (.aload_n 0, 1) := by decide +kernel
theorem dX6_pagatPoints_1 : decode cX6_pagatPoints 1 = .ok (.getfield 26, 3) := by decide +kernel
theorem dX6_pagatPoints_4 : decode cX6_pagatPoints 4 = .ok (.bipush 32, 2) := by decide +kernel
theorem dX6_pagatPoints_6 : decode cX6_pagatPoints 6 = .ok (.invokevirtual 331, 3) := by decide +kernel
theorem dX6_pagatPoints_9 : decode cX6_pagatPoints 9 = .ok (.istore_n 2, 1) := by decide +kernel
theorem dX6_pagatPoints_10 : decode cX6_pagatPoints 10 = .ok (.iload_n 2, 1) := by decide +kernel
theorem dX6_pagatPoints_11 : decode cX6_pagatPoints 11 = .ok (.iload_n 1, 1) := by decide +kernel
theorem dX6_pagatPoints_12 : decode cX6_pagatPoints 12 = .ok (.if_icmp .ne 7, 3) := by decide +kernel
theorem dX6_pagatPoints_15 : decode cX6_pagatPoints 15 = .ok (.iconst 1, 1) := by decide +kernel
theorem dX6_pagatPoints_16 : decode cX6_pagatPoints 16 = .ok (.goto 4, 3) := by decide +kernel
theorem dX6_pagatPoints_19 : decode cX6_pagatPoints 19 = .ok (.iconst 0, 1) := by decide +kernel
theorem dX6_pagatPoints_20 : decode cX6_pagatPoints 20 = .ok (.istore_n 3, 1) := by decide +kernel
theorem dX6_pagatPoints_21 : decode cX6_pagatPoints 21 = .ok (.iload_n 2, 1) := by decide +kernel
theorem dX6_pagatPoints_22 : decode cX6_pagatPoints 22 = .ok (.iconst (-1), 1) := by decide +kernel
theorem dX6_pagatPoints_23 : decode cX6_pagatPoints 23 = .ok (.if_icmp .eq 15, 3) := by decide +kernel
theorem dX6_pagatPoints_26 : decode cX6_pagatPoints 26 = .ok (.aload_n 0, 1) := by decide +kernel
theorem dX6_pagatPoints_27 : decode cX6_pagatPoints 27 = .ok (.iload_n 2, 1) := by decide +kernel
theorem dX6_pagatPoints_28 : decode cX6_pagatPoints 28 = .ok (.invokevirtual 285, 3) := by decide +kernel
theorem dX6_pagatPoints_31 : decode cX6_pagatPoints 31 = .ok (.ifCond .ne 7, 3) := by decide +kernel
theorem dX6_pagatPoints_34 : decode cX6_pagatPoints 34 = .ok (.iconst 1, 1) := by decide +kernel
theorem dX6_pagatPoints_35 : decode cX6_pagatPoints 35 = .ok (.goto 4, 3) := by decide +kernel
theorem dX6_pagatPoints_38 : decode cX6_pagatPoints 38 = .ok (.iconst 0, 1) := by decide +kernel
theorem dX6_pagatPoints_39 : decode cX6_pagatPoints 39 = .ok (.istore 4, 2) := by decide +kernel
theorem dX6_pagatPoints_41 : decode cX6_pagatPoints 41 = .ok (.aload_n 0, 1) := by decide +kernel
theorem dX6_pagatPoints_42 : decode cX6_pagatPoints 42 = .ok (.iconst 0, 1) := by decide +kernel
theorem dX6_pagatPoints_43 : decode cX6_pagatPoints 43 = .ok (.invokevirtual 207, 3) := by decide +kernel
theorem dX6_pagatPoints_46 : decode cX6_pagatPoints 46 = .ok (.ifCond .eq 20, 3) := by decide +kernel
theorem dX6_pagatPoints_49 : decode cX6_pagatPoints 49 = .ok (.iload_n 3, 1) := by decide +kernel
theorem dX6_pagatPoints_50 : decode cX6_pagatPoints 50 = .ok (.ifCond .eq 13, 3) := by decide +kernel
theorem dX6_pagatPoints_53 : decode cX6_pagatPoints 53 = .ok (.iload 4, 2) := by decide +kernel
theorem dX6_pagatPoints_55 : decode cX6_pagatPoints 55 = .ok (.ifCond .eq 8, 3) := by decide +kernel
theorem dX6_pagatPoints_58 : decode cX6_pagatPoints 58 = .ok (.bipush 50, 2) := by decide +kernel
theorem dX6_pagatPoints_60 : decode cX6_pagatPoints 60 = .ok (.goto 5, 3) := by decide +kernel
theorem dX6_pagatPoints_63 : decode cX6_pagatPoints 63 = .ok (.bipush (-50), 2) := by decide +kernel
theorem dX6_pagatPoints_65 : decode cX6_pagatPoints 65 = .ok (.ireturn, 1) := by decide +kernel
theorem dX6_pagatPoints_66 : decode cX6_pagatPoints 66 = .ok (.iload_n 2, 1) := by decide +kernel
theorem dX6_pagatPoints_67 : decode cX6_pagatPoints 67 = .ok (.iconst (-1), 1) := by decide +kernel
theorem dX6_pagatPoints_68 : decode cX6_pagatPoints 68 = .ok (.if_icmp .ne 5, 3) := by decide +kernel
theorem dX6_pagatPoints_71 : decode cX6_pagatPoints 71 = .ok (.iconst 0, 1) := by decide +kernel
theorem dX6_pagatPoints_72 : decode cX6_pagatPoints 72 = .ok (.ireturn, 1) := by decide +kernel
theorem dX6_pagatPoints_73 : decode cX6_pagatPoints 73 = .ok (.iload_n 3, 1) := by decide +kernel
theorem dX6_pagatPoints_74 : decode cX6_pagatPoints 74 = .ok (.iload 4, 2) := by decide +kernel
theorem dX6_pagatPoints_76 : decode cX6_pagatPoints 76 = .ok (.if_icmp .ne 8, 3) := by decide +kernel
theorem dX6_pagatPoints_79 : decode cX6_pagatPoints 79 = .ok (.bipush 25, 2) := by decide +kernel
theorem dX6_pagatPoints_81 : decode cX6_pagatPoints 81 = .ok (.goto 5, 3) := by decide +kernel
theorem dX6_pagatPoints_84 : decode cX6_pagatPoints 84 = .ok (.bipush (-25), 2) := by decide +kernel
theorem dX6_pagatPoints_86 : decode cX6_pagatPoints 86 = .ok (.ireturn, 1) := by decide +kernel
set_option maxRecDepth 20000 in
theorem ggX6_kingPoints_X6_calledKing : GoodIn wsX6_kingPoints wsX6_calledKing := goodIn_r _ [7, 1, 37, 38, 39, 40, 41, 42, 43, 44, 45, 46, 47, 48, 49, 50, 51, 52, 53, 54] (by decide +kernel) (by decide +kernel)
set_option maxRecDepth 20000 in
theorem gX6_kingPoints_X6_calledKing : GoodIn wsX6_kingPoints (wsV RX6 133 RX6 yX6_calledKing wsX6_calledKing) := goodIn_app (goodIn_of _ (by decide +kernel)) ggX6_kingPoints_X6_calledKing
set_option maxRecDepth 20000 in
theorem ggX6_kingPoints_X5_playerOf : GoodIn wsX6_kingPoints wsX5_playerOf := goodIn_r _ [12, 13, 14, 15, 16, 17, 18, 19, 20, 21, 22, 23, 11, 24, 25, 55, 56, 57, 58] (by decide +kernel) (by decide +kernel)
set_option maxRecDepth 20000 in
theorem gX6_kingPoints_X5_playerOf : GoodIn wsX6_kingPoints (wsV RX6 331 RX5 yX5_playerOf wsX5_playerOf) := goodIn_app (goodIn_of _ (by decide +kernel)) ggX6_kingPoints_X5_playerOf
set_option maxRecDepth 20000 in
theorem ggX6_kingPoints_X6_sideOf : GoodIn wsX6_kingPoints wsX6_sideOf := goodIn_r _ [29, 30, 31, 37, 38, 39, 40, 41, 42, 43, 44, 45, 46, 47, 48, 49, 50, 51, 52, 53, 54] (by decide +kernel) (by decide +kernel)
set_option maxRecDepth 20000 in
theorem gX6_kingPoints_X6_sideOf : GoodIn wsX6_kingPoints (wsV RX6 285 RX6 yX6_sideOf wsX6_sideOf) := goodIn_app (goodIn_of _ (by decide +kernel)) ggX6_kingPoints_X6_sideOf
set_option maxRecDepth 20000 in
theorem ggX6_kingPoints_X6_isAnnounced : GoodIn wsX6_kingPoints wsX6_isAnnounced := goodIn_r _ [35, 36, 37, 38, 39, 40, 41, 42, 43, 44, 45, 46, 47, 48, 49, 50, 51, 52, 53, 54] (by decide +kernel) (by decide +kernel)
set_option maxRecDepth 20000 in
theorem gX6_kingPoints_X6_isAnnounced : GoodIn wsX6_kingPoints (wsV RX6 207 RX6 yX6_isAnnounced wsX6_isAnnounced) := goodIn_app (goodIn_of _ (by decide +kernel)) ggX6_kingPoints_X6_isAnnounced
theorem dX6_kingPoints_0 : decode cX6_kingPoints 0 = .ok (.aload_n 0, 1) := by decide +kernel
theorem dX6_kingPoints_1 : decode cX6_kingPoints 1 = .ok (.getfield 62, 3) := by decide +kernel
theorem dX6_kingPoints_4 : decode cX6_kingPoints 4 = .ok (.iconst (-1), 1) := by decide +kernel
theorem dX6_kingPoints_5 : decode cX6_kingPoints 5 = .ok (.if_icmp .eq 22, 3) := by decide +kernel
theorem dX6_kingPoints_8 : decode cX6_kingPoints 8 = .ok (.aload_n 0, 1) := by decide +kernel
theorem dX6_kingPoints_9 : decode cX6_kingPoints 9 = .ok (.getfield 26, 3) := by decide +kernel
theorem dX6_kingPoints_12 : decode cX6_kingPoints 12 = .ok (.aload_n 0, 1) := by decide +kernel
theorem dX6_kingPoints_13 : decode cX6_kingPoints 13 = .ok (.invokevirtual 133, 3) := by decide +kernel
theorem dX6_kingPoints_16 : decode cX6_kingPoints 16 = .ok (.invokevirtual 331, 3) := by decide +kernel
theorem dX6_kingPoints_19 : decode cX6_kingPoints 19 = .ok (.iconst (-1), 1) := by decide +kernel
theorem dX6_kingPoints_20 : decode cX6_kingPoints 20 = .ok (.if_icmp .eq 7, 3) := by decide +kernel
theorem dX6_kingPoints_23 : decode cX6_kingPoints 23 = .ok (.iconst 1, 1) := by decide +kernel
theorem dX6_kingPoints_24 : decode cX6_kingPoints 24 = .ok (.goto 4, 3) := by decide +kernel
theorem dX6_kingPoints_27 : decode cX6_kingPoints 27 = .ok (.iconst 0, 1) := by decide +kernel
theorem dX6_kingPoints_28 : decode cX6_kingPoints 28 = .ok (.istore_n 2, 1) := by decide +kernel
theorem dX6_kingPoints_29 : decode cX6_kingPoints 29 = .ok (.iload_n 2, 1) := by decide +kernel
theorem dX6_kingPoints_30 : decode cX6_kingPoints 30 = .ok (.ifCond .eq 15, 3) := by decide +kernel
theorem dX6_kingPoints_33 : decode cX6_kingPoints 33 = .ok (.aload_n 0, 1) := by decide +kernel
theorem dX6_kingPoints_34 : decode cX6_kingPoints 34 = .ok (.iload_n 1, 1) := by decide +kernel
theorem dX6_kingPoints_35 : decode cX6_kingPoints 35 = .ok (.invokevirtual 285, 3) := by decide +kernel
theorem dX6_kingPoints_38 : decode cX6_kingPoints 38 = .ok (.ifCond .ne 7, 3) := by decide +kernel
theorem dX6_kingPoints_41 : decode cX6_kingPoints 41 = .ok (.iconst 1, 1) := by decide +kernel
theorem dX6_kingPoints_42 : decode cX6_kingPoints 42 = .ok (.goto 4, 3) := by decide +kernel
theorem dX6_kingPoints_45 : decode cX6_kingPoints 45 = .ok (.iconst 0, 1) := by decide +kernel
theorem dX6_kingPoints_46 : decode cX6_kingPoints 46 = .ok (.istore_n 3, 1) := by decide +kernel
theorem dX6_kingPoints_47 : decode cX6_kingPoints 47 = .ok (.aload_n 0, 1) := by decide +kernel
theorem dX6_kingPoints_48 : decode cX6_kingPoints 48 = .ok (.iconst 1, 1) := by decide +kernel
theorem dX6_kingPoints_49 : decode cX6_kingPoints 49 = .ok (.invokevirtual 207, 3) := by decide +kernel
theorem dX6_kingPoints_52 : decode cX6_kingPoints 52 = .ok (.ifCond .eq 15, 3) := by decide +kernel
theorem dX6_kingPoints_55 : decode cX6_kingPoints 55 = .ok (.iload_n 3, 1) := by decide +kernel
theorem dX6_kingPoints_56 : decode cX6_kingPoints 56 = .ok (.ifCond .eq 8, 3) := by decide +kernel
theorem dX6_kingPoints_59 : decode cX6_kingPoints 59 = .ok (.bipush 20, 2) := by decide +kernel
theorem dX6_kingPoints_61 : decode cX6_kingPoints 61 = .ok (.goto 5, 3) := by decide +kernel
theorem dX6_kingPoints_64 : decode cX6_kingPoints 64 = .ok (.bipush (-20), 2) := by decide +kernel
theorem dX6_kingPoints_66 : decode cX6_kingPoints 66 = .ok (.ireturn, 1) := by decide +kernel
theorem dX6_kingPoints_67 : decode cX6_kingPoints 67 = .ok (.iload_n 2, 1) := by decide +kernel
theorem dX6_kingPoints_68 : decode cX6_kingPoints 68 = .ok (.ifCond .ne 5, 3) := by decide +kernel
theorem dX6_kingPoints_71 : decode cX6_kingPoints 71 = .ok (.iconst 0, 1) := by decide +kernel
theorem dX6_kingPoints_72 : decode cX6_kingPoints 72 = .ok (.ireturn, 1) := by decide +kernel
theorem dX6_kingPoints_73 : decode cX6_kingPoints 73 = .ok (.iload_n 3, 1) := by decide +kernel
theorem dX6_kingPoints_74 : decode cX6_kingPoints 74 = .ok (.ifCond .eq 8, 3) := by decide +kernel
theorem dX6_kingPoints_77 : decode cX6_kingPoints 77 = .ok (.bipush 10, 2) := by decide +kernel
theorem dX6_kingPoints_79 : decode cX6_kingPoints 79 = .ok (.goto 5, 3) := by decide +kernel
theorem dX6_kingPoints_82 : decode cX6_kingPoints 82 = .ok (.bipush (-10), 2) := by decide +kernel
theorem dX6_kingPoints_84 : decode cX6_kingPoints 84 = .ok (.ireturn, 1) := by decide +kernel
set_option maxRecDepth 20000 in
theorem ggX6_groupsNow_X6_groupsAt : GoodIn wsX6_groupsNow wsX6_groupsAt := goodIn_r _ [6] (by decide +kernel) (by decide +kernel)
set_option maxRecDepth 20000 in
theorem gX6_groupsNow_X6_groupsAt : GoodIn wsX6_groupsNow (va_wsS RX6 334 yX6_groupsAt wsX6_groupsAt) := goodIn_app (goodIn_of _ (by decide +kernel)) ggX6_groupsNow_X6_groupsAt
theorem dX6_groupsNow_0 : decode cX6_groupsNow 0 = .ok (.aload_n 0, 1) := by decide +kernel
theorem dX6_groupsNow_1 : decode cX6_groupsNow 1 = .ok (.getfield 53, 3) := by decide +kernel
theorem dX6_groupsNow_4 : decode cX6_groupsNow 4 = .ok (.iconst 3, 1) := by decide +kernel
theorem dX6_groupsNow_5 : decode cX6_groupsNow 5 = .ok (.if_icmp .ne 16, 3) := by decide +kernel
theorem dX6_groupsNow_8 : decode cX6_groupsNow 8 = .ok (.aload_n 0, 1) := by decide +kernel
theorem dX6_groupsNow_9 : decode cX6_groupsNow 9 = .ok (.getfield 19, 3) := by decide +kernel
theorem dX6_groupsNow_12 : decode cX6_groupsNow 12 = .ok (.getfield 101, 3) := by decide +kernel
theorem dX6_groupsNow_15 : decode cX6_groupsNow 15 = .ok (.invokestatic 334, 3) := by decide +kernel
theorem dX6_groupsNow_18 : decode cX6_groupsNow 18 = .ok (.goto 5, 3) := by decide +kernel
theorem dX6_groupsNow_21 : decode cX6_groupsNow 21 = .ok (.bipush 6, 2) := by decide +kernel
theorem dX6_groupsNow_23 : decode cX6_groupsNow 23 = .ok (.ireturn, 1) := by decide +kernel
set_option maxRecDepth 20000 in
theorem ggX6_playableNow_X3_at : GoodIn wsX6_playableNow wsX3_at := goodIn_r _ [9, 10, 53] (by decide +kernel) (by decide +kernel)
set_option maxRecDepth 20000 in
theorem gX6_playableNow_X3_at : GoodIn wsX6_playableNow (wsV RX6 154 RX3 yX3_at wsX3_at) := goodIn_app (goodIn_of _ (by decide +kernel)) ggX6_playableNow_X3_at
set_option maxRecDepth 20000 in
theorem ggX6_playableNow_X5_ledSuit : GoodIn wsX6_playableNow wsX5_ledSuit := goodIn_r _ [15, 16, 17, 18, 19, 20, 21, 22, 23, 24, 25, 26, 54, 55, 56, 57] (by decide +kernel) (by decide +kernel)
set_option maxRecDepth 20000 in
theorem gX6_playableNow_X5_ledSuit : GoodIn wsX6_playableNow (wsV RX6 337 RX5 yX5_ledSuit wsX5_ledSuit) := goodIn_app (goodIn_of _ (by decide +kernel)) ggX6_playableNow_X5_ledSuit
set_option maxRecDepth 20000 in
theorem ggX6_playableNow_X6_playableOf : GoodIn wsX6_playableNow wsX6_playableOf := goodIn_r _ [29, 30, 31, 25, 32, 33, 34] (by decide +kernel) (by decide +kernel)
set_option maxRecDepth 20000 in
theorem gX6_playableNow_X6_playableOf : GoodIn wsX6_playableNow (va_wsS RX6 340 yX6_playableOf wsX6_playableOf) := goodIn_app (goodIn_of _ (by decide +kernel)) ggX6_playableNow_X6_playableOf
theorem dX6_playableNow_0 : decode cX6_playableNow 0 = .ok (.aload_n 0, 1) := by decide +kernel
theorem dX6_playableNow_1 : decode cX6_playableNow 1 = .ok (.getfield 53, 3) := by decide +kernel
theorem dX6_playableNow_4 : decode cX6_playableNow 4 = .ok (.iconst 5, 1) := by decide +kernel
theorem dX6_playableNow_5 : decode cX6_playableNow 5 = .ok (.if_icmp .ne 27, 3) := by decide +kernel
theorem dX6_playableNow_8 : decode cX6_playableNow 8 = .ok (.aload_n 0, 1) := by decide +kernel
theorem dX6_playableNow_9 : decode cX6_playableNow 9 = .ok (.getfield 42, 3) := by decide +kernel
theorem dX6_playableNow_12 : decode cX6_playableNow 12 = .ok (.aload_n 0, 1) := by decide +kernel
theorem dX6_playableNow_13 : decode cX6_playableNow 13 = .ok (.getfield 56, 3) := by decide +kernel
theorem dX6_playableNow_16 : decode cX6_playableNow 16 = .ok (.invokevirtual 154, 3) := by decide +kernel
theorem dX6_playableNow_19 : decode cX6_playableNow 19 = .ok (.aload_n 0, 1) := by decide +kernel
theorem dX6_playableNow_20 : decode cX6_playableNow 20 = .ok (.getfield 26, 3) := by decide +kernel
theorem dX6_playableNow_23 : decode cX6_playableNow 23 = .ok (.invokevirtual 337, 3) := by decide +kernel
theorem dX6_playableNow_26 : decode cX6_playableNow 26 = .ok (.invokestatic 340, 3) := by decide +kernel
theorem dX6_playableNow_29 : decode cX6_playableNow 29 = .ok (.goto 4, 3) := by decide +kernel
theorem dX6_playableNow_32 : decode cX6_playableNow 32 = .ok (.lconst 0, 1) := by decide +kernel
theorem dX6_playableNow_33 : decode cX6_playableNow 33 = .ok (.lreturn, 1) := by decide +kernel
theorem dX6_isAnnounced_0 : decode cX6_isAnnounced 0 = .ok (.aload_n 0, 1) := by decide +kernel
theorem dX6_isAnnounced_1 : decode cX6_isAnnounced 1 = .ok (.getfield 214, 3) := by decide +kernel
theorem dX6_isAnnounced_4 : decode cX6_isAnnounced 4 = .ok (.iload_n 1, 1) := by decide +kernel
theorem dX6_isAnnounced_5 : decode cX6_isAnnounced 5 = .ok (.ishr, 1) := by decide +kernel
theorem dX6_isAnnounced_6 : decode cX6_isAnnounced 6 = .ok (.iconst 1, 1) := by decide +kernel
theorem dX6_isAnnounced_7 : decode cX6_isAnnounced 7 = .ok (.iand, 1) := by decide +kernel
theorem dX6_isAnnounced_8 : decode cX6_isAnnounced 8 = .ok (.iconst 1, 1) := by decide +kernel
theorem dX6_isAnnounced_9 : decode cX6_isAnnounced 9 = .ok (.if_icmp .ne 7, 3) := by decide +kernel
theorem dX6_isAnnounced_12 : decode cX6_isAnnounced 12 = .ok (.iconst 1, 1) := by decide +kernel
theorem dX6_isAnnounced_13 : decode cX6_isAnnounced 13 = .ok (.goto 4, 3) := by decide +kernel
theorem dX6_isAnnounced_16 : decode cX6_isAnnounced 16 = .ok (.iconst 0, 1) := by decide +kernel
theorem dX6_isAnnounced_17 : decode cX6_isAnnounced 17 = .ok (.ireturn, 1) := by decide +kernel
theorem dX6_calledKing_0 : decode cX6_calledKing 0 = .ok (.bipush 8, 2) := by decide +kernel
theorem dX6_calledKing_2 : decode cX6_calledKing 2 = .ok (.aload_n 0, 1) := by decide +kernel
theorem dX6_calledKing_3 : decode cX6_calledKing 3 = .ok (.getfield 62, 3) := by decide +kernel
theorem dX6_calledKing_6 : decode cX6_calledKing 6 = .ok (.imul, 1) := by decide +kernel
theorem dX6_calledKing_7 : decode cX6_calledKing 7 = .ok (.bipush 7, 2) := by decide +kernel
theorem dX6_calledKing_9 : decode cX6_calledKing 9 = .ok (.iadd, 1) := by decide +kernel
theorem dX6_calledKing_10 : decode cX6_calledKing 10 = .ok (.ireturn, 1) := by decide +kernel
set_option maxRecDepth 20000 in
theorem ggX6_ownerOf_X3_at : GoodIn wsX6_ownerOf wsX3_at := goodIn_r _ [6, 7, 30] (by decide +kernel) (by decide +kernel)
set_option maxRecDepth 20000 in
theorem gX6_ownerOf_X3_at : GoodIn wsX6_ownerOf (wsV RX6 154 RX3 yX3_at wsX3_at) := goodIn_app (goodIn_of _ (by decide +kernel)) ggX6_ownerOf_X3_at
set_option maxRecDepth 20000 in
theorem ggX6_ownerOf_X6_holds : GoodIn wsX6_ownerOf wsX6_holds := goodIn_r _ [11] (by decide +kernel) (by decide +kernel)
set_option maxRecDepth 20000 in
theorem gX6_ownerOf_X6_holds : GoodIn wsX6_ownerOf (va_wsS RX6 179 yX6_holds wsX6_holds) := goodIn_app (goodIn_of _ (by decide +kernel)) ggX6_ownerOf_X6_holds
theorem dX6_ownerOf_0 : decode cX6_ownerOf 0 = .ok (.iconst 0, 1) := by decide +kernel
theorem dX6_ownerOf_1 : decode cX6_ownerOf 1 = .ok (.istore_n 2, 1) := by decide +kernel
theorem dX6_ownerOf_2 : decode cX6_ownerOf 2 = .ok (.iload_n 2, 1) := by decide +kernel
theorem dX6_ownerOf_3 : decode cX6_ownerOf 3 = .ok (.iconst 4, 1) := by decide +kernel
theorem dX6_ownerOf_4 : decode cX6_ownerOf 4 = .ok (.if_icmp .ge 26, 3) := by decide +kernel
theorem dX6_ownerOf_7 : decode cX6_ownerOf 7 = .ok (.aload_n 0, 1) := by decide +kernel
theorem dX6_ownerOf_8 : decode cX6_ownerOf 8 = .ok (.getfield 42, 3) := by decide +kernel
theorem dX6_ownerOf_11 : decode cX6_ownerOf 11 = .ok (.iload_n 2, 1) := by decide +kernel
theorem dX6_ownerOf_12 : decode cX6_ownerOf 12 = .ok (.invokevirtual 154, 3) := by decide +kernel
theorem dX6_ownerOf_15 : decode cX6_ownerOf 15 = .ok (.iload_n 1, 1) := by decide +kernel
theorem dX6_ownerOf_16 : decode cX6_ownerOf 16 = .ok (.invokestatic 179, 3) := by decide +kernel
theorem dX6_ownerOf_19 : decode cX6_ownerOf 19 = .ok (.ifCond .eq 5, 3) := by decide +kernel
theorem dX6_ownerOf_22 : decode cX6_ownerOf 22 = .ok (.iload_n 2, 1) := by decide +kernel
theorem dX6_ownerOf_23 : decode cX6_ownerOf 23 = .ok (.ireturn, 1) := by decide +kernel
theorem dX6_ownerOf_24 : decode cX6_ownerOf 24 = .ok (.iinc 2 1, 3) := by decide +kernel
theorem dX6_ownerOf_27 : decode cX6_ownerOf 27 = .ok (.goto (-25), 3) := by decide +kernel
theorem dX6_ownerOf_30 : decode cX6_ownerOf 30 = .ok (.iconst (-1), 1) := by decide +kernel
theorem dX6_ownerOf_31 : decode cX6_ownerOf 31 = .ok (.ireturn, 1) := by decide +kernel
theorem dX6_sideOf_0 : decode cX6_sideOf 0 = .ok (.iload_n 1, 1) := by decide +kernel
theorem dX6_sideOf_1 : decode cX6_sideOf 1 = .ok (.aload_n 0, 1) := by decide +kernel
theorem dX6_sideOf_2 : decode cX6_sideOf 2 = .ok (.getfield 59, 3) := by decide +kernel
theorem dX6_sideOf_5 : decode cX6_sideOf 5 = .ok (.if_icmp .eq 11, 3) := by decide +kernel
theorem dX6_sideOf_8 : decode cX6_sideOf 8 = .ok (.iload_n 1, 1) := by decide +kernel
theorem dX6_sideOf_9 : decode cX6_sideOf 9 = .ok (.aload_n 0, 1) := by decide +kernel
theorem dX6_sideOf_10 : decode cX6_sideOf 10 = .ok (.getfield 68, 3) := by decide +kernel
theorem dX6_sideOf_13 : decode cX6_sideOf 13 = .ok (.if_icmp .ne 7, 3) := by decide +kernel
theorem dX6_sideOf_16 : decode cX6_sideOf 16 = .ok (.iconst 0, 1) := by decide +kernel
theorem dX6_sideOf_17 : decode cX6_sideOf 17 = .ok (.goto 4, 3) := by decide +kernel
theorem dX6_sideOf_20 : decode cX6_sideOf 20 = .ok (.iconst 1, 1) := by decide +kernel
theorem dX6_sideOf_21 : decode cX6_sideOf 21 = .ok (.ireturn, 1) := by decide +kernel
set_option maxRecDepth 20000 in
theorem ggX6_sidesAreOpen_X3_at : GoodIn wsX6_sidesAreOpen wsX3_at := goodIn_r _ [8, 9, 36] (by decide +kernel) (by decide +kernel)
set_option maxRecDepth 20000 in
theorem gX6_sidesAreOpen_X3_at : GoodIn wsX6_sidesAreOpen (wsV RX6 154 RX3 yX3_at wsX3_at) := goodIn_app (goodIn_of _ (by decide +kernel)) ggX6_sidesAreOpen_X3_at
set_option maxRecDepth 20000 in
theorem ggX6_sidesAreOpen_X6_calledKing : GoodIn wsX6_sidesAreOpen wsX6_calledKing := goodIn_r _ [14, 1, 18, 19, 20, 21, 22, 23, 24, 25, 26, 27, 28, 29, 30, 31, 32, 33, 34, 35] (by decide +kernel) (by decide +kernel)
set_option maxRecDepth 20000 in
theorem gX6_sidesAreOpen_X6_calledKing : GoodIn wsX6_sidesAreOpen (wsV RX6 133 RX6 yX6_calledKing wsX6_calledKing) := goodIn_app (goodIn_of _ (by decide +kernel)) ggX6_sidesAreOpen_X6_calledKing
set_option maxRecDepth 20000 in
theorem ggX6_sidesAreOpen_X6_holds : GoodIn wsX6_sidesAreOpen wsX6_holds := goodIn_r _ [17] (by decide +kernel) (by decide +kernel)
set_option maxRecDepth 20000 in
theorem gX6_sidesAreOpen_X6_holds : GoodIn wsX6_sidesAreOpen (va_wsS RX6 179 yX6_holds wsX6_holds) := goodIn_app (goodIn_of _ (by decide +kernel)) ggX6_sidesAreOpen_X6_holds
theorem dX6_sidesAreOpen_0 : decode cX6_sidesAreOpen 0 = .ok (.aload_n 0, 1) := by decide +kernel
theorem dX6_sidesAreOpen_1 : decode cX6_sidesAreOpen 1 = .ok (.getfield 62, 3) := by decide +kernel
theorem dX6_sidesAreOpen_4 : decode cX6_sidesAreOpen 4 = .ok (.iconst (-1), 1) := by decide +kernel
theorem dX6_sidesAreOpen_5 : decode cX6_sidesAreOpen 5 = .ok (.if_icmp .eq 32, 3) := by decide +kernel
theorem dX6_sidesAreOpen_8 : decode cX6_sidesAreOpen 8 = .ok (.aload_n 0, 1) := by decide +kernel
theorem dX6_sidesAreOpen_9 : decode cX6_sidesAreOpen 9 = .ok (.getfield 65, 3) := by decide +kernel
theorem dX6_sidesAreOpen_12 : decode cX6_sidesAreOpen 12 = .ok (.iconst (-1), 1) := by decide +kernel
theorem dX6_sidesAreOpen_13 : decode cX6_sidesAreOpen 13 = .ok (.if_icmp .eq 24, 3) := by decide +kernel
theorem dX6_sidesAreOpen_16 : decode cX6_sidesAreOpen 16 = .ok (.aload_n 0, 1) := by decide +kernel
theorem dX6_sidesAreOpen_17 : decode cX6_sidesAreOpen 17 = .ok (.getfield 42, 3) := by decide +kernel
theorem dX6_sidesAreOpen_20 : decode cX6_sidesAreOpen 20 = .ok (.aload_n 0, 1) := by decide +kernel
theorem dX6_sidesAreOpen_21 : decode cX6_sidesAreOpen 21 = .ok (.getfield 65, 3) := by decide +kernel
theorem dX6_sidesAreOpen_24 : decode cX6_sidesAreOpen 24 = .ok (.invokevirtual 154, 3) := by decide +kernel
theorem dX6_sidesAreOpen_27 : decode cX6_sidesAreOpen 27 = .ok (.aload_n 0, 1) := by decide +kernel
theorem dX6_sidesAreOpen_28 : decode cX6_sidesAreOpen 28 = .ok (.invokevirtual 133, 3) := by decide +kernel
theorem dX6_sidesAreOpen_31 : decode cX6_sidesAreOpen 31 = .ok (.invokestatic 179, 3) := by decide +kernel
theorem dX6_sidesAreOpen_34 : decode cX6_sidesAreOpen 34 = .ok (.ifCond .ne 7, 3) := by decide +kernel
theorem dX6_sidesAreOpen_37 : decode cX6_sidesAreOpen 37 = .ok (.iconst 1, 1) := by decide +kernel
theorem dX6_sidesAreOpen_38 : decode cX6_sidesAreOpen 38 = .ok (.goto 4, 3) := by decide +kernel
theorem dX6_sidesAreOpen_41 : decode cX6_sidesAreOpen 41 = .ok (.iconst 0, 1) := by decide +kernel
theorem dX6_sidesAreOpen_42 : decode cX6_sidesAreOpen 42 = .ok (.ireturn, 1) := by decide +kernel
theorem dX6_isPlayer_0 : decode cX6_isPlayer 0 = .ok (.iload_n 0, 1) := by decide +kernel
theorem dX6_isPlayer_1 : decode cX6_isPlayer 1 = .ok (.ifCond .lt 12, 3) := by decide +kernel
theorem dX6_isPlayer_4 : decode cX6_isPlayer 4 = .ok (.iload_n 0, 1) := by decide +kernel
theorem dX6_isPlayer_5 : decode cX6_isPlayer 5 = .ok (.iconst 4, 1) := by decide +kernel
theorem dX6_isPlayer_6 : decode cX6_isPlayer 6 = .ok (.if_icmp .ge 7, 3) := by decide +kernel
theorem dX6_isPlayer_9 : decode cX6_isPlayer 9 = .ok (.iconst 1, 1) := by decide +kernel
theorem dX6_isPlayer_10 : decode cX6_isPlayer 10 = .ok (.goto 4, 3) := by decide +kernel
theorem dX6_isPlayer_13 : decode cX6_isPlayer 13 = .ok (.iconst 0, 1) := by decide +kernel
theorem dX6_isPlayer_14 : decode cX6_isPlayer 14 = .ok (.ireturn, 1) := by decide +kernel
theorem dX6_isCard_0 : decode cX6_isCard 0 = .ok (.iload_n 0, 1) := by decide +kernel
theorem dX6_isCard_1 : decode cX6_isCard 1 = .ok (.ifCond .lt 13, 3) := by decide +kernel
theorem dX6_isCard_4 : decode cX6_isCard 4 = .ok (.iload_n 0, 1) := by decide +kernel
theorem dX6_isCard_5 : decode cX6_isCard 5 = .ok (.bipush 54, 2) := by decide +kernel
theorem dX6_isCard_7 : decode cX6_isCard 7 = .ok (.if_icmp .ge 7, 3) := by decide +kernel
theorem dX6_isCard_10 : decode cX6_isCard 10 = .ok (.iconst 1, 1) := by decide +kernel
theorem dX6_isCard_11 : decode cX6_isCard 11 = .ok (.goto 4, 3) := by decide +kernel
theorem dX6_isCard_14 : decode cX6_isCard 14 = .ok (.iconst 0, 1) := by decide +kernel
theorem dX6_isCard_15 : decode cX6_isCard 15 = .ok (.ireturn, 1) := by decide +kernel
theorem dX6_isSide_0 : decode cX6_isSide 0 = .ok (.iload_n 0, 1) := by decide +kernel
theorem dX6_isSide_1 : decode cX6_isSide 1 = .ok (.ifCond .lt 12, 3) := by decide +kernel
theorem dX6_isSide_4 : decode cX6_isSide 4 = .ok (.iload_n 0, 1) := by decide +kernel
theorem dX6_isSide_5 : decode cX6_isSide 5 = .ok (.iconst 2, 1) := by decide +kernel
theorem dX6_isSide_6 : decode cX6_isSide 6 = .ok (.if_icmp .ge 7, 3) := by decide +kernel
theorem dX6_isSide_9 : decode cX6_isSide 9 = .ok (.iconst 1, 1) := by decide +kernel
theorem dX6_isSide_10 : decode cX6_isSide 10 = .ok (.goto 4, 3) := by decide +kernel
theorem dX6_isSide_13 : decode cX6_isSide 13 = .ok (.iconst 0, 1) := by decide +kernel
theorem dX6_isSide_14 : decode cX6_isSide 14 = .ok (.ireturn, 1) := by decide +kernel
theorem dX6_behind_0 : decode cX6_behind 0 = .ok (.iload_n 0, 1) := by decide +kernel
theorem dX6_behind_1 : decode cX6_behind 1 = .ok (.iconst 1, 1) := by decide +kernel
theorem dX6_behind_2 : decode cX6_behind 2 = .ok (.iadd, 1) := by decide +kernel
theorem dX6_behind_3 : decode cX6_behind 3 = .ok (.iconst 4, 1) := by decide +kernel
theorem dX6_behind_4 : decode cX6_behind 4 = .ok (.irem, 1) := by decide +kernel
theorem dX6_behind_5 : decode cX6_behind 5 = .ok (.ireturn, 1) := by decide +kernel
theorem dX6_suitOf_0 : decode cX6_suitOf 0 = .ok (.iload_n 0, 1) := by decide +kernel
theorem dX6_suitOf_1 : decode cX6_suitOf 1 = .ok (.bipush 32, 2) := by decide +kernel
theorem dX6_suitOf_3 : decode cX6_suitOf 3 = .ok (.if_icmp .ge 10, 3) := by decide +kernel
theorem dX6_suitOf_6 : decode cX6_suitOf 6 = .ok (.iload_n 0, 1) := by decide +kernel
theorem dX6_suitOf_7 : decode cX6_suitOf 7 = .ok (.bipush 8, 2) := by decide +kernel
theorem dX6_suitOf_9 : decode cX6_suitOf 9 = .ok (.idiv, 1) := by decide +kernel
theorem dX6_suitOf_10 : decode cX6_suitOf 10 = .ok (.goto 4, 3) := by decide +kernel
theorem dX6_suitOf_13 : decode cX6_suitOf 13 = .ok (.iconst 4, 1) := by decide +kernel
theorem dX6_suitOf_14 : decode cX6_suitOf 14 = .ok (.ireturn, 1) := by decide +kernel
set_option maxRecDepth 20000 in
theorem ggX6_worth_X6_suitOf : GoodIn wsX6_worth wsX6_suitOf := goodIn_r _ [4] (by decide +kernel) (by decide +kernel)
set_option maxRecDepth 20000 in
theorem gX6_worth_X6_suitOf : GoodIn wsX6_worth (va_wsS RX6 344 yX6_suitOf wsX6_suitOf) := goodIn_app (goodIn_of _ (by decide +kernel)) ggX6_worth_X6_suitOf
theorem dX6_worth_0 : decode cX6_worth 0 = .ok (.iload_n 0, 1) := by decide +kernel
theorem dX6_worth_1 : decode cX6_worth 1 = .ok (.invokestatic 344, 3) := by decide +kernel
theorem dX6_worth_4 : decode cX6_worth 4 = .ok (.iconst 4, 1) := by decide +kernel
theorem dX6_worth_5 : decode cX6_worth 5 = .ok (.if_icmp .ne 21, 3) := by decide +kernel
theorem dX6_worth_8 : decode cX6_worth 8 = .ok (.iload_n 0, 1) := by decide +kernel
theorem dX6_worth_9 : decode cX6_worth 9 = .ok (.bipush 32, 2) := by decide +kernel
theorem dX6_worth_11 : decode cX6_worth 11 = .ok (.if_icmp .eq 9, 3) := by decide +kernel
theorem dX6_worth_14 : decode cX6_worth 14 = .ok (.iload_n 0, 1) := by decide +kernel
theorem dX6_worth_15 : decode cX6_worth 15 = .ok (.bipush 52, 2) := by decide +kernel
theorem dX6_worth_17 : decode cX6_worth 17 = .ok (.if_icmp .lt 7, 3) := by decide +kernel
theorem dX6_worth_20 : decode cX6_worth 20 = .ok (.iconst 5, 1) := by decide +kernel
theorem dX6_worth_21 : decode cX6_worth 21 = .ok (.goto 4, 3) := by decide +kernel
theorem dX6_worth_24 : decode cX6_worth 24 = .ok (.iconst 1, 1) := by decide +kernel
theorem dX6_worth_25 : decode cX6_worth 25 = .ok (.ireturn, 1) := by decide +kernel
theorem dX6_worth_26 : decode cX6_worth 26 = .ok (.iload_n 0, 1) := by decide +kernel
theorem dX6_worth_27 : decode cX6_worth 27 = .ok (.bipush 8, 2) := by decide +kernel
theorem dX6_worth_29 : decode cX6_worth 29 = .ok (.irem, 1) := by decide +kernel
theorem dX6_worth_30 : decode cX6_worth 30 = .ok (.istore_n 1, 1) := by decide +kernel
theorem dX6_worth_31 : decode cX6_worth 31 = .ok (.iload_n 1, 1) := by decide +kernel
theorem dX6_worth_32 : decode cX6_worth 32 = .ok (.iconst 3, 1) := by decide +kernel
theorem dX6_worth_33 : decode cX6_worth 33 = .ok (.if_icmp .le 9, 3) := by decide +kernel
theorem dX6_worth_36 : decode cX6_worth 36 = .ok (.iload_n 1, 1) := by decide +kernel
theorem dX6_worth_37 : decode cX6_worth 37 = .ok (.iconst 2, 1) := by decide +kernel
theorem dX6_worth_38 : decode cX6_worth 38 = .ok (.isub, 1) := by decide +kernel
theorem dX6_worth_39 : decode cX6_worth 39 = .ok (.goto 4, 3) := by decide +kernel
theorem dX6_worth_42 : decode cX6_worth 42 = .ok (.iconst 1, 1) := by decide +kernel
theorem dX6_worth_43 : decode cX6_worth 43 = .ok (.ireturn, 1) := by decide +kernel
set_option maxRecDepth 20000 in
theorem ggX6_canBeLaidAway_X6_worth : GoodIn wsX6_canBeLaidAway wsX6_worth := goodIn_r _ [4, 5, 6, 3, 7] (by decide +kernel) (by decide +kernel)
set_option maxRecDepth 20000 in
theorem gX6_canBeLaidAway_X6_worth : GoodIn wsX6_canBeLaidAway (va_wsS RX6 254 yX6_worth wsX6_worth) := goodIn_app (goodIn_of _ (by decide +kernel)) ggX6_canBeLaidAway_X6_worth
theorem dX6_canBeLaidAway_0 : decode cX6_canBeLaidAway 0 = .ok (.iload_n 0, 1) := by decide +kernel
theorem dX6_canBeLaidAway_1 : decode cX6_canBeLaidAway 1 = .ok (.invokestatic 254, 3) := by decide +kernel
theorem dX6_canBeLaidAway_4 : decode cX6_canBeLaidAway 4 = .ok (.iconst 5, 1) := by decide +kernel
theorem dX6_canBeLaidAway_5 : decode cX6_canBeLaidAway 5 = .ok (.if_icmp .ge 7, 3) := by decide +kernel
theorem dX6_canBeLaidAway_8 : decode cX6_canBeLaidAway 8 = .ok (.iconst 1, 1) := by decide +kernel
theorem dX6_canBeLaidAway_9 : decode cX6_canBeLaidAway 9 = .ok (.goto 4, 3) := by decide +kernel
theorem dX6_canBeLaidAway_12 : decode cX6_canBeLaidAway 12 = .ok (.iconst 0, 1) := by decide +kernel
theorem dX6_canBeLaidAway_13 : decode cX6_canBeLaidAway 13 = .ok (.ireturn, 1) := by decide +kernel
theorem dX6_groupSize_0 : decode cX6_groupSize 0 = .ok (.iload_n 0, 1) := by decide +kernel
theorem dX6_groupSize_1 : decode cX6_groupSize 1 = .ok (.iconst 3, 1) := by decide +kernel
theorem dX6_groupSize_2 : decode cX6_groupSize 2 = .ok (.if_icmp .ge 9, 3) := by decide +kernel
theorem dX6_groupSize_5 : decode cX6_groupSize 5 = .ok (.iconst 4, 1) := by decide +kernel
theorem dX6_groupSize_6 : decode cX6_groupSize 6 = .ok (.iload_n 0, 1) := by decide +kernel
theorem dX6_groupSize_7 : decode cX6_groupSize 7 = .ok (.isub, 1) := by decide +kernel
theorem dX6_groupSize_8 : decode cX6_groupSize 8 = .ok (.goto 4, 3) := by decide +kernel
theorem dX6_groupSize_11 : decode cX6_groupSize 11 = .ok (.iconst 1, 1) := by decide +kernel
theorem dX6_groupSize_12 : decode cX6_groupSize 12 = .ok (.ireturn, 1) := by decide +kernel
theorem dX6_groupsAt_0 : decode cX6_groupsAt 0 = .ok (.iload_n 0, 1) := by decide +kernel
theorem dX6_groupsAt_1 : decode cX6_groupsAt 1 = .ok (.iconst 3, 1) := by decide +kernel
theorem dX6_groupsAt_2 : decode cX6_groupsAt 2 = .ok (.if_icmp .ge 9, 3) := by decide +kernel
theorem dX6_groupsAt_5 : decode cX6_groupsAt 5 = .ok (.iload_n 0, 1) := by decide +kernel
theorem dX6_groupsAt_6 : decode cX6_groupsAt 6 = .ok (.iconst 1, 1) := by decide +kernel
theorem dX6_groupsAt_7 : decode cX6_groupsAt 7 = .ok (.iadd, 1) := by decide +kernel
theorem dX6_groupsAt_8 : decode cX6_groupsAt 8 = .ok (.goto 5, 3) := by decide +kernel
theorem dX6_groupsAt_11 : decode cX6_groupsAt 11 = .ok (.bipush 6, 2) := by decide +kernel
theorem dX6_groupsAt_13 : decode cX6_groupsAt 13 = .ok (.ireturn, 1) := by decide +kernel
theorem dX6_isWon_0 : decode cX6_isWon 0 = .ok (.iload_n 0, 1) := by decide +kernel
theorem dX6_isWon_1 : decode cX6_isWon 1 = .ok (.bipush 105, 2) := by decide +kernel
theorem dX6_isWon_3 : decode cX6_isWon 3 = .ok (.if_icmp .le 7, 3) := by decide +kernel
theorem dX6_isWon_6 : decode cX6_isWon 6 = .ok (.iconst 1, 1) := by decide +kernel
theorem dX6_isWon_7 : decode cX6_isWon 7 = .ok (.goto 4, 3) := by decide +kernel
theorem dX6_isWon_10 : decode cX6_isWon 10 = .ok (.iconst 0, 1) := by decide +kernel
theorem dX6_isWon_11 : decode cX6_isWon 11 = .ok (.ireturn, 1) := by decide +kernel
set_option maxRecDepth 20000 in
theorem ggX6_gamePoints_X6_basePoints : GoodIn wsX6_gamePoints wsX6_basePoints := goodIn_r _ [8] (by decide +kernel) (by decide +kernel)
set_option maxRecDepth 20000 in
theorem gX6_gamePoints_X6_basePoints : GoodIn wsX6_gamePoints (va_wsS RX6 347 yX6_basePoints wsX6_basePoints) := goodIn_app (goodIn_of _ (by decide +kernel)) ggX6_gamePoints_X6_basePoints
set_option maxRecDepth 20000 in
theorem ggX6_gamePoints_X6_isWon : GoodIn wsX6_gamePoints wsX6_isWon := goodIn_r _ [11] (by decide +kernel) (by decide +kernel)
set_option maxRecDepth 20000 in
theorem gX6_gamePoints_X6_isWon : GoodIn wsX6_gamePoints (va_wsS RX6 322 yX6_isWon wsX6_isWon) := goodIn_app (goodIn_of _ (by decide +kernel)) ggX6_gamePoints_X6_isWon
theorem dX6_gamePoints_0 : decode cX6_gamePoints 0 = .ok (.iload_n 0, 1) := by decide +kernel
theorem dX6_gamePoints_1 : decode cX6_gamePoints 1 = .ok (.invokestatic 347, 3) := by decide +kernel
theorem dX6_gamePoints_4 : decode cX6_gamePoints 4 = .ok (.istore_n 2, 1) := by decide +kernel
theorem dX6_gamePoints_5 : decode cX6_gamePoints 5 = .ok (.iload_n 0, 1) := by decide +kernel
theorem dX6_gamePoints_6 : decode cX6_gamePoints 6 = .ok (.iconst 4, 1) := by decide +kernel
theorem dX6_gamePoints_7 : decode cX6_gamePoints 7 = .ok (.if_icmp .gt 15, 3) := by decide +kernel
theorem dX6_gamePoints_10 : decode cX6_gamePoints 10 = .ok (.iload_n 2, 1) := by decide +kernel
theorem dX6_gamePoints_11 : decode cX6_gamePoints 11 = .ok (.iload_n 1, 1) := by decide +kernel
theorem dX6_gamePoints_12 : decode cX6_gamePoints 12 = .ok (.bipush 105, 2) := by decide +kernel
theorem dX6_gamePoints_14 : decode cX6_gamePoints 14 = .ok (.isub, 1) := by decide +kernel
theorem dX6_gamePoints_15 : decode cX6_gamePoints 15 = .ok (.invokestatic 350, 3) := by decide +kernel
theorem dX6_gamePoints_18 : decode cX6_gamePoints 18 = .ok (.iconst 3, 1) := by decide +kernel
theorem dX6_gamePoints_19 : decode cX6_gamePoints 19 = .ok (.idiv, 1) := by decide +kernel
theorem dX6_gamePoints_20 : decode cX6_gamePoints 20 = .ok (.iadd, 1) := by decide +kernel
theorem dX6_gamePoints_21 : decode cX6_gamePoints 21 = .ok (.istore_n 2, 1) := by decide +kernel
theorem dX6_gamePoints_22 : decode cX6_gamePoints 22 = .ok (.iload_n 1, 1) := by decide +kernel
theorem dX6_gamePoints_23 : decode cX6_gamePoints 23 = .ok (.invokestatic 322, 3) := by decide +kernel
theorem dX6_gamePoints_26 : decode cX6_gamePoints 26 = .ok (.ifCond .eq 7, 3) := by decide +kernel
theorem dX6_gamePoints_29 : decode cX6_gamePoints 29 = .ok (.iload_n 2, 1) := by decide +kernel
theorem dX6_gamePoints_30 : decode cX6_gamePoints 30 = .ok (.goto 5, 3) := by decide +kernel
theorem dX6_gamePoints_33 : decode cX6_gamePoints 33 = .ok (.iload_n 2, 1) := by decide +kernel
theorem dX6_gamePoints_34 : decode cX6_gamePoints 34 = .ok (.ineg, 1) := by decide +kernel
theorem dX6_gamePoints_35 : decode cX6_gamePoints 35 = .ok (.ireturn, 1) := by decide +kernel
theorem dX6_basePoints_0 : decode cX6_basePoints 0 = .ok (.iload_n 0, 1) := by decide +kernel
theorem dX6_basePoints_1 : decode cX6_basePoints 1 = .ok (.tableswitch 43 1 4 #[31, 34, 37, 40], 31) := by decide +kernel
theorem dX6_basePoints_32 : decode cX6_basePoints 32 = .ok (.bipush 10, 2) := by decide +kernel
theorem dX6_basePoints_34 : decode cX6_basePoints 34 = .ok (.ireturn, 1) := by decide +kernel
theorem dX6_basePoints_35 : decode cX6_basePoints 35 = .ok (.bipush 20, 2) := by decide +kernel
theorem dX6_basePoints_37 : decode cX6_basePoints 37 = .ok (.ireturn, 1) := by decide +kernel
theorem dX6_basePoints_38 : decode cX6_basePoints 38 = .ok (.bipush 30, 2) := by decide +kernel
theorem dX6_basePoints_40 : decode cX6_basePoints 40 = .ok (.ireturn, 1) := by decide +kernel
theorem dX6_basePoints_41 : decode cX6_basePoints 41 = .ok (.bipush 50, 2) := by decide +kernel
theorem dX6_basePoints_43 : decode cX6_basePoints 43 = .ok (.ireturn, 1) := by decide +kernel
theorem dX6_basePoints_44 : decode cX6_basePoints 44 = .ok (.bipush 80, 2) := by decide +kernel
theorem dX6_basePoints_46 : decode cX6_basePoints 46 = .ok (.ireturn, 1) := by decide +kernel
theorem dX6_only_0 : decode cX6_only 0 = .ok (.lconst 1, 1) := by decide +kernel
theorem dX6_only_1 : decode cX6_only 1 = .ok (.iload_n 0, 1) := by decide +kernel
theorem dX6_only_2 : decode cX6_only 2 = .ok (.lshl, 1) := by decide +kernel
theorem dX6_only_3 : decode cX6_only 3 = .ok (.lreturn, 1) := by decide +kernel
theorem dX6_holds_0 : decode cX6_holds 0 = .ok (.lload_n 0, 1) := by decide +kernel
theorem dX6_holds_1 : decode cX6_holds 1 = .ok (.iload_n 2, 1) := by decide +kernel
theorem dX6_holds_2 : decode cX6_holds 2 = .ok (.lshr, 1) := by decide +kernel
theorem dX6_holds_3 : decode cX6_holds 3 = .ok (.lconst 1, 1) := by decide +kernel
theorem dX6_holds_4 : decode cX6_holds 4 = .ok (.land, 1) := by decide +kernel
theorem dX6_holds_5 : decode cX6_holds 5 = .ok (.lconst 1, 1) := by decide +kernel
theorem dX6_holds_6 : decode cX6_holds 6 = .ok (.lcmp, 1) := by decide +kernel
theorem dX6_holds_7 : decode cX6_holds 7 = .ok (.ifCond .ne 7, 3) := by decide +kernel
theorem dX6_holds_10 : decode cX6_holds 10 = .ok (.iconst 1, 1) := by decide +kernel
theorem dX6_holds_11 : decode cX6_holds 11 = .ok (.goto 4, 3) := by decide +kernel
theorem dX6_holds_14 : decode cX6_holds 14 = .ok (.iconst 0, 1) := by decide +kernel
theorem dX6_holds_15 : decode cX6_holds 15 = .ok (.ireturn, 1) := by decide +kernel
theorem dX6_cardsOfSuit_0 : decode cX6_cardsOfSuit 0 = .ok (.iload_n 2, 1) := by decide +kernel
theorem dX6_cardsOfSuit_1 : decode cX6_cardsOfSuit 1 = .ok (.iconst 4, 1) := by decide +kernel
theorem dX6_cardsOfSuit_2 : decode cX6_cardsOfSuit 2 = .ok (.if_icmp .ne 9, 3) := by decide +kernel
theorem dX6_cardsOfSuit_5 : decode cX6_cardsOfSuit 5 = .ok (.ldc2_w 355, 3) := by decide +kernel
theorem dX6_cardsOfSuit_8 : decode cX6_cardsOfSuit 8 = .ok (.goto 11, 3) := by decide +kernel
theorem dX6_cardsOfSuit_11 : decode cX6_cardsOfSuit 11 = .ok (.ldc2_w 357, 3) := by decide +kernel
theorem dX6_cardsOfSuit_14 : decode cX6_cardsOfSuit 14 = .ok (.bipush 8, 2) := by decide +kernel
theorem dX6_cardsOfSuit_16 : decode cX6_cardsOfSuit 16 = .ok (.iload_n 2, 1) := by decide +kernel
theorem dX6_cardsOfSuit_17 : decode cX6_cardsOfSuit 17 = .ok (.imul, 1) := by decide +kernel
theorem dX6_cardsOfSuit_18 : decode cX6_cardsOfSuit 18 = .ok (.lshl, 1) := by decide +kernel
theorem dX6_cardsOfSuit_19 : decode cX6_cardsOfSuit 19 = .ok (.lstore_n 3, 1) := by decide +kernel
theorem dX6_cardsOfSuit_20 : decode cX6_cardsOfSuit 20 = .ok (.lload_n 0, 1) := by decide +kernel
theorem dX6_cardsOfSuit_21 : decode cX6_cardsOfSuit 21 = .ok (.lload_n 3, 1) := by decide +kernel
theorem dX6_cardsOfSuit_22 : decode cX6_cardsOfSuit 22 = .ok (.land, 1) := by decide +kernel
theorem dX6_cardsOfSuit_23 : decode cX6_cardsOfSuit 23 = .ok (.lreturn, 1) := by decide +kernel
set_option maxRecDepth 20000 in
theorem ggX6_playableOf_X6_cardsOfSuit : GoodIn wsX6_playableOf wsX6_cardsOfSuit := goodIn_r _ [4, 5, 6] (by decide +kernel) (by decide +kernel)
set_option maxRecDepth 20000 in
theorem gX6_playableOf_X6_cardsOfSuit : GoodIn wsX6_playableOf (va_wsS RX6 359 yX6_cardsOfSuit wsX6_cardsOfSuit) := goodIn_app (goodIn_of _ (by decide +kernel)) ggX6_playableOf_X6_cardsOfSuit
theorem dX6_playableOf_0 : decode cX6_playableOf 0 = .ok (.iload_n 2, 1) := by decide +kernel
theorem dX6_playableOf_1 : decode cX6_playableOf 1 = .ok (.iconst (-1), 1) := by decide +kernel
theorem dX6_playableOf_2 : decode cX6_playableOf 2 = .ok (.if_icmp .ne 5, 3) := by decide +kernel
theorem dX6_playableOf_5 : decode cX6_playableOf 5 = .ok (.lload_n 0, 1) := by decide +kernel
theorem dX6_playableOf_6 : decode cX6_playableOf 6 = .ok (.lreturn, 1) := by decide +kernel
theorem dX6_playableOf_7 : decode cX6_playableOf 7 = .ok (.lload_n 0, 1) := by decide +kernel
theorem dX6_playableOf_8 : decode cX6_playableOf 8 = .ok (.iload_n 2, 1) := by decide +kernel
theorem dX6_playableOf_9 : decode cX6_playableOf 9 = .ok (.invokestatic 359, 3) := by decide +kernel
theorem dX6_playableOf_12 : decode cX6_playableOf 12 = .ok (.lstore_n 3, 1) := by decide +kernel
theorem dX6_playableOf_13 : decode cX6_playableOf 13 = .ok (.lload_n 3, 1) := by decide +kernel
theorem dX6_playableOf_14 : decode cX6_playableOf 14 = .ok (.lconst 0, 1) := by decide +kernel
theorem dX6_playableOf_15 : decode cX6_playableOf 15 = .ok (.lcmp, 1) := by decide +kernel
theorem dX6_playableOf_16 : decode cX6_playableOf 16 = .ok (.ifCond .eq 5, 3) := by decide +kernel
theorem dX6_playableOf_19 : decode cX6_playableOf 19 = .ok (.lload_n 3, 1) := by decide +kernel
theorem dX6_playableOf_20 : decode cX6_playableOf 20 = .ok (.lreturn, 1) := by decide +kernel
theorem dX6_playableOf_21 : decode cX6_playableOf 21 = .ok (.lload_n 0, 1) := by decide +kernel
theorem dX6_playableOf_22 : decode cX6_playableOf 22 = .ok (.iconst 4, 1) := by decide +kernel
theorem dX6_playableOf_23 : decode cX6_playableOf 23 = .ok (.invokestatic 359, 3) := by decide +kernel
theorem dX6_playableOf_26 : decode cX6_playableOf 26 = .ok (.lstore 5, 2) := by decide +kernel
theorem dX6_playableOf_28 : decode cX6_playableOf 28 = .ok (.lload 5, 2) := by decide +kernel
theorem dX6_playableOf_30 : decode cX6_playableOf 30 = .ok (.lconst 0, 1) := by decide +kernel
theorem dX6_playableOf_31 : decode cX6_playableOf 31 = .ok (.lcmp, 1) := by decide +kernel
theorem dX6_playableOf_32 : decode cX6_playableOf 32 = .ok (.ifCond .eq 8, 3) := by decide +kernel
theorem dX6_playableOf_35 : decode cX6_playableOf 35 = .ok (.lload 5, 2) := by decide +kernel
theorem dX6_playableOf_37 : decode cX6_playableOf 37 = .ok (.goto 4, 3) := by decide +kernel
theorem dX6_playableOf_40 : decode cX6_playableOf 40 = .ok (.lload_n 0, 1) := by decide +kernel
theorem dX6_playableOf_41 : decode cX6_playableOf 41 = .ok (.lreturn, 1) := by decide +kernel
set_option maxRecDepth 20000 in
theorem ggX6_lowestOf_X6_holds : GoodIn wsX6_lowestOf wsX6_holds := goodIn_r _ [4] (by decide +kernel) (by decide +kernel)
set_option maxRecDepth 20000 in
theorem gX6_lowestOf_X6_holds : GoodIn wsX6_lowestOf (va_wsS RX6 179 yX6_holds wsX6_holds) := goodIn_app (goodIn_of _ (by decide +kernel)) ggX6_lowestOf_X6_holds
theorem dX6_lowestOf_0 : decode cX6_lowestOf 0 = .ok (.iconst 0, 1) := by decide +kernel
theorem dX6_lowestOf_1 : decode cX6_lowestOf 1 = .ok (.istore_n 2, 1) := by decide +kernel
theorem dX6_lowestOf_2 : decode cX6_lowestOf 2 = .ok (.iload_n 2, 1) := by decide +kernel
theorem dX6_lowestOf_3 : decode cX6_lowestOf 3 = .ok (.bipush 54, 2) := by decide +kernel
theorem dX6_lowestOf_5 : decode cX6_lowestOf 5 = .ok (.if_icmp .ge 19, 3) := by decide +kernel
theorem dX6_lowestOf_8 : decode cX6_lowestOf 8 = .ok (.lload_n 0, 1) := by decide +kernel
theorem dX6_lowestOf_9 : decode cX6_lowestOf 9 = .ok (.iload_n 2, 1) := by decide +kernel
theorem dX6_lowestOf_10 : decode cX6_lowestOf 10 = .ok (.invokestatic 179, 3) := by decide +kernel
theorem dX6_lowestOf_13 : decode cX6_lowestOf 13 = .ok (.ifCond .eq 5, 3) := by decide +kernel
theorem dX6_lowestOf_16 : decode cX6_lowestOf 16 = .ok (.iload_n 2, 1) := by decide +kernel
theorem dX6_lowestOf_17 : decode cX6_lowestOf 17 = .ok (.ireturn, 1) := by decide +kernel
theorem dX6_lowestOf_18 : decode cX6_lowestOf 18 = .ok (.iinc 2 1, 3) := by decide +kernel
theorem dX6_lowestOf_21 : decode cX6_lowestOf 21 = .ok (.goto (-19), 3) := by decide +kernel
theorem dX6_lowestOf_24 : decode cX6_lowestOf 24 = .ok (.iconst (-1), 1) := by decide +kernel
theorem dX6_lowestOf_25 : decode cX6_lowestOf 25 = .ok (.ireturn, 1) := by decide +kernel
set_option maxRecDepth 20000 in
theorem ggX6_thirdsOf_X6_holds : GoodIn wsX6_thirdsOf wsX6_holds := goodIn_r _ [4] (by decide +kernel) (by decide +kernel)
set_option maxRecDepth 20000 in
theorem gX6_thirdsOf_X6_holds : GoodIn wsX6_thirdsOf (va_wsS RX6 179 yX6_holds wsX6_holds) := goodIn_app (goodIn_of _ (by decide +kernel)) ggX6_thirdsOf_X6_holds
set_option maxRecDepth 20000 in
theorem ggX6_thirdsOf_X6_worth : GoodIn wsX6_thirdsOf wsX6_worth := goodIn_r _ [7, 8, 9, 3, 10] (by decide +kernel) (by decide +kernel)
set_option maxRecDepth 20000 in
theorem gX6_thirdsOf_X6_worth : GoodIn wsX6_thirdsOf (va_wsS RX6 254 yX6_worth wsX6_worth) := goodIn_app (goodIn_of _ (by decide +kernel)) ggX6_thirdsOf_X6_worth
theorem dX6_thirdsOf_0 : decode cX6_thirdsOf 0 = .ok (.iconst 0, 1) := by decide +kernel
theorem dX6_thirdsOf_1 : decode cX6_thirdsOf 1 = .ok (.istore_n 2, 1) := by decide +kernel
theorem dX6_thirdsOf_2 : decode cX6_thirdsOf 2 = .ok (.iconst 0, 1) := by decide +kernel
theorem dX6_thirdsOf_3 : decode cX6_thirdsOf 3 = .ok (.istore_n 3, 1) := by decide +kernel
theorem dX6_thirdsOf_4 : decode cX6_thirdsOf 4 = .ok (.iload_n 3, 1) := by decide +kernel
theorem dX6_thirdsOf_5 : decode cX6_thirdsOf 5 = .ok (.bipush 54, 2) := by decide +kernel
theorem dX6_thirdsOf_7 : decode cX6_thirdsOf 7 = .ok (.if_icmp .ge 28, 3) := by decide +kernel
theorem dX6_thirdsOf_10 : decode cX6_thirdsOf 10 = .ok (.lload_n 0, 1) := by decide +kernel
theorem dX6_thirdsOf_11 : decode cX6_thirdsOf 11 = .ok (.iload_n 3, 1) := by decide +kernel
theorem dX6_thirdsOf_12 : decode cX6_thirdsOf 12 = .ok (.invokestatic 179, 3) := by decide +kernel
theorem dX6_thirdsOf_15 : decode cX6_thirdsOf 15 = .ok (.ifCond .eq 14, 3) := by decide +kernel
theorem dX6_thirdsOf_18 : decode cX6_thirdsOf 18 = .ok (.iload_n 2, 1) := by decide +kernel
theorem dX6_thirdsOf_19 : decode cX6_thirdsOf 19 = .ok (.iconst 3, 1) := by decide +kernel
theorem dX6_thirdsOf_20 : decode cX6_thirdsOf 20 = .ok (.iload_n 3, 1) := by decide +kernel
theorem dX6_thirdsOf_21 : decode cX6_thirdsOf 21 = .ok (.invokestatic 254, 3) := by decide +kernel
theorem dX6_thirdsOf_24 : decode cX6_thirdsOf 24 = .ok (.imul, 1) := by decide +kernel
theorem dX6_thirdsOf_25 : decode cX6_thirdsOf 25 = .ok (.iconst 2, 1) := by decide +kernel
theorem dX6_thirdsOf_26 : decode cX6_thirdsOf 26 = .ok (.isub, 1) := by decide +kernel
theorem dX6_thirdsOf_27 : decode cX6_thirdsOf 27 = .ok (.iadd, 1) := by decide +kernel
theorem dX6_thirdsOf_28 : decode cX6_thirdsOf 28 = .ok (.istore_n 2, 1) := by decide +kernel
theorem dX6_thirdsOf_29 : decode cX6_thirdsOf 29 = .ok (.iinc 3 1, 3) := by decide +kernel
theorem dX6_thirdsOf_32 : decode cX6_thirdsOf 32 = .ok (.goto (-28), 3) := by decide +kernel
theorem dX6_thirdsOf_35 : decode cX6_thirdsOf 35 = .ok (.iload_n 2, 1) := by decide +kernel
theorem dX6_thirdsOf_36 : decode cX6_thirdsOf 36 = .ok (.ireturn, 1) := by decide +kernel
set_option maxRecDepth 20000 in
theorem ggX6_packPointsOf_X6_holds : GoodIn wsX6_packPointsOf wsX6_holds := goodIn_r _ [4] (by decide +kernel) (by decide +kernel)
set_option maxRecDepth 20000 in
theorem gX6_packPointsOf_X6_holds : GoodIn wsX6_packPointsOf (va_wsS RX6 179 yX6_holds wsX6_holds) := goodIn_app (goodIn_of _ (by decide +kernel)) ggX6_packPointsOf_X6_holds
set_option maxRecDepth 20000 in
theorem ggX6_packPointsOf_X6_worth : GoodIn wsX6_packPointsOf wsX6_worth := goodIn_r _ [7, 8, 9, 3, 10] (by decide +kernel) (by decide +kernel)
set_option maxRecDepth 20000 in
theorem gX6_packPointsOf_X6_worth : GoodIn wsX6_packPointsOf (va_wsS RX6 254 yX6_worth wsX6_worth) := goodIn_app (goodIn_of _ (by decide +kernel)) ggX6_packPointsOf_X6_worth
theorem dX6_packPointsOf_0 : decode cX6_packPointsOf 0 = .ok (.iconst 0, 1) := by decide +kernel
theorem dX6_packPointsOf_1 : decode cX6_packPointsOf 1 = .ok (.istore_n 2, 1) := by decide +kernel
theorem dX6_packPointsOf_2 : decode cX6_packPointsOf 2 = .ok (.iconst 0, 1) := by decide +kernel
theorem dX6_packPointsOf_3 : decode cX6_packPointsOf 3 = .ok (.istore_n 3, 1) := by decide +kernel
theorem dX6_packPointsOf_4 : decode cX6_packPointsOf 4 = .ok (.iconst 0, 1) := by decide +kernel
theorem dX6_packPointsOf_5 : decode cX6_packPointsOf 5 = .ok (.istore 4, 2) := by decide +kernel
theorem dX6_packPointsOf_7 : decode cX6_packPointsOf 7 = .ok (.iconst 0, 1) := by decide +kernel
theorem dX6_packPointsOf_8 : decode cX6_packPointsOf 8 = .ok (.istore 5, 2) := by decide +kernel
theorem dX6_packPointsOf_10 : decode cX6_packPointsOf 10 = .ok (.iload 5, 2) := by decide +kernel
theorem dX6_packPointsOf_12 : decode cX6_packPointsOf 12 = .ok (.bipush 54, 2) := by decide +kernel
theorem dX6_packPointsOf_14 : decode cX6_packPointsOf 14 = .ok (.if_icmp .ge 48, 3) := by decide +kernel
theorem dX6_packPointsOf_17 : decode cX6_packPointsOf 17 = .ok (.lload_n 0, 1) := by decide +kernel
theorem dX6_packPointsOf_18 : decode cX6_packPointsOf 18 = .ok (.iload 5, 2) := by decide +kernel
theorem dX6_packPointsOf_20 : decode cX6_packPointsOf 20 = .ok (.invokestatic 179, 3) := by decide +kernel
theorem dX6_packPointsOf_23 : decode cX6_packPointsOf 23 = .ok (.ifCond .eq 16, 3) := by decide +kernel
theorem dX6_packPointsOf_26 : decode cX6_packPointsOf 26 = .ok (.iload 4, 2) := by decide +kernel
theorem dX6_packPointsOf_28 : decode cX6_packPointsOf 28 = .ok (.iload 5, 2) := by decide +kernel
theorem dX6_packPointsOf_30 : decode cX6_packPointsOf 30 = .ok (.invokestatic 254, 3) := by decide +kernel
theorem dX6_packPointsOf_33 : decode cX6_packPointsOf 33 = .ok (.iadd, 1) := by decide +kernel
theorem dX6_packPointsOf_34 : decode cX6_packPointsOf 34 = .ok (.istore 4, 2) := by decide +kernel
theorem dX6_packPointsOf_36 : decode cX6_packPointsOf 36 = .ok (.iinc 3 1, 3) := by decide +kernel
theorem dX6_packPointsOf_39 : decode cX6_packPointsOf 39 = .ok (.iload_n 3, 1) := by decide +kernel
theorem dX6_packPointsOf_40 : decode cX6_packPointsOf 40 = .ok (.iconst 3, 1) := by decide +kernel
theorem dX6_packPointsOf_41 : decode cX6_packPointsOf 41 = .ok (.if_icmp .ne 15, 3) := by decide +kernel
theorem dX6_packPointsOf_44 : decode cX6_packPointsOf 44 = .ok (.iload_n 2, 1) := by decide +kernel
theorem dX6_packPointsOf_45 : decode cX6_packPointsOf 45 = .ok (.iload 4, 2) := by decide +kernel
theorem dX6_packPointsOf_47 : decode cX6_packPointsOf 47 = .ok (.iconst 2, 1) := by decide +kernel
theorem dX6_packPointsOf_48 : decode cX6_packPointsOf 48 = .ok (.isub, 1) := by decide +kernel
theorem dX6_packPointsOf_49 : decode cX6_packPointsOf 49 = .ok (.iadd, 1) := by decide +kernel
theorem dX6_packPointsOf_50 : decode cX6_packPointsOf 50 = .ok (.istore_n 2, 1) := by decide +kernel
theorem dX6_packPointsOf_51 : decode cX6_packPointsOf 51 = .ok (.iconst 0, 1) := by decide +kernel
theorem dX6_packPointsOf_52 : decode cX6_packPointsOf 52 = .ok (.istore_n 3, 1) := by decide +kernel
theorem dX6_packPointsOf_53 : decode cX6_packPointsOf 53 = .ok (.iconst 0, 1) := by decide +kernel
theorem dX6_packPointsOf_54 : decode cX6_packPointsOf 54 = .ok (.istore 4, 2) := by decide +kernel
theorem dX6_packPointsOf_56 : decode cX6_packPointsOf 56 = .ok (.iinc 5 1, 3) := by decide +kernel
theorem dX6_packPointsOf_59 : decode cX6_packPointsOf 59 = .ok (.goto (-49), 3) := by decide +kernel
theorem dX6_packPointsOf_62 : decode cX6_packPointsOf 62 = .ok (.iload_n 2, 1) := by decide +kernel
theorem dX6_packPointsOf_63 : decode cX6_packPointsOf 63 = .ok (.ireturn, 1) := by decide +kernel
theorem dJ6_bitCount_0f7a4_0 : decode cJ6_bitCount_0f7a4 0 = .ok (.iload_n 0, 1) := by decide +kernel
theorem dJ6_bitCount_0f7a4_1 : decode cJ6_bitCount_0f7a4 1 = .ok (.iload_n 0, 1) := by decide +kernel
theorem dJ6_bitCount_0f7a4_2 : decode cJ6_bitCount_0f7a4 2 = .ok (.iconst 1, 1) := by decide +kernel
theorem dJ6_bitCount_0f7a4_3 : decode cJ6_bitCount_0f7a4 3 = .ok (.iushr, 1) := by decide +kernel
theorem dJ6_bitCount_0f7a4_4 : decode cJ6_bitCount_0f7a4 4 = .ok (.ldc_w 265, 3) := by decide +kernel
theorem dJ6_bitCount_0f7a4_7 : decode cJ6_bitCount_0f7a4 7 = .ok (.iand, 1) := by decide +kernel
theorem dJ6_bitCount_0f7a4_8 : decode cJ6_bitCount_0f7a4 8 = .ok (.isub, 1) := by decide +kernel
theorem dJ6_bitCount_0f7a4_9 : decode cJ6_bitCount_0f7a4 9 = .ok (.istore_n 0, 1) := by decide +kernel
theorem dJ6_bitCount_0f7a4_10 : decode cJ6_bitCount_0f7a4 10 = .ok (.iload_n 0, 1) := by decide +kernel
theorem dJ6_bitCount_0f7a4_11 : decode cJ6_bitCount_0f7a4 11 = .ok (.ldc_w 266, 3) := by decide +kernel
theorem dJ6_bitCount_0f7a4_14 : decode cJ6_bitCount_0f7a4 14 = .ok (.iand, 1) := by decide +kernel
theorem dJ6_bitCount_0f7a4_15 : decode cJ6_bitCount_0f7a4 15 = .ok (.iload_n 0, 1) := by decide +kernel
theorem dJ6_bitCount_0f7a4_16 : decode cJ6_bitCount_0f7a4 16 = .ok (.iconst 2, 1) := by decide +kernel
theorem dJ6_bitCount_0f7a4_17 : decode cJ6_bitCount_0f7a4 17 = .ok (.iushr, 1) := by decide +kernel
theorem dJ6_bitCount_0f7a4_18 : decode cJ6_bitCount_0f7a4 18 = .ok (.ldc_w 266, 3) := by decide +kernel
theorem dJ6_bitCount_0f7a4_21 : decode cJ6_bitCount_0f7a4 21 = .ok (.iand, 1) := by decide +kernel
theorem dJ6_bitCount_0f7a4_22 : decode cJ6_bitCount_0f7a4 22 = .ok (.iadd, 1) := by decide +kernel
theorem dJ6_bitCount_0f7a4_23 : decode cJ6_bitCount_0f7a4 23 = .ok (.istore_n 0, 1) := by decide +kernel
theorem dJ6_bitCount_0f7a4_24 : decode cJ6_bitCount_0f7a4 24 = .ok (.iload_n 0, 1) := by decide +kernel
theorem dJ6_bitCount_0f7a4_25 : decode cJ6_bitCount_0f7a4 25 = .ok (.iload_n 0, 1) := by decide +kernel
theorem dJ6_bitCount_0f7a4_26 : decode cJ6_bitCount_0f7a4 26 = .ok (.iconst 4, 1) := by decide +kernel
theorem dJ6_bitCount_0f7a4_27 : decode cJ6_bitCount_0f7a4 27 = .ok (.iushr, 1) := by decide +kernel
theorem dJ6_bitCount_0f7a4_28 : decode cJ6_bitCount_0f7a4 28 = .ok (.iadd, 1) := by decide +kernel
theorem dJ6_bitCount_0f7a4_29 : decode cJ6_bitCount_0f7a4 29 = .ok (.ldc_w 267, 3) := by decide +kernel
theorem dJ6_bitCount_0f7a4_32 : decode cJ6_bitCount_0f7a4 32 = .ok (.iand, 1) := by decide +kernel
theorem dJ6_bitCount_0f7a4_33 : decode cJ6_bitCount_0f7a4 33 = .ok (.istore_n 0, 1) := by decide +kernel
theorem dJ6_bitCount_0f7a4_34 : decode cJ6_bitCount_0f7a4 34 = .ok (.iload_n 0, 1) := by decide +kernel
theorem dJ6_bitCount_0f7a4_35 : decode cJ6_bitCount_0f7a4 35 = .ok (.iload_n 0, 1) := by decide +kernel
theorem dJ6_bitCount_0f7a4_36 : decode cJ6_bitCount_0f7a4 36 = .ok (.bipush 8, 2) := by decide +kernel
theorem dJ6_bitCount_0f7a4_38 : decode cJ6_bitCount_0f7a4 38 = .ok (.iushr, 1) := by decide +kernel
theorem dJ6_bitCount_0f7a4_39 : decode cJ6_bitCount_0f7a4 39 = .ok (.iadd, 1) := by decide +kernel
theorem dJ6_bitCount_0f7a4_40 : decode cJ6_bitCount_0f7a4 40 = .ok (.istore_n 0, 1) := by decide +kernel
theorem dJ6_bitCount_0f7a4_41 : decode cJ6_bitCount_0f7a4 41 = .ok (.iload_n 0, 1) := by decide +kernel
theorem dJ6_bitCount_0f7a4_42 : decode cJ6_bitCount_0f7a4 42 = .ok (.iload_n 0, 1) := by decide +kernel
theorem dJ6_bitCount_0f7a4_43 : decode cJ6_bitCount_0f7a4 43 = .ok (.bipush 16, 2) := by decide +kernel
theorem dJ6_bitCount_0f7a4_45 : decode cJ6_bitCount_0f7a4 45 = .ok (.iushr, 1) := by decide +kernel
theorem dJ6_bitCount_0f7a4_46 : decode cJ6_bitCount_0f7a4 46 = .ok (.iadd, 1) := by decide +kernel
theorem dJ6_bitCount_0f7a4_47 : decode cJ6_bitCount_0f7a4 47 = .ok (.istore_n 0, 1) := by decide +kernel
theorem dJ6_bitCount_0f7a4_48 : decode cJ6_bitCount_0f7a4 48 = .ok (.iload_n 0, 1) := by decide +kernel
theorem dJ6_bitCount_0f7a4_49 : decode cJ6_bitCount_0f7a4 49 = .ok (.bipush 63, 2) := by decide +kernel
theorem dJ6_bitCount_0f7a4_51 : decode cJ6_bitCount_0f7a4 51 = .ok (.iand, 1) := by decide +kernel
theorem dJ6_bitCount_0f7a4_52 : decode cJ6_bitCount_0f7a4 52 = .ok (.ireturn, 1) := by decide +kernel
theorem dJ9_abs_0f7a4_0 : decode cJ9_abs_0f7a4 0 = .ok (.iload_n 0, 1) := by decide +kernel
theorem dJ9_abs_0f7a4_1 : decode cJ9_abs_0f7a4 1 = .ok (.ifCond .ge 8, 3) := by decide +kernel
theorem dJ9_abs_0f7a4_4 : decode cJ9_abs_0f7a4 4 = .ok (.iload_n 0, 1) := by decide +kernel
theorem dJ9_abs_0f7a4_5 : decode cJ9_abs_0f7a4 5 = .ok (.ineg, 1) := by decide +kernel
theorem dJ9_abs_0f7a4_6 : decode cJ9_abs_0f7a4 6 = .ok (.goto 4, 3) := by decide +kernel
theorem dJ9_abs_0f7a4_9 : decode cJ9_abs_0f7a4 9 = .ok (.iload_n 0, 1) := by decide +kernel
theorem dJ9_abs_0f7a4_10 : decode cJ9_abs_0f7a4 10 = .ok (.ireturn, 1) := by decide +kernel
theorem dJ9_max_7cf53_0 : decode cJ9_max_7cf53 0 = .ok (.iload_n 0, 1) := by decide +kernel
theorem dJ9_max_7cf53_1 : decode cJ9_max_7cf53 1 = .ok (.iload_n 1, 1) := by decide +kernel
theorem dJ9_max_7cf53_2 : decode cJ9_max_7cf53 2 = .ok (.if_icmp .lt 7, 3) := by decide +kernel
theorem dJ9_max_7cf53_5 : decode cJ9_max_7cf53 5 = .ok (.iload_n 0, 1) := by decide +kernel
theorem dJ9_max_7cf53_6 : decode cJ9_max_7cf53 6 = .ok (.goto 4, 3) := by decide +kernel
theorem dJ9_max_7cf53_9 : decode cJ9_max_7cf53 9 = .ok (.iload_n 1, 1) := by decide +kernel
theorem dJ9_max_7cf53_10 : decode cJ9_max_7cf53 10 = .ok (.ireturn, 1) := by decide +kernel
