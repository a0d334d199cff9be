theorem dX7_init_0 : decode cX7_init 0 = .ok (.aload_n 0, 1) := by decide +kernel
theorem dX7_init_1 : decode cX7_init 1 = .ok (.invokespecial 1, 3) := by decide +kernel
theorem dX7_init_4 : decode cX7_init 4 = .ok (.aload_n 0, 1) := by decide +kernel
theorem dX7_init_5 : decode cX7_init 5 = .ok (.iconst 0, 1) := by decide +kernel
theorem dX7_init_6 : decode cX7_init 6 = .ok (.putfield 9, 3) := by decide +kernel
theorem dX7_init_9 : decode cX7_init 9 = .ok (.aload_n 0, 1) := by decide +kernel
theorem dX7_init_10 : decode cX7_init 10 = .ok (.iconst (-1), 1) := by decide +kernel
theorem dX7_init_11 : decode cX7_init 11 = .ok (.putfield 13, 3) := by decide +kernel
theorem dX7_init_14 : decode cX7_init 14 = .ok (.aload_n 0, 1) := by decide +kernel
theorem dX7_init_15 : decode cX7_init 15 = .ok (.bipush 54, 2) := by decide +kernel
theorem dX7_init_17 : decode cX7_init 17 = .ok (.newarray .int, 2) := by decide +kernel
theorem dX7_init_19 : decode cX7_init 19 = .ok (.putfield 16, 3) := by decide +kernel
theorem dX7_init_22 : decode cX7_init 22 = .ok (.aload_n 0, 1) := by decide +kernel
theorem dX7_init_23 : decode cX7_init 23 = .ok (.iconst 4, 1) := by decide +kernel
theorem dX7_init_24 : decode cX7_init 24 = .ok (.newarray .long, 2) := by decide +kernel
theorem dX7_init_26 : decode cX7_init 26 = .ok (.putfield 20, 3) := by decide +kernel
theorem dX7_init_29 : decode cX7_init 29 = .ok (.aload_n 0, 1) := by decide +kernel
theorem dX7_init_30 : decode cX7_init 30 = .ok (.iconst 4, 1) := by decide +kernel
theorem dX7_init_31 : decode cX7_init 31 = .ok (.newarray .boolean, 2) := by decide +kernel
theorem dX7_init_33 : decode cX7_init 33 = .ok (.putfield 24, 3) := by decide +kernel
theorem dX7_init_36 : decode cX7_init 36 = .ok (.aload_n 0, 1) := by decide +kernel
theorem dX7_init_37 : decode cX7_init 37 = .ok (.iconst (-1), 1) := by decide +kernel
theorem dX7_init_38 : decode cX7_init 38 = .ok (.putfield 28, 3) := by decide +kernel
theorem dX7_init_41 : decode cX7_init 41 = .ok (.aload_n 0, 1) := by decide +kernel
theorem dX7_init_42 : decode cX7_init 42 = .ok (.iconst (-1), 1) := by decide +kernel
theorem dX7_init_43 : decode cX7_init 43 = .ok (.putfield 31, 3) := by decide +kernel
theorem dX7_init_46 : decode cX7_init 46 = .ok (.aload_n 0, 1) := by decide +kernel
theorem dX7_init_47 : decode cX7_init 47 = .ok (.iconst (-1), 1) := by decide +kernel
theorem dX7_init_48 : decode cX7_init 48 = .ok (.putfield 34, 3) := by decide +kernel
theorem dX7_init_51 : decode cX7_init 51 = .ok (.aload_n 0, 1) := by decide +kernel
theorem dX7_init_52 : decode cX7_init 52 = .ok (.iconst (-1), 1) := by decide +kernel
theorem dX7_init_53 : decode cX7_init 53 = .ok (.putfield 37, 3) := by decide +kernel
theorem dX7_init_56 : decode cX7_init 56 = .ok (.aload_n 0, 1) := by decide +kernel
theorem dX7_init_57 : decode cX7_init 57 = .ok (.iconst (-1), 1) := by decide +kernel
theorem dX7_init_58 : decode cX7_init 58 = .ok (.putfield 40, 3) := by decide +kernel
theorem dX7_init_61 : decode cX7_init 61 = .ok (.aload_n 0, 1) := by decide +kernel
theorem dX7_init_62 : decode cX7_init 62 = .ok (.iconst 2, 1) := by decide +kernel
theorem dX7_init_63 : decode cX7_init 63 = .ok (.newarray .boolean, 2) := by decide +kernel
theorem dX7_init_65 : decode cX7_init 65 = .ok (.putfield 43, 3) := by decide +kernel
theorem dX7_init_68 : decode cX7_init 68 = .ok (.aload_n 0, 1) := by decide +kernel
theorem dX7_init_69 : decode cX7_init 69 = .ok (.iconst 4, 1) := by decide +kernel
theorem dX7_init_70 : decode cX7_init 70 = .ok (.newarray .int, 2) := by decide +kernel
theorem dX7_init_72 : decode cX7_init 72 = .ok (.putfield 46, 3) := by decide +kernel
theorem dX7_init_75 : decode cX7_init 75 = .ok (.aload_n 0, 1) := by decide +kernel
theorem dX7_init_76 : decode cX7_init 76 = .ok (.iconst 4, 1) := by decide +kernel
theorem dX7_init_77 : decode cX7_init 77 = .ok (.newarray .long, 2) := by decide +kernel
theorem dX7_init_79 : decode cX7_init 79 = .ok (.putfield 49, 3) := by decide +kernel
theorem dX7_init_82 : decode cX7_init 82 = .ok (.aload_n 0, 1) := by decide +kernel
theorem dX7_init_83 : decode cX7_init 83 = .ok (.iconst 4, 1) := by decide +kernel
theorem dX7_init_84 : decode cX7_init 84 = .ok (.newarray .int, 2) := by decide +kernel
theorem dX7_init_86 : decode cX7_init 86 = .ok (.putfield 52, 3) := by decide +kernel
theorem dX7_init_89 : decode cX7_init 89 = .ok (.aload_n 0, 1) := by decide +kernel
theorem dX7_init_90 : decode cX7_init 90 = .ok (.iconst 4, 1) := by decide +kernel
theorem dX7_init_91 : decode cX7_init 91 = .ok (.newarray .int, 2) := by decide +kernel
theorem dX7_init_93 : decode cX7_init 93 = .ok (.putfield 55, 3) := by decide +kernel
theorem dX7_init_96 : decode cX7_init 96 = .ok (.return_, 1) := by decide +kernel
theorem dX7_thrown_0 : decode cX7_thrown 0 = .ok (.aload_n 0, 1) := by decide +kernel
theorem dX7_thrown_1 : decode cX7_thrown 1 = .ok (.getfield 58, 3) := by decide +kernel
theorem dX7_thrown_4 : decode cX7_thrown 4 = .ok (.ireturn, 1) := by decide +kernel
theorem dX7_isFine_0 : decode cX7_isFine 0 = .ok (.aload_n 0, 1) := by decide +kernel
theorem dX7_isFine_1 : decode cX7_isFine 1 = .ok (.iload_n 1, 1) := by decide +kernel
theorem dX7_isFine_2 : decode cX7_isFine 2 = .ok (.putfield 58, 3) := by decide +kernel
theorem dX7_isFine_5 : decode cX7_isFine 5 = .ok (.iload_n 1, 1) := by decide +kernel
theorem dX7_isFine_6 : decode cX7_isFine 6 = .ok (.ifCond .ne 7, 3) := by decide +kernel
theorem dX7_isFine_9 : decode cX7_isFine 9 = .ok (.iconst 1, 1) := by decide +kernel
theorem dX7_isFine_10 : decode cX7_isFine 10 = .ok (.goto 4, 3) := by decide +kernel
theorem dX7_isFine_13 : decode cX7_isFine 13 = .ok (.iconst 0, 1) := by decide +kernel
theorem dX7_isFine_14 : decode cX7_isFine 14 = .ok (.ireturn, 1) := by decide +kernel
theorem dX7_isIn_0 : decode cX7_isIn 0 = .ok (.iload_n 0, 1) := by decide +kernel
theorem dX7_isIn_1 : decode cX7_isIn 1 = .ok (.iload_n 1, 1) := by decide +kernel
theorem dX7_isIn_2 : decode cX7_isIn 2 = .ok (.if_icmp .lt 12, 3) := by decide +kernel
theorem dX7_isIn_5 : decode cX7_isIn 5 = .ok (.iload_n 0, 1) := by decide +kernel
theorem dX7_isIn_6 : decode cX7_isIn 6 = .ok (.iload_n 2, 1) := by decide +kernel
theorem dX7_isIn_7 : decode cX7_isIn 7 = .ok (.if_icmp .gt 7, 3) := by decide +kernel
theorem dX7_isIn_10 : decode cX7_isIn 10 = .ok (.iconst 1, 1) := by decide +kernel
theorem dX7_isIn_11 : decode cX7_isIn 11 = .ok (.goto 4, 3) := by decide +kernel
theorem dX7_isIn_14 : decode cX7_isIn 14 = .ok (.iconst 0, 1) := by decide +kernel
theorem dX7_isIn_15 : decode cX7_isIn 15 = .ok (.ireturn, 1) := by decide +kernel
set_option maxRecDepth 20000 in
theorem ggX7_isPlayer_X7_isIn : GoodIn wsX7_isPlayer wsX7_isIn := goodIn_r _ [4] (by decide +kernel) (by decide +kernel)
set_option maxRecDepth 20000 in
theorem gX7_isPlayer_X7_isIn : GoodIn wsX7_isPlayer (va_wsS RX7 61 yX7_isIn wsX7_isIn) := goodIn_app (goodIn_of _ (by decide +kernel)) ggX7_isPlayer_X7_isIn
theorem dX7_isPlayer_0 : decode cX7_isPlayer 0 = .ok (.iload_n 0, 1) := by decide +kernel
theorem dX7_isPlayer_1 : decode cX7_isPlayer 1 = .ok (.iconst 0, 1) := by decide +kernel
theorem dX7_isPlayer_2 : decode cX7_isPlayer 2 = .ok (.iconst 3, 1) := by decide +kernel
theorem dX7_isPlayer_3 : decode cX7_isPlayer 3 = .ok (.invokestatic 61, 3) := by decide +kernel
theorem dX7_isPlayer_6 : decode cX7_isPlayer 6 = .ok (.ireturn, 1) := by decide +kernel
set_option maxRecDepth 20000 in
theorem ggX7_isCard_X7_isIn : GoodIn wsX7_isCard wsX7_isIn := goodIn_r _ [4] (by decide +kernel) (by decide +kernel)
set_option maxRecDepth 20000 in
theorem gX7_isCard_X7_isIn : GoodIn wsX7_isCard (va_wsS RX7 61 yX7_isIn wsX7_isIn) := goodIn_app (goodIn_of _ (by decide +kernel)) ggX7_isCard_X7_isIn
theorem dX7_isCard_0 : decode cX7_isCard 0 = .ok (.iload_n 0, 1) := by decide +kernel
theorem dX7_isCard_1 : decode cX7_isCard 1 = .ok (.iconst 0, 1) := by decide +kernel
theorem dX7_isCard_2 : decode cX7_isCard 2 = .ok (.bipush 53, 2) := by decide +kernel
theorem dX7_isCard_4 : decode cX7_isCard 4 = .ok (.invokestatic 61, 3) := by decide +kernel
theorem dX7_isCard_7 : decode cX7_isCard 7 = .ok (.ireturn, 1) := by decide +kernel
theorem dX7_suit_0 : decode cX7_suit 0 = .ok (.iload_n 0, 1) := by decide +kernel
theorem dX7_suit_1 : decode cX7_suit 1 = .ok (.bipush 32, 2) := by decide +kernel
theorem dX7_suit_3 : decode cX7_suit 3 = .ok (.if_icmp .ge 10, 3) := by decide +kernel
theorem dX7_suit_6 : decode cX7_suit 6 = .ok (.iload_n 0, 1) := by decide +kernel
theorem dX7_suit_7 : decode cX7_suit 7 = .ok (.bipush 8, 2) := by decide +kernel
theorem dX7_suit_9 : decode cX7_suit 9 = .ok (.idiv, 1) := by decide +kernel
theorem dX7_suit_10 : decode cX7_suit 10 = .ok (.goto 4, 3) := by decide +kernel
theorem dX7_suit_13 : decode cX7_suit 13 = .ok (.iconst 4, 1) := by decide +kernel
theorem dX7_suit_14 : decode cX7_suit 14 = .ok (.ireturn, 1) := by decide +kernel
theorem dX7_worth_0 : decode cX7_worth 0 = .ok (.iload_n 0, 1) := by decide +kernel
theorem dX7_worth_1 : decode cX7_worth 1 = .ok (.bipush 32, 2) := by decide +kernel
theorem dX7_worth_3 : decode cX7_worth 3 = .ok (.if_icmp .lt 21, 3) := by decide +kernel
theorem dX7_worth_6 : decode cX7_worth 6 = .ok (.iload_n 0, 1) := by decide +kernel
theorem dX7_worth_7 : decode cX7_worth 7 = .ok (.bipush 32, 2) := by decide +kernel
theorem dX7_worth_9 : decode cX7_worth 9 = .ok (.if_icmp .eq 9, 3) := by decide +kernel
theorem dX7_worth_12 : decode cX7_worth 12 = .ok (.iload_n 0, 1) := by decide +kernel
theorem dX7_worth_13 : decode cX7_worth 13 = .ok (.bipush 52, 2) := by decide +kernel
theorem dX7_worth_15 : decode cX7_worth 15 = .ok (.if_icmp .lt 7, 3) := by decide +kernel
theorem dX7_worth_18 : decode cX7_worth 18 = .ok (.iconst 5, 1) := by decide +kernel
theorem dX7_worth_19 : decode cX7_worth 19 = .ok (.goto 4, 3) := by decide +kernel
theorem dX7_worth_22 : decode cX7_worth 22 = .ok (.iconst 1, 1) := by decide +kernel
theorem dX7_worth_23 : decode cX7_worth 23 = .ok (.ireturn, 1) := by decide +kernel
theorem dX7_worth_24 : decode cX7_worth 24 = .ok (.iload_n 0, 1) := by decide +kernel
theorem dX7_worth_25 : decode cX7_worth 25 = .ok (.bipush 8, 2) := by decide +kernel
theorem dX7_worth_27 : decode cX7_worth 27 = .ok (.irem, 1) := by decide +kernel
theorem dX7_worth_28 : decode cX7_worth 28 = .ok (.iconst 3, 1) := by decide +kernel
theorem dX7_worth_29 : decode cX7_worth 29 = .ok (.if_icmp .le 12, 3) := by decide +kernel
theorem dX7_worth_32 : decode cX7_worth 32 = .ok (.iload_n 0, 1) := by decide +kernel
theorem dX7_worth_33 : decode cX7_worth 33 = .ok (.bipush 8, 2) := by decide +kernel
theorem dX7_worth_35 : decode cX7_worth 35 = .ok (.irem, 1) := by decide +kernel
theorem dX7_worth_36 : decode cX7_worth 36 = .ok (.iconst 2, 1) := by decide +kernel
theorem dX7_worth_37 : decode cX7_worth 37 = .ok (.isub, 1) := by decide +kernel
theorem dX7_worth_38 : decode cX7_worth 38 = .ok (.goto 4, 3) := by decide +kernel
theorem dX7_worth_41 : decode cX7_worth 41 = .ok (.iconst 1, 1) := by decide +kernel
theorem dX7_worth_42 : decode cX7_worth 42 = .ok (.ireturn, 1) := by decide +kernel
theorem dX7_has_0 : decode cX7_has 0 = .ok (.lload_n 0, 1) := by decide +kernel
theorem dX7_has_1 : decode cX7_has 1 = .ok (.iload_n 2, 1) := by decide +kernel
theorem dX7_has_2 : decode cX7_has 2 = .ok (.lshr, 1) := by decide +kernel
theorem dX7_has_3 : decode cX7_has 3 = .ok (.lconst 1, 1) := by decide +kernel
theorem dX7_has_4 : decode cX7_has 4 = .ok (.land, 1) := by decide +kernel
theorem dX7_has_5 : decode cX7_has 5 = .ok (.lconst 1, 1) := by decide +kernel
theorem dX7_has_6 : decode cX7_has 6 = .ok (.lcmp, 1) := by decide +kernel
theorem dX7_has_7 : decode cX7_has 7 = .ok (.ifCond .ne 7, 3) := by decide +kernel
theorem dX7_has_10 : decode cX7_has 10 = .ok (.iconst 1, 1) := by decide +kernel
theorem dX7_has_11 : decode cX7_has 11 = .ok (.goto 4, 3) := by decide +kernel
theorem dX7_has_14 : decode cX7_has 14 = .ok (.iconst 0, 1) := by decide +kernel
theorem dX7_has_15 : decode cX7_has 15 = .ok (.ireturn, 1) := by decide +kernel
theorem dX7_bit_0 : decode cX7_bit 0 = .ok (.lconst 1, 1) := by decide +kernel
theorem dX7_bit_1 : decode cX7_bit 1 = .ok (.iload_n 0, 1) := by decide +kernel
theorem dX7_bit_2 : decode cX7_bit 2 = .ok (.lshl, 1) := by decide +kernel
theorem dX7_bit_3 : decode cX7_bit 3 = .ok (.lreturn, 1) := by decide +kernel
theorem dX7_king_0 : decode cX7_king 0 = .ok (.bipush 8, 2) := by decide +kernel
theorem dX7_king_2 : decode cX7_king 2 = .ok (.aload_n 0, 1) := by decide +kernel
theorem dX7_king_3 : decode cX7_king 3 = .ok (.getfield 34, 3) := by decide +kernel
theorem dX7_king_6 : decode cX7_king 6 = .ok (.imul, 1) := by decide +kernel
theorem dX7_king_7 : decode cX7_king 7 = .ok (.bipush 7, 2) := by decide +kernel
theorem dX7_king_9 : decode cX7_king 9 = .ok (.iadd, 1) := by decide +kernel
theorem dX7_king_10 : decode cX7_king 10 = .ok (.ireturn, 1) := by decide +kernel
set_option maxRecDepth 20000 in
theorem ggX7_deal_X7_isIn : GoodIn wsX7_deal wsX7_isIn := goodIn_r _ [28] (by decide +kernel) (by decide +kernel)
set_option maxRecDepth 20000 in
theorem gX7_deal_X7_isIn : GoodIn wsX7_deal (va_wsS RX7 61 yX7_isIn wsX7_isIn) := goodIn_app (goodIn_of _ (by decide +kernel)) ggX7_deal_X7_isIn
set_option maxRecDepth 20000 in
theorem ggX7_deal_X7_isFine : GoodIn wsX7_deal wsX7_isFine := goodIn_r _ [32, 33, 37, 38, 39, 40, 41, 42, 43, 44, 45, 46, 47, 48, 49, 50, 51, 52, 53, 54, 55, 56, 57, 58, 59, 60, 61, 62, 63, 64, 65] (by decide +kernel) (by decide +kernel)
set_option maxRecDepth 20000 in
theorem gX7_deal_X7_isFine : GoodIn wsX7_deal (wsV RX7 66 RX7 yX7_isFine wsX7_isFine) := goodIn_app (goodIn_of _ (by decide +kernel)) ggX7_deal_X7_isFine
set_option maxRecDepth 20000 in
theorem ggX7_deal_X7_bit : GoodIn wsX7_deal wsX7_bit := goodIn_r _ [36] (by decide +kernel) (by decide +kernel)
set_option maxRecDepth 20000 in
theorem gX7_deal_X7_bit : GoodIn wsX7_deal (va_wsS RX7 77 yX7_bit wsX7_bit) := goodIn_app (goodIn_of _ (by decide +kernel)) ggX7_deal_X7_bit
theorem dX7_deal_0 : decode cX7_deal 0 = .ok (.aload_n 0, 1) := by decide +kernel
theorem dX7_deal_1 : decode cX7_deal 1 = .ok (.iload_n 1, 1) := by decide +kernel
theorem dX7_deal_2 : decode cX7_deal 2 = .ok (.iconst 0, 1) := by decide +kernel
theorem dX7_deal_3 : decode cX7_deal 3 = .ok (.ldc 65, 2) := by decide +kernel
theorem dX7_deal_5 : decode cX7_deal 5 = .ok (.invokestatic 61, 3) := by decide +kernel
theorem dX7_deal_8 : decode cX7_deal 8 = .ok (.ifCond .ne 7, 3) := by decide +kernel
theorem dX7_deal_11 : decode cX7_deal 11 = .ok (.iconst 1, 1) := by decide +kernel
theorem dX7_deal_12 : decode cX7_deal 12 = .ok (.goto 15, 3) := by decide +kernel
theorem dX7_deal_15 : decode cX7_deal 15 = .ok (.aload_n 0, 1) := by decide +kernel
theorem dX7_deal_16 : decode cX7_deal 16 = .ok (.getfield 9, 3) := by decide +kernel
theorem dX7_deal_19 : decode cX7_deal 19 = .ok (.ifCond .eq 7, 3) := by decide +kernel
theorem dX7_deal_22 : decode cX7_deal 22 = .ok (.iconst 2, 1) := by decide +kernel
theorem dX7_deal_23 : decode cX7_deal 23 = .ok (.goto 4, 3) := by decide +kernel
theorem dX7_deal_26 : decode cX7_deal 26 = .ok (.iconst 0, 1) := by decide +kernel
theorem dX7_deal_27 : decode cX7_deal 27 = .ok (.invokevirtual 66, 3) := by decide +kernel
theorem dX7_deal_30 : decode cX7_deal 30 = .ok (.ifCond .ne 5, 3) := by decide +kernel
theorem dX7_deal_33 : decode cX7_deal 33 = .ok (.iconst 0, 1) := by decide +kernel
theorem dX7_deal_34 : decode cX7_deal 34 = .ok (.ireturn, 1) := by decide +kernel
theorem dX7_deal_35 : decode cX7_deal 35 = .ok (.iconst 0, 1) := by decide +kernel
theorem dX7_deal_36 : decode cX7_deal 36 = .ok (.istore_n 2, 1) := by decide +kernel
theorem dX7_deal_37 : decode cX7_deal 37 = .ok (.iload_n 2, 1) := by decide +kernel
theorem dX7_deal_38 : decode cX7_deal 38 = .ok (.bipush 54, 2) := by decide +kernel
theorem dX7_deal_40 : decode cX7_deal 40 = .ok (.if_icmp .ge 16, 3) := by decide +kernel
theorem dX7_deal_43 : decode cX7_deal 43 = .ok (.aload_n 0, 1) := by decide +kernel
theorem dX7_deal_44 : decode cX7_deal 44 = .ok (.getfield 16, 3) := by decide +kernel
theorem dX7_deal_47 : decode cX7_deal 47 = .ok (.iload_n 2, 1) := by decide +kernel
theorem dX7_deal_48 : decode cX7_deal 48 = .ok (.iload_n 2, 1) := by decide +kernel
theorem dX7_deal_49 : decode cX7_deal 49 = .ok (.iastore, 1) := by decide +kernel
theorem dX7_deal_50 : decode cX7_deal 50 = .ok (.iinc 2 1, 3) := by decide +kernel
theorem dX7_deal_53 : decode cX7_deal 53 = .ok (.goto (-16), 3) := by decide +kernel
theorem dX7_deal_56 : decode cX7_deal 56 = .ok (.iload_n 1, 1) := by decide +kernel
theorem dX7_deal_57 : decode cX7_deal 57 = .ok (.istore_n 2, 1) := by decide +kernel
theorem dX7_deal_58 : decode cX7_deal 58 = .ok (.bipush 53, 2) := by decide +kernel
theorem dX7_deal_60 : decode cX7_deal 60 = .ok (.istore_n 3, 1) := by decide +kernel
theorem dX7_deal_61 : decode cX7_deal 61 = .ok (.iload_n 3, 1) := by decide +kernel
theorem dX7_deal_62 : decode cX7_deal 62 = .ok (.ifCond .le 58, 3) := by decide +kernel
theorem dX7_deal_65 : decode cX7_deal 65 = .ok (.sipush 25173, 3) := by decide +kernel
theorem dX7_deal_68 : decode cX7_deal 68 = .ok (.iload_n 2, 1) := by decide +kernel
theorem dX7_deal_69 : decode cX7_deal 69 = .ok (.imul, 1) := by decide +kernel
theorem dX7_deal_70 : decode cX7_deal 70 = .ok (.sipush 13849, 3) := by decide +kernel
theorem dX7_deal_73 : decode cX7_deal 73 = .ok (.iadd, 1) := by decide +kernel
theorem dX7_deal_74 : decode cX7_deal 74 = .ok (.ldc 70, 2) := by decide +kernel
theorem dX7_deal_76 : decode cX7_deal 76 = .ok (.irem, 1) := by decide +kernel
theorem dX7_deal_77 : decode cX7_deal 77 = .ok (.istore_n 2, 1) := by decide +kernel
theorem dX7_deal_78 : decode cX7_deal 78 = .ok (.aload_n 0, 1) := by decide +kernel
theorem dX7_deal_79 : decode cX7_deal 79 = .ok (.getfield 16, 3) := by decide +kernel
theorem dX7_deal_82 : decode cX7_deal 82 = .ok (.iload_n 3, 1) := by decide +kernel
theorem dX7_deal_83 : decode cX7_deal 83 = .ok (.iaload, 1) := by decide +kernel
theorem dX7_deal_84 : decode cX7_deal 84 = .ok (.istore 4, 2) := by decide +kernel
theorem dX7_deal_86 : decode cX7_deal 86 = .ok (.aload_n 0, 1) := by decide +kernel
theorem dX7_deal_87 : decode cX7_deal 87 = .ok (.getfield 16, 3) := by decide +kernel
theorem dX7_deal_90 : decode cX7_deal 90 = .ok (.iload_n 3, 1) := by decide +kernel
theorem dX7_deal_91 : decode cX7_deal 91 = .ok (.aload_n 0, 1) := by decide +kernel
theorem dX7_deal_92 : decode cX7_deal 92 = .ok (.getfield 16, 3) := by decide +kernel
theorem dX7_deal_95 : decode cX7_deal 95 = .ok (.iload_n 2, 1) := by decide +kernel
theorem dX7_deal_96 : decode cX7_deal 96 = .ok (.iload_n 3, 1) := by decide +kernel
theorem dX7_deal_97 : decode cX7_deal 97 = .ok (.iconst 1, 1) := by decide +kernel
theorem dX7_deal_98 : decode cX7_deal 98 = .ok (.iadd, 1) := by decide +kernel
theorem dX7_deal_99 : decode cX7_deal 99 = .ok (.irem, 1) := by decide +kernel
theorem dX7_deal_100 : decode cX7_deal 100 = .ok (.iaload, 1) := by decide +kernel
theorem dX7_deal_101 : decode cX7_deal 101 = .ok (.iastore, 1) := by decide +kernel
theorem dX7_deal_102 : decode cX7_deal 102 = .ok (.aload_n 0, 1) := by decide +kernel
theorem dX7_deal_103 : decode cX7_deal 103 = .ok (.getfield 16, 3) := by decide +kernel
theorem dX7_deal_106 : decode cX7_deal 106 = .ok (.iload_n 2, 1) := by decide +kernel
theorem dX7_deal_107 : decode cX7_deal 107 = .ok (.iload_n 3, 1) := by decide +kernel
theorem dX7_deal_108 : decode cX7_deal 108 = .ok (.iconst 1, 1) := by decide +kernel
theorem dX7_deal_109 : decode cX7_deal 109 = .ok (.iadd, 1) := by decide +kernel
theorem dX7_deal_110 : decode cX7_deal 110 = .ok (.irem, 1) := by decide +kernel
theorem dX7_deal_111 : decode cX7_deal 111 = .ok (.iload 4, 2) := by decide +kernel
theorem dX7_deal_113 : decode cX7_deal 113 = .ok (.iastore, 1) := by decide +kernel
theorem dX7_deal_114 : decode cX7_deal 114 = .ok (.iinc 3 (-1), 3) := by decide +kernel
theorem dX7_deal_117 : decode cX7_deal 117 = .ok (.goto (-56), 3) := by decide +kernel
theorem dX7_deal_120 : decode cX7_deal 120 = .ok (.aload_n 0, 1) := by decide +kernel
theorem dX7_deal_121 : decode cX7_deal 121 = .ok (.aload_n 0, 1) := by decide +kernel
theorem dX7_deal_122 : decode cX7_deal 122 = .ok (.getfield 71, 3) := by decide +kernel
theorem dX7_deal_125 : decode cX7_deal 125 = .ok (.iconst 4, 1) := by decide +kernel
theorem dX7_deal_126 : decode cX7_deal 126 = .ok (.irem, 1) := by decide +kernel
theorem dX7_deal_127 : decode cX7_deal 127 = .ok (.putfield 74, 3) := by decide +kernel
theorem dX7_deal_130 : decode cX7_deal 130 = .ok (.aload_n 0, 1) := by decide +kernel
theorem dX7_deal_131 : decode cX7_deal 131 = .ok (.dup, 1) := by decide +kernel
theorem dX7_deal_132 : decode cX7_deal 132 = .ok (.getfield 71, 3) := by decide +kernel
theorem dX7_deal_135 : decode cX7_deal 135 = .ok (.iconst 1, 1) := by decide +kernel
theorem dX7_deal_136 : decode cX7_deal 136 = .ok (.iadd, 1) := by decide +kernel
theorem dX7_deal_137 : decode cX7_deal 137 = .ok (.putfield 71, 3) := by decide +kernel
theorem dX7_deal_140 : decode cX7_deal 140 = .ok (.iconst 0, 1) := by decide +kernel
theorem dX7_deal_141 : decode cX7_deal 141 = .ok (.istore_n 3, 1) := by decide +kernel
theorem dX7_deal_142 : decode cX7_deal 142 = .ok (.iload_n 3, 1) := by decide +kernel
theorem dX7_deal_143 : decode cX7_deal 143 = .ok (.iconst 4, 1) := by decide +kernel
theorem dX7_deal_144 : decode cX7_deal 144 = .ok (.if_icmp .ge 30, 3) := by decide +kernel
theorem dX7_deal_147 : decode cX7_deal 147 = .ok (.aload_n 0, 1) := by decide +kernel
theorem dX7_deal_148 : decode cX7_deal 148 = .ok (.getfield 20, 3) := by decide +kernel
theorem dX7_deal_151 : decode cX7_deal 151 = .ok (.iload_n 3, 1) := by decide +kernel
theorem dX7_deal_152 : decode cX7_deal 152 = .ok (.lconst 0, 1) := by decide +kernel
theorem dX7_deal_153 : decode cX7_deal 153 = .ok (.lastore, 1) := by decide +kernel
theorem dX7_deal_154 : decode cX7_deal 154 = .ok (.aload_n 0, 1) := by decide +kernel
theorem dX7_deal_155 : decode cX7_deal 155 = .ok (.getfield 49, 3) := by decide +kernel
theorem dX7_deal_158 : decode cX7_deal 158 = .ok (.iload_n 3, 1) := by decide +kernel
theorem dX7_deal_159 : decode cX7_deal 159 = .ok (.lconst 0, 1) := by decide +kernel
theorem dX7_deal_160 : decode cX7_deal 160 = .ok (.lastore, 1) := by decide +kernel
theorem dX7_deal_161 : decode cX7_deal 161 = .ok (.aload_n 0, 1) := by decide +kernel
theorem dX7_deal_162 : decode cX7_deal 162 = .ok (.getfield 24, 3) := by decide +kernel
theorem dX7_deal_165 : decode cX7_deal 165 = .ok (.iload_n 3, 1) := by decide +kernel
theorem dX7_deal_166 : decode cX7_deal 166 = .ok (.iconst 0, 1) := by decide +kernel
theorem dX7_deal_167 : decode cX7_deal 167 = .ok (.bastore, 1) := by decide +kernel
theorem dX7_deal_168 : decode cX7_deal 168 = .ok (.iinc 3 1, 3) := by decide +kernel
theorem dX7_deal_171 : decode cX7_deal 171 = .ok (.goto (-29), 3) := by decide +kernel
theorem dX7_deal_174 : decode cX7_deal 174 = .ok (.iconst 0, 1) := by decide +kernel
theorem dX7_deal_175 : decode cX7_deal 175 = .ok (.istore_n 3, 1) := by decide +kernel
theorem dX7_deal_176 : decode cX7_deal 176 = .ok (.iload_n 3, 1) := by decide +kernel
theorem dX7_deal_177 : decode cX7_deal 177 = .ok (.bipush 48, 2) := by decide +kernel
theorem dX7_deal_179 : decode cX7_deal 179 = .ok (.if_icmp .ge 37, 3) := by decide +kernel
theorem dX7_deal_182 : decode cX7_deal 182 = .ok (.aload_n 0, 1) := by decide +kernel
theorem dX7_deal_183 : decode cX7_deal 183 = .ok (.getfield 20, 3) := by decide +kernel
theorem dX7_deal_186 : decode cX7_deal 186 = .ok (.aload_n 0, 1) := by decide +kernel
theorem dX7_deal_187 : decode cX7_deal 187 = .ok (.getfield 74, 3) := by decide +kernel
theorem dX7_deal_190 : decode cX7_deal 190 = .ok (.iload_n 3, 1) := by decide +kernel
theorem dX7_deal_191 : decode cX7_deal 191 = .ok (.bipush 12, 2) := by decide +kernel
theorem dX7_deal_193 : decode cX7_deal 193 = .ok (.idiv, 1) := by decide +kernel
theorem dX7_deal_194 : decode cX7_deal 194 = .ok (.iadd, 1) := by decide +kernel
theorem dX7_deal_195 : decode cX7_deal 195 = .ok (.iconst 4, 1) := by decide +kernel
theorem dX7_deal_196 : decode cX7_deal 196 = .ok (.irem, 1) := by decide +kernel
theorem dX7_deal_197 : decode cX7_deal 197 = .ok (.dup2, 1) := by decide +kernel
theorem dX7_deal_198 : decode cX7_deal 198 = .ok (.laload, 1) := by decide +kernel
theorem dX7_deal_199 : decode cX7_deal 199 = .ok (.aload_n 0, 1) := by decide +kernel
theorem dX7_deal_200 : decode cX7_deal 200 = .ok (.getfield 16, 3) := by decide +kernel
theorem dX7_deal_203 : decode cX7_deal 203 = .ok (.iload_n 3, 1) := by decide +kernel
theorem dX7_deal_204 : decode cX7_deal 204 = .ok (.iaload, 1) := by decide +kernel
theorem dX7_deal_205 : decode cX7_deal 205 = .ok (.invokestatic 77, 3) := by decide +kernel
theorem dX7_deal_208 : decode cX7_deal 208 = .ok (.lor, 1) := by decide +kernel
theorem dX7_deal_209 : decode cX7_deal 209 = .ok (.lastore, 1) := by decide +kernel
theorem dX7_deal_210 : decode cX7_deal 210 = .ok (.iinc 3 1, 3) := by decide +kernel
theorem dX7_deal_213 : decode cX7_deal 213 = .ok (.goto (-37), 3) := by decide +kernel
theorem dX7_deal_216 : decode cX7_deal 216 = .ok (.aload_n 0, 1) := by decide +kernel
theorem dX7_deal_217 : decode cX7_deal 217 = .ok (.iconst 0, 1) := by decide +kernel
theorem dX7_deal_218 : decode cX7_deal 218 = .ok (.putfield 81, 3) := by decide +kernel
theorem dX7_deal_221 : decode cX7_deal 221 = .ok (.aload_n 0, 1) := by decide +kernel
theorem dX7_deal_222 : decode cX7_deal 222 = .ok (.iconst 0, 1) := by decide +kernel
theorem dX7_deal_223 : decode cX7_deal 223 = .ok (.putfield 84, 3) := by decide +kernel
theorem dX7_deal_226 : decode cX7_deal 226 = .ok (.aload_n 0, 1) := by decide +kernel
theorem dX7_deal_227 : decode cX7_deal 227 = .ok (.iconst (-1), 1) := by decide +kernel
theorem dX7_deal_228 : decode cX7_deal 228 = .ok (.putfield 28, 3) := by decide +kernel
theorem dX7_deal_231 : decode cX7_deal 231 = .ok (.aload_n 0, 1) := by decide +kernel
theorem dX7_deal_232 : decode cX7_deal 232 = .ok (.iconst (-1), 1) := by decide +kernel
theorem dX7_deal_233 : decode cX7_deal 233 = .ok (.putfield 31, 3) := by decide +kernel
theorem dX7_deal_236 : decode cX7_deal 236 = .ok (.aload_n 0, 1) := by decide +kernel
theorem dX7_deal_237 : decode cX7_deal 237 = .ok (.iconst (-1), 1) := by decide +kernel
theorem dX7_deal_238 : decode cX7_deal 238 = .ok (.putfield 34, 3) := by decide +kernel
theorem dX7_deal_241 : decode cX7_deal 241 = .ok (.aload_n 0, 1) := by decide +kernel
theorem dX7_deal_242 : decode cX7_deal 242 = .ok (.iconst (-1), 1) := by decide +kernel
theorem dX7_deal_243 : decode cX7_deal 243 = .ok (.putfield 37, 3) := by decide +kernel
theorem dX7_deal_246 : decode cX7_deal 246 = .ok (.aload_n 0, 1) := by decide +kernel
theorem dX7_deal_247 : decode cX7_deal 247 = .ok (.iconst (-1), 1) := by decide +kernel
theorem dX7_deal_248 : decode cX7_deal 248 = .ok (.putfield 40, 3) := by decide +kernel
theorem dX7_deal_251 : decode cX7_deal 251 = .ok (.aload_n 0, 1) := by decide +kernel
theorem dX7_deal_252 : decode cX7_deal 252 = .ok (.iconst 0, 1) := by decide +kernel
theorem dX7_deal_253 : decode cX7_deal 253 = .ok (.putfield 87, 3) := by decide +kernel
theorem dX7_deal_256 : decode cX7_deal 256 = .ok (.aload_n 0, 1) := by decide +kernel
theorem dX7_deal_257 : decode cX7_deal 257 = .ok (.lconst 0, 1) := by decide +kernel
theorem dX7_deal_258 : decode cX7_deal 258 = .ok (.putfield 91, 3) := by decide +kernel
theorem dX7_deal_261 : decode cX7_deal 261 = .ok (.aload_n 0, 1) := by decide +kernel
theorem dX7_deal_262 : decode cX7_deal 262 = .ok (.lconst 0, 1) := by decide +kernel
theorem dX7_deal_263 : decode cX7_deal 263 = .ok (.putfield 95, 3) := by decide +kernel
theorem dX7_deal_266 : decode cX7_deal 266 = .ok (.aload_n 0, 1) := by decide +kernel
theorem dX7_deal_267 : decode cX7_deal 267 = .ok (.iconst 0, 1) := by decide +kernel
theorem dX7_deal_268 : decode cX7_deal 268 = .ok (.putfield 98, 3) := by decide +kernel
theorem dX7_deal_271 : decode cX7_deal 271 = .ok (.aload_n 0, 1) := by decide +kernel
theorem dX7_deal_272 : decode cX7_deal 272 = .ok (.getfield 43, 3) := by decide +kernel
theorem dX7_deal_275 : decode cX7_deal 275 = .ok (.iconst 0, 1) := by decide +kernel
theorem dX7_deal_276 : decode cX7_deal 276 = .ok (.iconst 0, 1) := by decide +kernel
theorem dX7_deal_277 : decode cX7_deal 277 = .ok (.bastore, 1) := by decide +kernel
theorem dX7_deal_278 : decode cX7_deal 278 = .ok (.aload_n 0, 1) := by decide +kernel
theorem dX7_deal_279 : decode cX7_deal 279 = .ok (.getfield 43, 3) := by decide +kernel
theorem dX7_deal_282 : decode cX7_deal 282 = .ok (.iconst 1, 1) := by decide +kernel
theorem dX7_deal_283 : decode cX7_deal 283 = .ok (.iconst 0, 1) := by decide +kernel
theorem dX7_deal_284 : decode cX7_deal 284 = .ok (.bastore, 1) := by decide +kernel
theorem dX7_deal_285 : decode cX7_deal 285 = .ok (.aload_n 0, 1) := by decide +kernel
theorem dX7_deal_286 : decode cX7_deal 286 = .ok (.iconst 0, 1) := by decide +kernel
theorem dX7_deal_287 : decode cX7_deal 287 = .ok (.putfield 101, 3) := by decide +kernel
theorem dX7_deal_290 : decode cX7_deal 290 = .ok (.aload_n 0, 1) := by decide +kernel
theorem dX7_deal_291 : decode cX7_deal 291 = .ok (.iconst 0, 1) := by decide +kernel
theorem dX7_deal_292 : decode cX7_deal 292 = .ok (.putfield 104, 3) := by decide +kernel
theorem dX7_deal_295 : decode cX7_deal 295 = .ok (.aload_n 0, 1) := by decide +kernel
theorem dX7_deal_296 : decode cX7_deal 296 = .ok (.iconst 1, 1) := by decide +kernel
theorem dX7_deal_297 : decode cX7_deal 297 = .ok (.putfield 9, 3) := by decide +kernel
theorem dX7_deal_300 : decode cX7_deal 300 = .ok (.aload_n 0, 1) := by decide +kernel
theorem dX7_deal_301 : decode cX7_deal 301 = .ok (.aload_n 0, 1) := by decide +kernel
theorem dX7_deal_302 : decode cX7_deal 302 = .ok (.getfield 74, 3) := by decide +kernel
theorem dX7_deal_305 : decode cX7_deal 305 = .ok (.putfield 13, 3) := by decide +kernel
theorem dX7_deal_308 : decode cX7_deal 308 = .ok (.aload_n 0, 1) := by decide +kernel
theorem dX7_deal_309 : decode cX7_deal 309 = .ok (.getfield 74, 3) := by decide +kernel
theorem dX7_deal_312 : decode cX7_deal 312 = .ok (.ireturn, 1) := by decide +kernel
theorem dX7_talon_0 : decode cX7_talon 0 = .ok (.aload_n 0, 1) := by decide +kernel
theorem dX7_talon_1 : decode cX7_talon 1 = .ok (.getfield 16, 3) := by decide +kernel
theorem dX7_talon_4 : decode cX7_talon 4 = .ok (.bipush 48, 2) := by decide +kernel
theorem dX7_talon_6 : decode cX7_talon 6 = .ok (.iload_n 1, 1) := by decide +kernel
theorem dX7_talon_7 : decode cX7_talon 7 = .ok (.iadd, 1) := by decide +kernel
theorem dX7_talon_8 : decode cX7_talon 8 = .ok (.iaload, 1) := by decide +kernel
theorem dX7_talon_9 : decode cX7_talon 9 = .ok (.ireturn, 1) := by decide +kernel
theorem dX7_begins_0 : decode cX7_begins 0 = .ok (.aload_n 0, 1) := by decide +kernel
theorem dX7_begins_1 : decode cX7_begins 1 = .ok (.iconst 5, 1) := by decide +kernel
theorem dX7_begins_2 : decode cX7_begins 2 = .ok (.putfield 9, 3) := by decide +kernel
theorem dX7_begins_5 : decode cX7_begins 5 = .ok (.aload_n 0, 1) := by decide +kernel
theorem dX7_begins_6 : decode cX7_begins 6 = .ok (.iconst 1, 1) := by decide +kernel
theorem dX7_begins_7 : decode cX7_begins 7 = .ok (.putfield 98, 3) := by decide +kernel
theorem dX7_begins_10 : decode cX7_begins 10 = .ok (.aload_n 0, 1) := by decide +kernel
theorem dX7_begins_11 : decode cX7_begins 11 = .ok (.aload_n 0, 1) := by decide +kernel
theorem dX7_begins_12 : decode cX7_begins 12 = .ok (.getfield 74, 3) := by decide +kernel
theorem dX7_begins_15 : decode cX7_begins 15 = .ok (.putfield 13, 3) := by decide +kernel
theorem dX7_begins_18 : decode cX7_begins 18 = .ok (.aload_n 0, 1) := by decide +kernel
theorem dX7_begins_19 : decode cX7_begins 19 = .ok (.aload_n 0, 1) := by decide +kernel
theorem dX7_begins_20 : decode cX7_begins 20 = .ok (.getfield 74, 3) := by decide +kernel
theorem dX7_begins_23 : decode cX7_begins 23 = .ok (.putfield 107, 3) := by decide +kernel
theorem dX7_begins_26 : decode cX7_begins 26 = .ok (.return_, 1) := by decide +kernel
set_option maxRecDepth 20000 in
theorem ggX7_declares_X7_talon : GoodIn wsX7_declares wsX7_talon := goodIn_r _ [11, 12, 23, 24, 25, 26, 27, 28, 29, 30, 31, 32, 33, 34, 35, 36, 37, 38, 39, 40, 41, 42, 43, 44, 45, 46, 47, 48, 49, 50, 51] (by decide +kernel) (by decide +kernel)
set_option maxRecDepth 20000 in
theorem gX7_declares_X7_talon : GoodIn wsX7_declares (wsV RX7 110 RX7 yX7_talon wsX7_talon) := goodIn_app (goodIn_of _ (by decide +kernel)) ggX7_declares_X7_talon
set_option maxRecDepth 20000 in
theorem ggX7_declares_X7_bit : GoodIn wsX7_declares wsX7_bit := goodIn_r _ [15] (by decide +kernel) (by decide +kernel)
set_option maxRecDepth 20000 in
theorem gX7_declares_X7_bit : GoodIn wsX7_declares (va_wsS RX7 77 yX7_bit wsX7_bit) := goodIn_app (goodIn_of _ (by decide +kernel)) ggX7_declares_X7_bit
set_option maxRecDepth 20000 in
theorem ggX7_declares_X7_begins : GoodIn wsX7_declares wsX7_begins := goodIn_r _ [19, 6, 20, 21, 3, 22, 23, 24, 25, 26, 27, 28, 29, 30, 31, 32, 33, 34, 35, 36, 37, 38, 39, 40, 41, 42, 43, 44, 45, 46, 47, 48, 49, 50, 51] (by decide +kernel) (by decide +kernel)
set_option maxRecDepth 20000 in
theorem gX7_declares_X7_begins : GoodIn wsX7_declares (wsV RX7 114 RX7 yX7_begins wsX7_begins) := goodIn_app (goodIn_of _ (by decide +kernel)) ggX7_declares_X7_begins
theorem dX7_declares_0 : decode cX7_declares 0 = .ok (.aload_n 0, 1) := by decide +kernel
theorem dX7_declares_1 : decode cX7_declares 1 = .ok (.aload_n 0, 1) := by decide +kernel
theorem dX7_declares_2 : decode cX7_declares 2 = .ok (.getfield 28, 3) := by decide +kernel
theorem dX7_declares_5 : decode cX7_declares 5 = .ok (.putfield 31, 3) := by decide +kernel
theorem dX7_declares_8 : decode cX7_declares 8 = .ok (.aload_n 0, 1) := by decide +kernel
theorem dX7_declares_9 : decode cX7_declares 9 = .ok (.aload_n 0, 1) := by decide +kernel
theorem dX7_declares_10 : decode cX7_declares 10 = .ok (.getfield 31, 3) := by decide +kernel
theorem dX7_declares_13 : decode cX7_declares 13 = .ok (.putfield 13, 3) := by decide +kernel
theorem dX7_declares_16 : decode cX7_declares 16 = .ok (.aload_n 0, 1) := by decide +kernel
theorem dX7_declares_17 : decode cX7_declares 17 = .ok (.getfield 84, 3) := by decide +kernel
theorem dX7_declares_20 : decode cX7_declares 20 = .ok (.iconst 5, 1) := by decide +kernel
theorem dX7_declares_21 : decode cX7_declares 21 = .ok (.if_icmp .ne 41, 3) := by decide +kernel
theorem dX7_declares_24 : decode cX7_declares 24 = .ok (.iconst 0, 1) := by decide +kernel
theorem dX7_declares_25 : decode cX7_declares 25 = .ok (.istore_n 1, 1) := by decide +kernel
theorem dX7_declares_26 : decode cX7_declares 26 = .ok (.iload_n 1, 1) := by decide +kernel
theorem dX7_declares_27 : decode cX7_declares 27 = .ok (.bipush 6, 2) := by decide +kernel
theorem dX7_declares_29 : decode cX7_declares 29 = .ok (.if_icmp .ge 26, 3) := by decide +kernel
theorem dX7_declares_32 : decode cX7_declares 32 = .ok (.aload_n 0, 1) := by decide +kernel
theorem dX7_declares_33 : decode cX7_declares 33 = .ok (.dup, 1) := by decide +kernel
theorem dX7_declares_34 : decode cX7_declares 34 = .ok (.getfield 95, 3) := by decide +kernel
theorem dX7_declares_37 : decode cX7_declares 37 = .ok (.aload_n 0, 1) := by decide +kernel
theorem dX7_declares_38 : decode cX7_declares 38 = .ok (.iload_n 1, 1) := by decide +kernel
theorem dX7_declares_39 : decode cX7_declares 39 = .ok (.invokevirtual 110, 3) := by decide +kernel
theorem dX7_declares_42 : decode cX7_declares 42 = .ok (.invokestatic 77, 3) := by decide +kernel
theorem dX7_declares_45 : decode cX7_declares 45 = .ok (.lor, 1) := by decide +kernel
theorem dX7_declares_46 : decode cX7_declares 46 = .ok (.putfield 95, 3) := by decide +kernel
theorem dX7_declares_49 : decode cX7_declares 49 = .ok (.iinc 1 1, 3) := by decide +kernel
theorem dX7_declares_52 : decode cX7_declares 52 = .ok (.goto (-26), 3) := by decide +kernel
theorem dX7_declares_55 : decode cX7_declares 55 = .ok (.aload_n 0, 1) := by decide +kernel
theorem dX7_declares_56 : decode cX7_declares 56 = .ok (.invokevirtual 114, 3) := by decide +kernel
theorem dX7_declares_59 : decode cX7_declares 59 = .ok (.goto 20, 3) := by decide +kernel
theorem dX7_declares_62 : decode cX7_declares 62 = .ok (.aload_n 0, 1) := by decide +kernel
theorem dX7_declares_63 : decode cX7_declares 63 = .ok (.aload_n 0, 1) := by decide +kernel
theorem dX7_declares_64 : decode cX7_declares 64 = .ok (.getfield 84, 3) := by decide +kernel
theorem dX7_declares_67 : decode cX7_declares 67 = .ok (.iconst 4, 1) := by decide +kernel
theorem dX7_declares_68 : decode cX7_declares 68 = .ok (.if_icmp .ne 7, 3) := by decide +kernel
theorem dX7_declares_71 : decode cX7_declares 71 = .ok (.iconst 3, 1) := by decide +kernel
theorem dX7_declares_72 : decode cX7_declares 72 = .ok (.goto 4, 3) := by decide +kernel
theorem dX7_declares_75 : decode cX7_declares 75 = .ok (.iconst 2, 1) := by decide +kernel
theorem dX7_declares_76 : decode cX7_declares 76 = .ok (.putfield 9, 3) := by decide +kernel
theorem dX7_declares_79 : decode cX7_declares 79 = .ok (.return_, 1) := by decide +kernel
set_option maxRecDepth 20000 in
theorem ggX7_bid_X7_isIn : GoodIn wsX7_bid wsX7_isIn := goodIn_r _ [10] (by decide +kernel) (by decide +kernel)
set_option maxRecDepth 20000 in
theorem gX7_bid_X7_isIn : GoodIn wsX7_bid (va_wsS RX7 61 yX7_isIn wsX7_isIn) := goodIn_app (goodIn_of _ (by decide +kernel)) ggX7_bid_X7_isIn
set_option maxRecDepth 20000 in
theorem ggX7_bid_X7_isFine : GoodIn wsX7_bid wsX7_isFine := goodIn_r _ [14, 15, 37, 38, 39, 40, 41, 42, 43, 44, 45, 46, 47, 48, 49, 50, 51, 52, 53, 54, 55, 56, 57, 58, 59, 60, 61, 62, 63, 64, 65] (by decide +kernel) (by decide +kernel)
set_option maxRecDepth 20000 in
theorem gX7_bid_X7_isFine : GoodIn wsX7_bid (wsV RX7 66 RX7 yX7_isFine wsX7_isFine) := goodIn_app (goodIn_of _ (by decide +kernel)) ggX7_bid_X7_isFine
set_option maxRecDepth 20000 in
theorem ggX7_bid_X7_declares : GoodIn wsX7_bid wsX7_declares := goodIn_r _ [19, 6, 20, 4, 2, 21, 1, 22, 23, 24, 9, 25, 26, 27, 28, 29, 30, 31, 32, 33, 34, 35, 36, 37, 38, 39, 40, 41, 42, 43, 44, 45, 46, 47, 48, 49, 50, 51, 52, 53, 54, 55, 56, 57, 58, 59, 60, 61, 62, 63, 64, 65] (by decide +kernel) (by decide +kernel)
set_option maxRecDepth 20000 in
theorem gX7_bid_X7_declares : GoodIn wsX7_bid (wsV RX7 117 RX7 yX7_declares wsX7_declares) := goodIn_app (goodIn_of _ (by decide +kernel)) ggX7_bid_X7_declares
theorem dX7_bid_0 : decode cX7_bid 0 = .ok (.aload_n 0, 1) := by decide +kernel
theorem dX7_bid_1 : decode cX7_bid 1 = .ok (.iload_n 1, 1) := by decide +kernel
theorem dX7_bid_2 : decode cX7_bid 2 = .ok (.iconst 0, 1) := by decide +kernel
theorem dX7_bid_3 : decode cX7_bid 3 = .ok (.iconst 5, 1) := by decide +kernel
theorem dX7_bid_4 : decode cX7_bid 4 = .ok (.invokestatic 61, 3) := by decide +kernel
theorem dX7_bid_7 : decode cX7_bid 7 = .ok (.ifCond .ne 7, 3) := by decide +kernel
theorem dX7_bid_10 : decode cX7_bid 10 = .ok (.iconst 1, 1) := by decide +kernel
theorem dX7_bid_11 : decode cX7_bid 11 = .ok (.goto 28, 3) := by decide +kernel
theorem dX7_bid_14 : decode cX7_bid 14 = .ok (.aload_n 0, 1) := by decide +kernel
theorem dX7_bid_15 : decode cX7_bid 15 = .ok (.getfield 9, 3) := by decide +kernel
theorem dX7_bid_18 : decode cX7_bid 18 = .ok (.iconst 1, 1) := by decide +kernel
theorem dX7_bid_19 : decode cX7_bid 19 = .ok (.if_icmp .ne 15, 3) := by decide +kernel
theorem dX7_bid_22 : decode cX7_bid 22 = .ok (.iload_n 1, 1) := by decide +kernel
theorem dX7_bid_23 : decode cX7_bid 23 = .ok (.ifCond .le 15, 3) := by decide +kernel
theorem dX7_bid_26 : decode cX7_bid 26 = .ok (.iload_n 1, 1) := by decide +kernel
theorem dX7_bid_27 : decode cX7_bid 27 = .ok (.aload_n 0, 1) := by decide +kernel
theorem dX7_bid_28 : decode cX7_bid 28 = .ok (.getfield 84, 3) := by decide +kernel
theorem dX7_bid_31 : decode cX7_bid 31 = .ok (.if_icmp .gt 7, 3) := by decide +kernel
theorem dX7_bid_34 : decode cX7_bid 34 = .ok (.iconst 2, 1) := by decide +kernel
theorem dX7_bid_35 : decode cX7_bid 35 = .ok (.goto 4, 3) := by decide +kernel
theorem dX7_bid_38 : decode cX7_bid 38 = .ok (.iconst 0, 1) := by decide +kernel
theorem dX7_bid_39 : decode cX7_bid 39 = .ok (.invokevirtual 66, 3) := by decide +kernel
theorem dX7_bid_42 : decode cX7_bid 42 = .ok (.ifCond .ne 5, 3) := by decide +kernel
theorem dX7_bid_45 : decode cX7_bid 45 = .ok (.iconst 0, 1) := by decide +kernel
theorem dX7_bid_46 : decode cX7_bid 46 = .ok (.ireturn, 1) := by decide +kernel
theorem dX7_bid_47 : decode cX7_bid 47 = .ok (.iload_n 1, 1) := by decide +kernel
theorem dX7_bid_48 : decode cX7_bid 48 = .ok (.ifCond .ne 26, 3) := by decide +kernel
theorem dX7_bid_51 : decode cX7_bid 51 = .ok (.aload_n 0, 1) := by decide +kernel
theorem dX7_bid_52 : decode cX7_bid 52 = .ok (.getfield 24, 3) := by decide +kernel
theorem dX7_bid_55 : decode cX7_bid 55 = .ok (.aload_n 0, 1) := by decide +kernel
theorem dX7_bid_56 : decode cX7_bid 56 = .ok (.getfield 13, 3) := by decide +kernel
theorem dX7_bid_59 : decode cX7_bid 59 = .ok (.iconst 1, 1) := by decide +kernel
theorem dX7_bid_60 : decode cX7_bid 60 = .ok (.bastore, 1) := by decide +kernel
theorem dX7_bid_61 : decode cX7_bid 61 = .ok (.aload_n 0, 1) := by decide +kernel
theorem dX7_bid_62 : decode cX7_bid 62 = .ok (.dup, 1) := by decide +kernel
theorem dX7_bid_63 : decode cX7_bid 63 = .ok (.getfield 81, 3) := by decide +kernel
theorem dX7_bid_66 : decode cX7_bid 66 = .ok (.iconst 1, 1) := by decide +kernel
theorem dX7_bid_67 : decode cX7_bid 67 = .ok (.iadd, 1) := by decide +kernel
theorem dX7_bid_68 : decode cX7_bid 68 = .ok (.putfield 81, 3) := by decide +kernel
theorem dX7_bid_71 : decode cX7_bid 71 = .ok (.goto 16, 3) := by decide +kernel
theorem dX7_bid_74 : decode cX7_bid 74 = .ok (.aload_n 0, 1) := by decide +kernel
theorem dX7_bid_75 : decode cX7_bid 75 = .ok (.iload_n 1, 1) := by decide +kernel
theorem dX7_bid_76 : decode cX7_bid 76 = .ok (.putfield 84, 3) := by decide +kernel
theorem dX7_bid_79 : decode cX7_bid 79 = .ok (.aload_n 0, 1) := by decide +kernel
theorem dX7_bid_80 : decode cX7_bid 80 = .ok (.aload_n 0, 1) := by decide +kernel
theorem dX7_bid_81 : decode cX7_bid 81 = .ok (.getfield 13, 3) := by decide +kernel
theorem dX7_bid_84 : decode cX7_bid 84 = .ok (.putfield 28, 3) := by decide +kernel
theorem dX7_bid_87 : decode cX7_bid 87 = .ok (.aload_n 0, 1) := by decide +kernel
theorem dX7_bid_88 : decode cX7_bid 88 = .ok (.getfield 81, 3) := by decide +kernel
theorem dX7_bid_91 : decode cX7_bid 91 = .ok (.iconst 4, 1) := by decide +kernel
theorem dX7_bid_92 : decode cX7_bid 92 = .ok (.if_icmp .ne 16, 3) := by decide +kernel
theorem dX7_bid_95 : decode cX7_bid 95 = .ok (.aload_n 0, 1) := by decide +kernel
theorem dX7_bid_96 : decode cX7_bid 96 = .ok (.iconst 0, 1) := by decide +kernel
theorem dX7_bid_97 : decode cX7_bid 97 = .ok (.putfield 9, 3) := by decide +kernel
theorem dX7_bid_100 : decode cX7_bid 100 = .ok (.aload_n 0, 1) := by decide +kernel
theorem dX7_bid_101 : decode cX7_bid 101 = .ok (.iconst (-1), 1) := by decide +kernel
theorem dX7_bid_102 : decode cX7_bid 102 = .ok (.putfield 13, 3) := by decide +kernel
theorem dX7_bid_105 : decode cX7_bid 105 = .ok (.goto 65, 3) := by decide +kernel
theorem dX7_bid_108 : decode cX7_bid 108 = .ok (.aload_n 0, 1) := by decide +kernel
theorem dX7_bid_109 : decode cX7_bid 109 = .ok (.getfield 81, 3) := by decide +kernel
theorem dX7_bid_112 : decode cX7_bid 112 = .ok (.iconst 3, 1) := by decide +kernel
theorem dX7_bid_113 : decode cX7_bid 113 = .ok (.if_icmp .ne 18, 3) := by decide +kernel
theorem dX7_bid_116 : decode cX7_bid 116 = .ok (.aload_n 0, 1) := by decide +kernel
theorem dX7_bid_117 : decode cX7_bid 117 = .ok (.getfield 28, 3) := by decide +kernel
theorem dX7_bid_120 : decode cX7_bid 120 = .ok (.iconst (-1), 1) := by decide +kernel
theorem dX7_bid_121 : decode cX7_bid 121 = .ok (.if_icmp .eq 10, 3) := by decide +kernel
theorem dX7_bid_124 : decode cX7_bid 124 = .ok (.aload_n 0, 1) := by decide +kernel
theorem dX7_bid_125 : decode cX7_bid 125 = .ok (.invokevirtual 117, 3) := by decide +kernel
theorem dX7_bid_128 : decode cX7_bid 128 = .ok (.goto 42, 3) := by decide +kernel
theorem dX7_bid_131 : decode cX7_bid 131 = .ok (.aload_n 0, 1) := by decide +kernel
theorem dX7_bid_132 : decode cX7_bid 132 = .ok (.aload_n 0, 1) := by decide +kernel
theorem dX7_bid_133 : decode cX7_bid 133 = .ok (.getfield 13, 3) := by decide +kernel
theorem dX7_bid_136 : decode cX7_bid 136 = .ok (.iconst 1, 1) := by decide +kernel
theorem dX7_bid_137 : decode cX7_bid 137 = .ok (.iadd, 1) := by decide +kernel
theorem dX7_bid_138 : decode cX7_bid 138 = .ok (.iconst 4, 1) := by decide +kernel
theorem dX7_bid_139 : decode cX7_bid 139 = .ok (.irem, 1) := by decide +kernel
theorem dX7_bid_140 : decode cX7_bid 140 = .ok (.putfield 13, 3) := by decide +kernel
theorem dX7_bid_143 : decode cX7_bid 143 = .ok (.aload_n 0, 1) := by decide +kernel
theorem dX7_bid_144 : decode cX7_bid 144 = .ok (.getfield 24, 3) := by decide +kernel
theorem dX7_bid_147 : decode cX7_bid 147 = .ok (.aload_n 0, 1) := by decide +kernel
theorem dX7_bid_148 : decode cX7_bid 148 = .ok (.getfield 13, 3) := by decide +kernel
theorem dX7_bid_151 : decode cX7_bid 151 = .ok (.baload, 1) := by decide +kernel
theorem dX7_bid_152 : decode cX7_bid 152 = .ok (.ifCond .eq 18, 3) := by decide +kernel
theorem dX7_bid_155 : decode cX7_bid 155 = .ok (.aload_n 0, 1) := by decide +kernel
theorem dX7_bid_156 : decode cX7_bid 156 = .ok (.aload_n 0, 1) := by decide +kernel
theorem dX7_bid_157 : decode cX7_bid 157 = .ok (.getfield 13, 3) := by decide +kernel
theorem dX7_bid_160 : decode cX7_bid 160 = .ok (.iconst 1, 1) := by decide +kernel
theorem dX7_bid_161 : decode cX7_bid 161 = .ok (.iadd, 1) := by decide +kernel
theorem dX7_bid_162 : decode cX7_bid 162 = .ok (.iconst 4, 1) := by decide +kernel
theorem dX7_bid_163 : decode cX7_bid 163 = .ok (.irem, 1) := by decide +kernel
theorem dX7_bid_164 : decode cX7_bid 164 = .ok (.putfield 13, 3) := by decide +kernel
theorem dX7_bid_167 : decode cX7_bid 167 = .ok (.goto (-24), 3) := by decide +kernel
theorem dX7_bid_170 : decode cX7_bid 170 = .ok (.aload_n 0, 1) := by decide +kernel
theorem dX7_bid_171 : decode cX7_bid 171 = .ok (.getfield 9, 3) := by decide +kernel
theorem dX7_bid_174 : decode cX7_bid 174 = .ok (.ireturn, 1) := by decide +kernel
set_option maxRecDepth 20000 in
theorem ggX7_call_X7_isIn : GoodIn wsX7_call wsX7_isIn := goodIn_r _ [10] (by decide +kernel) (by decide +kernel)
set_option maxRecDepth 20000 in
theorem gX7_call_X7_isIn : GoodIn wsX7_call (va_wsS RX7 61 yX7_isIn wsX7_isIn) := goodIn_app (goodIn_of _ (by decide +kernel)) ggX7_call_X7_isIn
set_option maxRecDepth 20000 in
theorem ggX7_call_X7_isFine : GoodIn wsX7_call wsX7_isFine := goodIn_r _ [14, 15, 23, 24, 25, 26, 27, 28, 29, 30, 31, 32, 33, 34, 35, 36, 37, 38, 39, 40, 41, 42, 43, 44, 45, 46, 47, 48, 49, 50, 51] (by decide +kernel) (by decide +kernel)
set_option maxRecDepth 20000 in
theorem gX7_call_X7_isFine : GoodIn wsX7_call (wsV RX7 66 RX7 yX7_isFine wsX7_isFine) := goodIn_app (goodIn_of _ (by decide +kernel)) ggX7_call_X7_isFine
set_option maxRecDepth 20000 in
theorem ggX7_call_X7_king : GoodIn wsX7_call wsX7_king := goodIn_r _ [19, 2, 23, 24, 25, 26, 27, 28, 29, 30, 31, 32, 33, 34, 35, 36, 37, 38, 39, 40, 41, 42, 43, 44, 45, 46, 47, 48, 49, 50, 51] (by decide +kernel) (by decide +kernel)
set_option maxRecDepth 20000 in
theorem gX7_call_X7_king : GoodIn wsX7_call (wsV RX7 120 RX7 yX7_king wsX7_king) := goodIn_app (goodIn_of _ (by decide +kernel)) ggX7_call_X7_king
set_option maxRecDepth 20000 in
theorem ggX7_call_X7_has : GoodIn wsX7_call wsX7_has := goodIn_r _ [22] (by decide +kernel) (by decide +kernel)
set_option maxRecDepth 20000 in
theorem gX7_call_X7_has : GoodIn wsX7_call (va_wsS RX7 124 yX7_has wsX7_has) := goodIn_app (goodIn_of _ (by decide +kernel)) ggX7_call_X7_has
theorem dX7_call_0 : decode cX7_call 0 = .ok (.aload_n 0, 1) := by decide +kernel
theorem dX7_call_1 : decode cX7_call 1 = .ok (.iload_n 1, 1) := by decide +kernel
theorem dX7_call_2 : decode cX7_call 2 = .ok (.iconst 0, 1) := by decide +kernel
theorem dX7_call_3 : decode cX7_call 3 = .ok (.iconst 3, 1) := by decide +kernel
theorem dX7_call_4 : decode cX7_call 4 = .ok (.invokestatic 61, 3) := by decide +kernel
theorem dX7_call_7 : decode cX7_call 7 = .ok (.ifCond .ne 7, 3) := by decide +kernel
theorem dX7_call_10 : decode cX7_call 10 = .ok (.iconst 1, 1) := by decide +kernel
theorem dX7_call_11 : decode cX7_call 11 = .ok (.goto 16, 3) := by decide +kernel
theorem dX7_call_14 : decode cX7_call 14 = .ok (.aload_n 0, 1) := by decide +kernel
theorem dX7_call_15 : decode cX7_call 15 = .ok (.getfield 9, 3) := by decide +kernel
theorem dX7_call_18 : decode cX7_call 18 = .ok (.iconst 2, 1) := by decide +kernel
theorem dX7_call_19 : decode cX7_call 19 = .ok (.if_icmp .eq 7, 3) := by decide +kernel
theorem dX7_call_22 : decode cX7_call 22 = .ok (.iconst 2, 1) := by decide +kernel
theorem dX7_call_23 : decode cX7_call 23 = .ok (.goto 4, 3) := by decide +kernel
theorem dX7_call_26 : decode cX7_call 26 = .ok (.iconst 0, 1) := by decide +kernel
theorem dX7_call_27 : decode cX7_call 27 = .ok (.invokevirtual 66, 3) := by decide +kernel
theorem dX7_call_30 : decode cX7_call 30 = .ok (.ifCond .ne 5, 3) := by decide +kernel
theorem dX7_call_33 : decode cX7_call 33 = .ok (.iconst 0, 1) := by decide +kernel
theorem dX7_call_34 : decode cX7_call 34 = .ok (.ireturn, 1) := by decide +kernel
theorem dX7_call_35 : decode cX7_call 35 = .ok (.aload_n 0, 1) := by decide +kernel
theorem dX7_call_36 : decode cX7_call 36 = .ok (.iload_n 1, 1) := by decide +kernel
theorem dX7_call_37 : decode cX7_call 37 = .ok (.putfield 34, 3) := by decide +kernel
theorem dX7_call_40 : decode cX7_call 40 = .ok (.iconst 0, 1) := by decide +kernel
theorem dX7_call_41 : decode cX7_call 41 = .ok (.istore_n 2, 1) := by decide +kernel
theorem dX7_call_42 : decode cX7_call 42 = .ok (.iload_n 2, 1) := by decide +kernel
theorem dX7_call_43 : decode cX7_call 43 = .ok (.iconst 4, 1) := by decide +kernel
theorem dX7_call_44 : decode cX7_call 44 = .ok (.if_icmp .ge 37, 3) := by decide +kernel
theorem dX7_call_47 : decode cX7_call 47 = .ok (.aload_n 0, 1) := by decide +kernel
theorem dX7_call_48 : decode cX7_call 48 = .ok (.aload_n 0, 1) := by decide +kernel
theorem dX7_call_49 : decode cX7_call 49 = .ok (.getfield 20, 3) := by decide +kernel
theorem dX7_call_52 : decode cX7_call 52 = .ok (.iload_n 2, 1) := by decide +kernel
theorem dX7_call_53 : decode cX7_call 53 = .ok (.laload, 1) := by decide +kernel
theorem dX7_call_54 : decode cX7_call 54 = .ok (.aload_n 0, 1) := by decide +kernel
theorem dX7_call_55 : decode cX7_call 55 = .ok (.invokevirtual 120, 3) := by decide +kernel
theorem dX7_call_58 : decode cX7_call 58 = .ok (.invokestatic 124, 3) := by decide +kernel
theorem dX7_call_61 : decode cX7_call 61 = .ok (.ifCond .eq 7, 3) := by decide +kernel
theorem dX7_call_64 : decode cX7_call 64 = .ok (.iload_n 2, 1) := by decide +kernel
theorem dX7_call_65 : decode cX7_call 65 = .ok (.goto 7, 3) := by decide +kernel
theorem dX7_call_68 : decode cX7_call 68 = .ok (.aload_n 0, 1) := by decide +kernel
theorem dX7_call_69 : decode cX7_call 69 = .ok (.getfield 40, 3) := by decide +kernel
theorem dX7_call_72 : decode cX7_call 72 = .ok (.putfield 40, 3) := by decide +kernel
theorem dX7_call_75 : decode cX7_call 75 = .ok (.iinc 2 1, 3) := by decide +kernel
theorem dX7_call_78 : decode cX7_call 78 = .ok (.goto (-36), 3) := by decide +kernel
theorem dX7_call_81 : decode cX7_call 81 = .ok (.aload_n 0, 1) := by decide +kernel
theorem dX7_call_82 : decode cX7_call 82 = .ok (.aload_n 0, 1) := by decide +kernel
theorem dX7_call_83 : decode cX7_call 83 = .ok (.getfield 40, 3) := by decide +kernel
theorem dX7_call_86 : decode cX7_call 86 = .ok (.aload_n 0, 1) := by decide +kernel
theorem dX7_call_87 : decode cX7_call 87 = .ok (.getfield 31, 3) := by decide +kernel
theorem dX7_call_90 : decode cX7_call 90 = .ok (.if_icmp .ne 7, 3) := by decide +kernel
theorem dX7_call_93 : decode cX7_call 93 = .ok (.iconst (-1), 1) := by decide +kernel
theorem dX7_call_94 : decode cX7_call 94 = .ok (.goto 7, 3) := by decide +kernel
theorem dX7_call_97 : decode cX7_call 97 = .ok (.aload_n 0, 1) := by decide +kernel
theorem dX7_call_98 : decode cX7_call 98 = .ok (.getfield 40, 3) := by decide +kernel
theorem dX7_call_101 : decode cX7_call 101 = .ok (.putfield 37, 3) := by decide +kernel
theorem dX7_call_104 : decode cX7_call 104 = .ok (.aload_n 0, 1) := by decide +kernel
theorem dX7_call_105 : decode cX7_call 105 = .ok (.iconst 3, 1) := by decide +kernel
theorem dX7_call_106 : decode cX7_call 106 = .ok (.putfield 9, 3) := by decide +kernel
theorem dX7_call_109 : decode cX7_call 109 = .ok (.aload_n 0, 1) := by decide +kernel
theorem dX7_call_110 : decode cX7_call 110 = .ok (.getfield 9, 3) := by decide +kernel
theorem dX7_call_113 : decode cX7_call 113 = .ok (.ireturn, 1) := by decide +kernel
set_option maxRecDepth 20000 in
theorem ggX7_take_X7_isIn : GoodIn wsX7_take wsX7_isIn := goodIn_r _ [10] (by decide +kernel) (by decide +kernel)
set_option maxRecDepth 20000 in
theorem gX7_take_X7_isIn : GoodIn wsX7_take (va_wsS RX7 61 yX7_isIn wsX7_isIn) := goodIn_app (goodIn_of _ (by decide +kernel)) ggX7_take_X7_isIn
set_option maxRecDepth 20000 in
theorem ggX7_take_X7_isFine : GoodIn wsX7_take wsX7_isFine := goodIn_r _ [14, 15, 24, 25, 26, 27, 28, 29, 30, 31, 32, 33, 34, 35, 36, 37, 38, 39, 40, 41, 42, 43, 44, 45, 46, 47, 48, 49, 50, 51, 52] (by decide +kernel) (by decide +kernel)
set_option maxRecDepth 20000 in
theorem gX7_take_X7_isFine : GoodIn wsX7_take (wsV RX7 66 RX7 yX7_isFine wsX7_isFine) := goodIn_app (goodIn_of _ (by decide +kernel)) ggX7_take_X7_isFine
set_option maxRecDepth 20000 in
theorem ggX7_take_X7_talon : GoodIn wsX7_take wsX7_talon := goodIn_r _ [19, 20, 24, 25, 26, 27, 28, 29, 30, 31, 32, 33, 34, 35, 36, 37, 38, 39, 40, 41, 42, 43, 44, 45, 46, 47, 48, 49, 50, 51, 52] (by decide +kernel) (by decide +kernel)
set_option maxRecDepth 20000 in
theorem gX7_take_X7_talon : GoodIn wsX7_take (wsV RX7 110 RX7 yX7_talon wsX7_talon) := goodIn_app (goodIn_of _ (by decide +kernel)) ggX7_take_X7_talon
set_option maxRecDepth 20000 in
theorem ggX7_take_X7_bit : GoodIn wsX7_take wsX7_bit := goodIn_r _ [23] (by decide +kernel) (by decide +kernel)
set_option maxRecDepth 20000 in
theorem gX7_take_X7_bit : GoodIn wsX7_take (va_wsS RX7 77 yX7_bit wsX7_bit) := goodIn_app (goodIn_of _ (by decide +kernel)) ggX7_take_X7_bit
theorem dX7_take_0 : decode cX7_take 0 = .ok (.aload_n 0, 1) := by decide +kernel
theorem dX7_take_1 : decode cX7_take 1 = .ok (.getfield 9, 3) := by decide +kernel
theorem dX7_take_4 : decode cX7_take 4 = .ok (.iconst 3, 1) := by decide +kernel
theorem dX7_take_5 : decode cX7_take 5 = .ok (.if_icmp .ne 20, 3) := by decide +kernel
theorem dX7_take_8 : decode cX7_take 8 = .ok (.aload_n 0, 1) := by decide +kernel
theorem dX7_take_9 : decode cX7_take 9 = .ok (.getfield 84, 3) := by decide +kernel
theorem dX7_take_12 : decode cX7_take 12 = .ok (.iconst 3, 1) := by decide +kernel
theorem dX7_take_13 : decode cX7_take 13 = .ok (.if_icmp .ge 12, 3) := by decide +kernel
theorem dX7_take_16 : decode cX7_take 16 = .ok (.iconst 4, 1) := by decide +kernel
theorem dX7_take_17 : decode cX7_take 17 = .ok (.aload_n 0, 1) := by decide +kernel
theorem dX7_take_18 : decode cX7_take 18 = .ok (.getfield 84, 3) := by decide +kernel
theorem dX7_take_21 : decode cX7_take 21 = .ok (.isub, 1) := by decide +kernel
theorem dX7_take_22 : decode cX7_take 22 = .ok (.goto 4, 3) := by decide +kernel
theorem dX7_take_25 : decode cX7_take 25 = .ok (.iconst 1, 1) := by decide +kernel
theorem dX7_take_26 : decode cX7_take 26 = .ok (.istore_n 2, 1) := by decide +kernel
theorem dX7_take_27 : decode cX7_take 27 = .ok (.aload_n 0, 1) := by decide +kernel
theorem dX7_take_28 : decode cX7_take 28 = .ok (.iload_n 1, 1) := by decide +kernel
theorem dX7_take_29 : decode cX7_take 29 = .ok (.iconst 0, 1) := by decide +kernel
theorem dX7_take_30 : decode cX7_take 30 = .ok (.bipush 6, 2) := by decide +kernel
theorem dX7_take_32 : decode cX7_take 32 = .ok (.iload_n 2, 1) := by decide +kernel
theorem dX7_take_33 : decode cX7_take 33 = .ok (.idiv, 1) := by decide +kernel
theorem dX7_take_34 : decode cX7_take 34 = .ok (.iconst 1, 1) := by decide +kernel
theorem dX7_take_35 : decode cX7_take 35 = .ok (.isub, 1) := by decide +kernel
theorem dX7_take_36 : decode cX7_take 36 = .ok (.invokestatic 61, 3) := by decide +kernel
theorem dX7_take_39 : decode cX7_take 39 = .ok (.ifCond .ne 7, 3) := by decide +kernel
theorem dX7_take_42 : decode cX7_take 42 = .ok (.iconst 1, 1) := by decide +kernel
theorem dX7_take_43 : decode cX7_take 43 = .ok (.goto 16, 3) := by decide +kernel
theorem dX7_take_46 : decode cX7_take 46 = .ok (.aload_n 0, 1) := by decide +kernel
theorem dX7_take_47 : decode cX7_take 47 = .ok (.getfield 9, 3) := by decide +kernel
theorem dX7_take_50 : decode cX7_take 50 = .ok (.iconst 3, 1) := by decide +kernel
theorem dX7_take_51 : decode cX7_take 51 = .ok (.if_icmp .eq 7, 3) := by decide +kernel
theorem dX7_take_54 : decode cX7_take 54 = .ok (.iconst 2, 1) := by decide +kernel
theorem dX7_take_55 : decode cX7_take 55 = .ok (.goto 4, 3) := by decide +kernel
theorem dX7_take_58 : decode cX7_take 58 = .ok (.iconst 0, 1) := by decide +kernel
theorem dX7_take_59 : decode cX7_take 59 = .ok (.invokevirtual 66, 3) := by decide +kernel
theorem dX7_take_62 : decode cX7_take 62 = .ok (.ifCond .ne 5, 3) := by decide +kernel
theorem dX7_take_65 : decode cX7_take 65 = .ok (.iconst 0, 1) := by decide +kernel
theorem dX7_take_66 : decode cX7_take 66 = .ok (.ireturn, 1) := by decide +kernel
theorem dX7_take_67 : decode cX7_take 67 = .ok (.iconst 0, 1) := by decide +kernel
theorem dX7_take_68 : decode cX7_take 68 = .ok (.istore_n 3, 1) := by decide +kernel
theorem dX7_take_69 : decode cX7_take 69 = .ok (.iload_n 3, 1) := by decide +kernel
theorem dX7_take_70 : decode cX7_take 70 = .ok (.bipush 6, 2) := by decide +kernel
theorem dX7_take_72 : decode cX7_take 72 = .ok (.if_icmp .ge 56, 3) := by decide +kernel
theorem dX7_take_75 : decode cX7_take 75 = .ok (.iload_n 3, 1) := by decide +kernel
theorem dX7_take_76 : decode cX7_take 76 = .ok (.iload_n 2, 1) := by decide +kernel
theorem dX7_take_77 : decode cX7_take 77 = .ok (.idiv, 1) := by decide +kernel
theorem dX7_take_78 : decode cX7_take 78 = .ok (.iload_n 1, 1) := by decide +kernel
theorem dX7_take_79 : decode cX7_take 79 = .ok (.if_icmp .ne 26, 3) := by decide +kernel
theorem dX7_take_82 : decode cX7_take 82 = .ok (.aload_n 0, 1) := by decide +kernel
theorem dX7_take_83 : decode cX7_take 83 = .ok (.getfield 20, 3) := by decide +kernel
theorem dX7_take_86 : decode cX7_take 86 = .ok (.aload_n 0, 1) := by decide +kernel
theorem dX7_take_87 : decode cX7_take 87 = .ok (.getfield 31, 3) := by decide +kernel
theorem dX7_take_90 : decode cX7_take 90 = .ok (.dup2, 1) := by decide +kernel
theorem dX7_take_91 : decode cX7_take 91 = .ok (.laload, 1) := by decide +kernel
theorem dX7_take_92 : decode cX7_take 92 = .ok (.aload_n 0, 1) := by decide +kernel
theorem dX7_take_93 : decode cX7_take 93 = .ok (.iload_n 3, 1) := by decide +kernel
theorem dX7_take_94 : decode cX7_take 94 = .ok (.invokevirtual 110, 3) := by decide +kernel
theorem dX7_take_97 : decode cX7_take 97 = .ok (.invokestatic 77, 3) := by decide +kernel
theorem dX7_take_100 : decode cX7_take 100 = .ok (.lor, 1) := by decide +kernel
theorem dX7_take_101 : decode cX7_take 101 = .ok (.lastore, 1) := by decide +kernel
theorem dX7_take_102 : decode cX7_take 102 = .ok (.goto 20, 3) := by decide +kernel
theorem dX7_take_105 : decode cX7_take 105 = .ok (.aload_n 0, 1) := by decide +kernel
theorem dX7_take_106 : decode cX7_take 106 = .ok (.dup, 1) := by decide +kernel
theorem dX7_take_107 : decode cX7_take 107 = .ok (.getfield 95, 3) := by decide +kernel
theorem dX7_take_110 : decode cX7_take 110 = .ok (.aload_n 0, 1) := by decide +kernel
theorem dX7_take_111 : decode cX7_take 111 = .ok (.iload_n 3, 1) := by decide +kernel
theorem dX7_take_112 : decode cX7_take 112 = .ok (.invokevirtual 110, 3) := by decide +kernel
theorem dX7_take_115 : decode cX7_take 115 = .ok (.invokestatic 77, 3) := by decide +kernel
theorem dX7_take_118 : decode cX7_take 118 = .ok (.lor, 1) := by decide +kernel
theorem dX7_take_119 : decode cX7_take 119 = .ok (.putfield 95, 3) := by decide +kernel
theorem dX7_take_122 : decode cX7_take 122 = .ok (.iinc 3 1, 3) := by decide +kernel
theorem dX7_take_125 : decode cX7_take 125 = .ok (.goto (-56), 3) := by decide +kernel
theorem dX7_take_128 : decode cX7_take 128 = .ok (.aload_n 0, 1) := by decide +kernel
theorem dX7_take_129 : decode cX7_take 129 = .ok (.iload_n 2, 1) := by decide +kernel
theorem dX7_take_130 : decode cX7_take 130 = .ok (.putfield 128, 3) := by decide +kernel
theorem dX7_take_133 : decode cX7_take 133 = .ok (.aload_n 0, 1) := by decide +kernel
theorem dX7_take_134 : decode cX7_take 134 = .ok (.iconst 4, 1) := by decide +kernel
theorem dX7_take_135 : decode cX7_take 135 = .ok (.putfield 9, 3) := by decide +kernel
theorem dX7_take_138 : decode cX7_take 138 = .ok (.iload_n 2, 1) := by decide +kernel
theorem dX7_take_139 : decode cX7_take 139 = .ok (.ireturn, 1) := by decide +kernel
set_option maxRecDepth 20000 in
theorem ggX7_discard_X7_isCard : GoodIn wsX7_discard wsX7_isCard := goodIn_r _ [9, 10, 11, 8, 12] (by decide +kernel) (by decide +kernel)
set_option maxRecDepth 20000 in
theorem gX7_discard_X7_isCard : GoodIn wsX7_discard (va_wsS RX7 131 yX7_isCard wsX7_isCard) := goodIn_app (goodIn_of _ (by decide +kernel)) ggX7_discard_X7_isCard
set_option maxRecDepth 20000 in
theorem ggX7_discard_X7_has : GoodIn wsX7_discard wsX7_has := goodIn_r _ [15] (by decide +kernel) (by decide +kernel)
set_option maxRecDepth 20000 in
theorem gX7_discard_X7_has : GoodIn wsX7_discard (va_wsS RX7 124 yX7_has wsX7_has) := goodIn_app (goodIn_of _ (by decide +kernel)) ggX7_discard_X7_has
set_option maxRecDepth 20000 in
theorem ggX7_discard_X7_worth : GoodIn wsX7_discard wsX7_worth := goodIn_r _ [18] (by decide +kernel) (by decide +kernel)
set_option maxRecDepth 20000 in
theorem gX7_discard_X7_worth : GoodIn wsX7_discard (va_wsS RX7 134 yX7_worth wsX7_worth) := goodIn_app (goodIn_of _ (by decide +kernel)) ggX7_discard_X7_worth
set_option maxRecDepth 20000 in
theorem ggX7_discard_X7_isFine : GoodIn wsX7_discard wsX7_isFine := goodIn_r _ [22, 23, 35, 36, 37, 38, 39, 40, 41, 42, 43, 44, 45, 46, 47, 48, 49, 50, 51, 52, 53, 54, 55, 56, 57, 58, 59, 60, 61, 62, 63] (by decide +kernel) (by decide +kernel)
set_option maxRecDepth 20000 in
theorem gX7_discard_X7_isFine : GoodIn wsX7_discard (wsV RX7 66 RX7 yX7_isFine wsX7_isFine) := goodIn_app (goodIn_of _ (by decide +kernel)) ggX7_discard_X7_isFine
set_option maxRecDepth 20000 in
theorem ggX7_discard_X7_bit : GoodIn wsX7_discard wsX7_bit := goodIn_r _ [26] (by decide +kernel) (by decide +kernel)
set_option maxRecDepth 20000 in
theorem gX7_discard_X7_bit : GoodIn wsX7_discard (va_wsS RX7 77 yX7_bit wsX7_bit) := goodIn_app (goodIn_of _ (by decide +kernel)) ggX7_discard_X7_bit
set_option maxRecDepth 20000 in
theorem ggX7_discard_X7_begins : GoodIn wsX7_discard wsX7_begins := goodIn_r _ [30, 1, 31, 32, 33, 34, 35, 36, 37, 38, 39, 40, 41, 42, 43, 44, 45, 46, 47, 48, 49, 50, 51, 52, 53, 54, 55, 56, 57, 58, 59, 60, 61, 62, 63] (by decide +kernel) (by decide +kernel)
set_option maxRecDepth 20000 in
theorem gX7_discard_X7_begins : GoodIn wsX7_discard (wsV RX7 114 RX7 yX7_begins wsX7_begins) := goodIn_app (goodIn_of _ (by decide +kernel)) ggX7_discard_X7_begins
theorem dX7_discard_0 : decode cX7_discard 0 = .ok (.iload_n 1, 1) := by decide +kernel
theorem dX7_discard_1 : decode cX7_discard 1 = .ok (.invokestatic 131, 3) := by decide +kernel
theorem dX7_discard_4 : decode cX7_discard 4 = .ok (.ifCond .eq 39, 3) := by decide +kernel
theorem dX7_discard_7 : decode cX7_discard 7 = .ok (.aload_n 0, 1) := by decide +kernel
theorem dX7_discard_8 : decode cX7_discard 8 = .ok (.getfield 9, 3) := by decide +kernel
theorem dX7_discard_11 : decode cX7_discard 11 = .ok (.iconst 4, 1) := by decide +kernel
theorem dX7_discard_12 : decode cX7_discard 12 = .ok (.if_icmp .ne 31, 3) := by decide +kernel
theorem dX7_discard_15 : decode cX7_discard 15 = .ok (.aload_n 0, 1) := by decide +kernel
theorem dX7_discard_16 : decode cX7_discard 16 = .ok (.getfield 20, 3) := by decide +kernel
theorem dX7_discard_19 : decode cX7_discard 19 = .ok (.aload_n 0, 1) := by decide +kernel
theorem dX7_discard_20 : decode cX7_discard 20 = .ok (.getfield 31, 3) := by decide +kernel
theorem dX7_discard_23 : decode cX7_discard 23 = .ok (.laload, 1) := by decide +kernel
theorem dX7_discard_24 : decode cX7_discard 24 = .ok (.iload_n 1, 1) := by decide +kernel
theorem dX7_discard_25 : decode cX7_discard 25 = .ok (.invokestatic 124, 3) := by decide +kernel
theorem dX7_discard_28 : decode cX7_discard 28 = .ok (.ifCond .eq 15, 3) := by decide +kernel
theorem dX7_discard_31 : decode cX7_discard 31 = .ok (.iload_n 1, 1) := by decide +kernel
theorem dX7_discard_32 : decode cX7_discard 32 = .ok (.invokestatic 134, 3) := by decide +kernel
theorem dX7_discard_35 : decode cX7_discard 35 = .ok (.iconst 5, 1) := by decide +kernel
theorem dX7_discard_36 : decode cX7_discard 36 = .ok (.if_icmp .ge 7, 3) := by decide +kernel
theorem dX7_discard_39 : decode cX7_discard 39 = .ok (.iconst 1, 1) := by decide +kernel
theorem dX7_discard_40 : decode cX7_discard 40 = .ok (.goto 4, 3) := by decide +kernel
theorem dX7_discard_43 : decode cX7_discard 43 = .ok (.iconst 0, 1) := by decide +kernel
theorem dX7_discard_44 : decode cX7_discard 44 = .ok (.istore_n 2, 1) := by decide +kernel
theorem dX7_discard_45 : decode cX7_discard 45 = .ok (.aload_n 0, 1) := by decide +kernel
theorem dX7_discard_46 : decode cX7_discard 46 = .ok (.iload_n 1, 1) := by decide +kernel
theorem dX7_discard_47 : decode cX7_discard 47 = .ok (.invokestatic 131, 3) := by decide +kernel
theorem dX7_discard_50 : decode cX7_discard 50 = .ok (.ifCond .ne 7, 3) := by decide +kernel
theorem dX7_discard_53 : decode cX7_discard 53 = .ok (.iconst 1, 1) := by decide +kernel
theorem dX7_discard_54 : decode cX7_discard 54 = .ok (.goto 12, 3) := by decide +kernel
theorem dX7_discard_57 : decode cX7_discard 57 = .ok (.iload_n 2, 1) := by decide +kernel
theorem dX7_discard_58 : decode cX7_discard 58 = .ok (.ifCond .ne 7, 3) := by decide +kernel
theorem dX7_discard_61 : decode cX7_discard 61 = .ok (.iconst 2, 1) := by decide +kernel
theorem dX7_discard_62 : decode cX7_discard 62 = .ok (.goto 4, 3) := by decide +kernel
theorem dX7_discard_65 : decode cX7_discard 65 = .ok (.iconst 0, 1) := by decide +kernel
theorem dX7_discard_66 : decode cX7_discard 66 = .ok (.invokevirtual 66, 3) := by decide +kernel
theorem dX7_discard_69 : decode cX7_discard 69 = .ok (.ifCond .ne 5, 3) := by decide +kernel
theorem dX7_discard_72 : decode cX7_discard 72 = .ok (.iconst 0, 1) := by decide +kernel
theorem dX7_discard_73 : decode cX7_discard 73 = .ok (.ireturn, 1) := by decide +kernel
theorem dX7_discard_74 : decode cX7_discard 74 = .ok (.aload_n 0, 1) := by decide +kernel
theorem dX7_discard_75 : decode cX7_discard 75 = .ok (.getfield 20, 3) := by decide +kernel
theorem dX7_discard_78 : decode cX7_discard 78 = .ok (.aload_n 0, 1) := by decide +kernel
theorem dX7_discard_79 : decode cX7_discard 79 = .ok (.getfield 31, 3) := by decide +kernel
theorem dX7_discard_82 : decode cX7_discard 82 = .ok (.dup2, 1) := by decide +kernel
theorem dX7_discard_83 : decode cX7_discard 83 = .ok (.laload, 1) := by decide +kernel
theorem dX7_discard_84 : decode cX7_discard 84 = .ok (.iload_n 1, 1) := by decide +kernel
theorem dX7_discard_85 : decode cX7_discard 85 = .ok (.invokestatic 77, 3) := by decide +kernel
theorem dX7_discard_88 : decode cX7_discard 88 = .ok (.lsub, 1) := by decide +kernel
theorem dX7_discard_89 : decode cX7_discard 89 = .ok (.lastore, 1) := by decide +kernel
theorem dX7_discard_90 : decode cX7_discard 90 = .ok (.aload_n 0, 1) := by decide +kernel
theorem dX7_discard_91 : decode cX7_discard 91 = .ok (.dup, 1) := by decide +kernel
theorem dX7_discard_92 : decode cX7_discard 92 = .ok (.getfield 91, 3) := by decide +kernel
theorem dX7_discard_95 : decode cX7_discard 95 = .ok (.iload_n 1, 1) := by decide +kernel
theorem dX7_discard_96 : decode cX7_discard 96 = .ok (.invokestatic 77, 3) := by decide +kernel
theorem dX7_discard_99 : decode cX7_discard 99 = .ok (.lor, 1) := by decide +kernel
theorem dX7_discard_100 : decode cX7_discard 100 = .ok (.putfield 91, 3) := by decide +kernel
theorem dX7_discard_103 : decode cX7_discard 103 = .ok (.aload_n 0, 1) := by decide +kernel
theorem dX7_discard_104 : decode cX7_discard 104 = .ok (.dup, 1) := by decide +kernel
theorem dX7_discard_105 : decode cX7_discard 105 = .ok (.getfield 128, 3) := by decide +kernel
theorem dX7_discard_108 : decode cX7_discard 108 = .ok (.iconst 1, 1) := by decide +kernel
theorem dX7_discard_109 : decode cX7_discard 109 = .ok (.isub, 1) := by decide +kernel
theorem dX7_discard_110 : decode cX7_discard 110 = .ok (.putfield 128, 3) := by decide +kernel
theorem dX7_discard_113 : decode cX7_discard 113 = .ok (.aload_n 0, 1) := by decide +kernel
theorem dX7_discard_114 : decode cX7_discard 114 = .ok (.getfield 128, 3) := by decide +kernel
theorem dX7_discard_117 : decode cX7_discard 117 = .ok (.ifCond .ne 7, 3) := by decide +kernel
theorem dX7_discard_120 : decode cX7_discard 120 = .ok (.aload_n 0, 1) := by decide +kernel
theorem dX7_discard_121 : decode cX7_discard 121 = .ok (.invokevirtual 114, 3) := by decide +kernel
theorem dX7_discard_124 : decode cX7_discard 124 = .ok (.aload_n 0, 1) := by decide +kernel
theorem dX7_discard_125 : decode cX7_discard 125 = .ok (.getfield 128, 3) := by decide +kernel
theorem dX7_discard_128 : decode cX7_discard 128 = .ok (.ireturn, 1) := by decide +kernel
set_option maxRecDepth 20000 in
theorem ggX7_announce_X7_isIn : GoodIn wsX7_announce wsX7_isIn := goodIn_r _ [9] (by decide +kernel) (by decide +kernel)
set_option maxRecDepth 20000 in
theorem gX7_announce_X7_isIn : GoodIn wsX7_announce (va_wsS RX7 61 yX7_isIn wsX7_isIn) := goodIn_app (goodIn_of _ (by decide +kernel)) ggX7_announce_X7_isIn
set_option maxRecDepth 20000 in
theorem ggX7_announce_X7_isFine : GoodIn wsX7_announce wsX7_isFine := goodIn_r _ [13, 14, 15, 16, 17, 18, 19, 20, 21, 22, 23, 24, 25, 26, 27, 28, 29, 30, 31, 32, 33, 34, 35, 36, 37, 38, 39, 40, 41, 42, 43] (by decide +kernel) (by decide +kernel)
set_option maxRecDepth 20000 in
theorem gX7_announce_X7_isFine : GoodIn wsX7_announce (wsV RX7 66 RX7 yX7_isFine wsX7_isFine) := goodIn_app (goodIn_of _ (by decide +kernel)) ggX7_announce_X7_isFine
theorem dX7_announce_0 : decode cX7_announce 0 = .ok (.iload_n 1, 1) := by decide +kernel
theorem dX7_announce_1 : decode cX7_announce 1 = .ok (.iconst 0, 1) := by decide +kernel
theorem dX7_announce_2 : decode cX7_announce 2 = .ok (.iconst 1, 1) := by decide +kernel
theorem dX7_announce_3 : decode cX7_announce 3 = .ok (.invokestatic 61, 3) := by decide +kernel
theorem dX7_announce_6 : decode cX7_announce 6 = .ok (.istore_n 2, 1) := by decide +kernel
theorem dX7_announce_7 : decode cX7_announce 7 = .ok (.iload_n 2, 1) := by decide +kernel
theorem dX7_announce_8 : decode cX7_announce 8 = .ok (.ifCond .eq 50, 3) := by decide +kernel
theorem dX7_announce_11 : decode cX7_announce 11 = .ok (.aload_n 0, 1) := by decide +kernel
theorem dX7_announce_12 : decode cX7_announce 12 = .ok (.getfield 9, 3) := by decide +kernel
theorem dX7_announce_15 : decode cX7_announce 15 = .ok (.iconst 5, 1) := by decide +kernel
theorem dX7_announce_16 : decode cX7_announce 16 = .ok (.if_icmp .ne 42, 3) := by decide +kernel
theorem dX7_announce_19 : decode cX7_announce 19 = .ok (.aload_n 0, 1) := by decide +kernel
theorem dX7_announce_20 : decode cX7_announce 20 = .ok (.getfield 104, 3) := by decide +kernel
theorem dX7_announce_23 : decode cX7_announce 23 = .ok (.ifCond .ne 35, 3) := by decide +kernel
theorem dX7_announce_26 : decode cX7_announce 26 = .ok (.aload_n 0, 1) := by decide +kernel
theorem dX7_announce_27 : decode cX7_announce 27 = .ok (.getfield 101, 3) := by decide +kernel
theorem dX7_announce_30 : decode cX7_announce 30 = .ok (.ifCond .ne 28, 3) := by decide +kernel
theorem dX7_announce_33 : decode cX7_announce 33 = .ok (.aload_n 0, 1) := by decide +kernel
theorem dX7_announce_34 : decode cX7_announce 34 = .ok (.getfield 43, 3) := by decide +kernel
theorem dX7_announce_37 : decode cX7_announce 37 = .ok (.iload_n 1, 1) := by decide +kernel
theorem dX7_announce_38 : decode cX7_announce 38 = .ok (.baload, 1) := by decide +kernel
theorem dX7_announce_39 : decode cX7_announce 39 = .ok (.ifCond .ne 19, 3) := by decide +kernel
theorem dX7_announce_42 : decode cX7_announce 42 = .ok (.iload_n 1, 1) := by decide +kernel
theorem dX7_announce_43 : decode cX7_announce 43 = .ok (.ifCond .eq 11, 3) := by decide +kernel
theorem dX7_announce_46 : decode cX7_announce 46 = .ok (.aload_n 0, 1) := by decide +kernel
theorem dX7_announce_47 : decode cX7_announce 47 = .ok (.getfield 84, 3) := by decide +kernel
theorem dX7_announce_50 : decode cX7_announce 50 = .ok (.iconst 4, 1) := by decide +kernel
theorem dX7_announce_51 : decode cX7_announce 51 = .ok (.if_icmp .ge 7, 3) := by decide +kernel
theorem dX7_announce_54 : decode cX7_announce 54 = .ok (.iconst 1, 1) := by decide +kernel
theorem dX7_announce_55 : decode cX7_announce 55 = .ok (.goto 4, 3) := by decide +kernel
theorem dX7_announce_58 : decode cX7_announce 58 = .ok (.iconst 0, 1) := by decide +kernel
theorem dX7_announce_59 : decode cX7_announce 59 = .ok (.istore_n 3, 1) := by decide +kernel
theorem dX7_announce_60 : decode cX7_announce 60 = .ok (.aload_n 0, 1) := by decide +kernel
theorem dX7_announce_61 : decode cX7_announce 61 = .ok (.iload_n 2, 1) := by decide +kernel
theorem dX7_announce_62 : decode cX7_announce 62 = .ok (.ifCond .ne 7, 3) := by decide +kernel
theorem dX7_announce_65 : decode cX7_announce 65 = .ok (.iconst 1, 1) := by decide +kernel
theorem dX7_announce_66 : decode cX7_announce 66 = .ok (.goto 12, 3) := by decide +kernel
theorem dX7_announce_69 : decode cX7_announce 69 = .ok (.iload_n 3, 1) := by decide +kernel
theorem dX7_announce_70 : decode cX7_announce 70 = .ok (.ifCond .ne 7, 3) := by decide +kernel
theorem dX7_announce_73 : decode cX7_announce 73 = .ok (.iconst 2, 1) := by decide +kernel
theorem dX7_announce_74 : decode cX7_announce 74 = .ok (.goto 4, 3) := by decide +kernel
theorem dX7_announce_77 : decode cX7_announce 77 = .ok (.iconst 0, 1) := by decide +kernel
theorem dX7_announce_78 : decode cX7_announce 78 = .ok (.invokevirtual 66, 3) := by decide +kernel
theorem dX7_announce_81 : decode cX7_announce 81 = .ok (.ifCond .ne 5, 3) := by decide +kernel
theorem dX7_announce_84 : decode cX7_announce 84 = .ok (.iconst 0, 1) := by decide +kernel
theorem dX7_announce_85 : decode cX7_announce 85 = .ok (.ireturn, 1) := by decide +kernel
theorem dX7_announce_86 : decode cX7_announce 86 = .ok (.aload_n 0, 1) := by decide +kernel
theorem dX7_announce_87 : decode cX7_announce 87 = .ok (.getfield 43, 3) := by decide +kernel
theorem dX7_announce_90 : decode cX7_announce 90 = .ok (.iload_n 1, 1) := by decide +kernel
theorem dX7_announce_91 : decode cX7_announce 91 = .ok (.iconst 1, 1) := by decide +kernel
theorem dX7_announce_92 : decode cX7_announce 92 = .ok (.bastore, 1) := by decide +kernel
theorem dX7_announce_93 : decode cX7_announce 93 = .ok (.aload_n 0, 1) := by decide +kernel
theorem dX7_announce_94 : decode cX7_announce 94 = .ok (.getfield 43, 3) := by decide +kernel
theorem dX7_announce_97 : decode cX7_announce 97 = .ok (.iconst 0, 1) := by decide +kernel
theorem dX7_announce_98 : decode cX7_announce 98 = .ok (.baload, 1) := by decide +kernel
theorem dX7_announce_99 : decode cX7_announce 99 = .ok (.ifCond .eq 7, 3) := by decide +kernel
theorem dX7_announce_102 : decode cX7_announce 102 = .ok (.iconst 1, 1) := by decide +kernel
theorem dX7_announce_103 : decode cX7_announce 103 = .ok (.goto 4, 3) := by decide +kernel
theorem dX7_announce_106 : decode cX7_announce 106 = .ok (.iconst 0, 1) := by decide +kernel
theorem dX7_announce_107 : decode cX7_announce 107 = .ok (.aload_n 0, 1) := by decide +kernel
theorem dX7_announce_108 : decode cX7_announce 108 = .ok (.getfield 43, 3) := by decide +kernel
theorem dX7_announce_111 : decode cX7_announce 111 = .ok (.iconst 1, 1) := by decide +kernel
theorem dX7_announce_112 : decode cX7_announce 112 = .ok (.baload, 1) := by decide +kernel
theorem dX7_announce_113 : decode cX7_announce 113 = .ok (.ifCond .eq 7, 3) := by decide +kernel
theorem dX7_announce_116 : decode cX7_announce 116 = .ok (.iconst 1, 1) := by decide +kernel
theorem dX7_announce_117 : decode cX7_announce 117 = .ok (.goto 4, 3) := by decide +kernel
theorem dX7_announce_120 : decode cX7_announce 120 = .ok (.iconst 0, 1) := by decide +kernel
theorem dX7_announce_121 : decode cX7_announce 121 = .ok (.iadd, 1) := by decide +kernel
theorem dX7_announce_122 : decode cX7_announce 122 = .ok (.ireturn, 1) := by decide +kernel
set_option maxRecDepth 20000 in
theorem ggX7_hasSuit_X7_has : GoodIn wsX7_hasSuit wsX7_has := goodIn_r _ [4] (by decide +kernel) (by decide +kernel)
set_option maxRecDepth 20000 in
theorem gX7_hasSuit_X7_has : GoodIn wsX7_hasSuit (va_wsS RX7 124 yX7_has wsX7_has) := goodIn_app (goodIn_of _ (by decide +kernel)) ggX7_hasSuit_X7_has
set_option maxRecDepth 20000 in
theorem ggX7_hasSuit_X7_suit : GoodIn wsX7_hasSuit wsX7_suit := goodIn_r _ [7] (by decide +kernel) (by decide +kernel)
set_option maxRecDepth 20000 in
theorem gX7_hasSuit_X7_suit : GoodIn wsX7_hasSuit (va_wsS RX7 137 yX7_suit wsX7_suit) := goodIn_app (goodIn_of _ (by decide +kernel)) ggX7_hasSuit_X7_suit
theorem dX7_hasSuit_0 : decode cX7_hasSuit 0 = .ok (.iconst 0, 1) := by decide +kernel
theorem dX7_hasSuit_1 : decode cX7_hasSuit 1 = .ok (.istore_n 3, 1) := by decide +kernel
theorem dX7_hasSuit_2 : decode cX7_hasSuit 2 = .ok (.iconst 0, 1) := by decide +kernel
theorem dX7_hasSuit_3 : decode cX7_hasSuit 3 = .ok (.istore 4, 2) := by decide +kernel
theorem dX7_hasSuit_5 : decode cX7_hasSuit 5 = .ok (.iload 4, 2) := by decide +kernel
theorem dX7_hasSuit_7 : decode cX7_hasSuit 7 = .ok (.bipush 54, 2) := by decide +kernel
theorem dX7_hasSuit_9 : decode cX7_hasSuit 9 = .ok (.if_icmp .ge 37, 3) := by decide +kernel
theorem dX7_hasSuit_12 : decode cX7_hasSuit 12 = .ok (.iload_n 3, 1) := by decide +kernel
theorem dX7_hasSuit_13 : decode cX7_hasSuit 13 = .ok (.ifCond .ne 21, 3) := by decide +kernel
theorem dX7_hasSuit_16 : decode cX7_hasSuit 16 = .ok (.lload_n 0, 1) := by decide +kernel
theorem dX7_hasSuit_17 : decode cX7_hasSuit 17 = .ok (.iload 4, 2) := by decide +kernel
theorem dX7_hasSuit_19 : decode cX7_hasSuit 19 = .ok (.invokestatic 124, 3) := by decide +kernel
theorem dX7_hasSuit_22 : decode cX7_hasSuit 22 = .ok (.ifCond .eq 16, 3) := by decide +kernel
theorem dX7_hasSuit_25 : decode cX7_hasSuit 25 = .ok (.iload 4, 2) := by decide +kernel
theorem dX7_hasSuit_27 : decode cX7_hasSuit 27 = .ok (.invokestatic 137, 3) := by decide +kernel
theorem dX7_hasSuit_30 : decode cX7_hasSuit 30 = .ok (.iload_n 2, 1) := by decide +kernel
theorem dX7_hasSuit_31 : decode cX7_hasSuit 31 = .ok (.if_icmp .ne 7, 3) := by decide +kernel
theorem dX7_hasSuit_34 : decode cX7_hasSuit 34 = .ok (.iconst 1, 1) := by decide +kernel
theorem dX7_hasSuit_35 : decode cX7_hasSuit 35 = .ok (.goto 4, 3) := by decide +kernel
theorem dX7_hasSuit_38 : decode cX7_hasSuit 38 = .ok (.iconst 0, 1) := by decide +kernel
theorem dX7_hasSuit_39 : decode cX7_hasSuit 39 = .ok (.istore_n 3, 1) := by decide +kernel
theorem dX7_hasSuit_40 : decode cX7_hasSuit 40 = .ok (.iinc 4 1, 3) := by decide +kernel
theorem dX7_hasSuit_43 : decode cX7_hasSuit 43 = .ok (.goto (-38), 3) := by decide +kernel
theorem dX7_hasSuit_46 : decode cX7_hasSuit 46 = .ok (.iload_n 3, 1) := by decide +kernel
theorem dX7_hasSuit_47 : decode cX7_hasSuit 47 = .ok (.ireturn, 1) := by decide +kernel
set_option maxRecDepth 20000 in
theorem ggX7_isPlayable_X7_has : GoodIn wsX7_isPlayable wsX7_has := goodIn_r _ [9] (by decide +kernel) (by decide +kernel)
set_option maxRecDepth 20000 in
theorem gX7_isPlayable_X7_has : GoodIn wsX7_isPlayable (va_wsS RX7 124 yX7_has wsX7_has) := goodIn_app (goodIn_of _ (by decide +kernel)) ggX7_isPlayable_X7_has
set_option maxRecDepth 20000 in
theorem ggX7_isPlayable_X7_suit : GoodIn wsX7_isPlayable wsX7_suit := goodIn_r _ [12] (by decide +kernel) (by decide +kernel)
set_option maxRecDepth 20000 in
theorem gX7_isPlayable_X7_suit : GoodIn wsX7_isPlayable (va_wsS RX7 137 yX7_suit wsX7_suit) := goodIn_app (goodIn_of _ (by decide +kernel)) ggX7_isPlayable_X7_suit
set_option maxRecDepth 20000 in
theorem ggX7_isPlayable_X7_hasSuit : GoodIn wsX7_isPlayable wsX7_hasSuit := goodIn_r _ [15, 6, 7, 8, 9, 10, 11, 12] (by decide +kernel) (by decide +kernel)
set_option maxRecDepth 20000 in
theorem gX7_isPlayable_X7_hasSuit : GoodIn wsX7_isPlayable (va_wsS RX7 140 yX7_hasSuit wsX7_hasSuit) := goodIn_app (goodIn_of _ (by decide +kernel)) ggX7_isPlayable_X7_hasSuit
theorem dX7_isPlayable_0 : decode cX7_isPlayable 0 = .ok (.aload_n 0, 1) := by decide +kernel
theorem dX7_isPlayable_1 : decode cX7_isPlayable 1 = .ok (.getfield 9, 3) := by decide +kernel
theorem dX7_isPlayable_4 : decode cX7_isPlayable 4 = .ok (.iconst 5, 1) := by decide +kernel
theorem dX7_isPlayable_5 : decode cX7_isPlayable 5 = .ok (.if_icmp .ne 19, 3) := by decide +kernel
theorem dX7_isPlayable_8 : decode cX7_isPlayable 8 = .ok (.aload_n 0, 1) := by decide +kernel
theorem dX7_isPlayable_9 : decode cX7_isPlayable 9 = .ok (.getfield 20, 3) := by decide +kernel
theorem dX7_isPlayable_12 : decode cX7_isPlayable 12 = .ok (.aload_n 0, 1) := by decide +kernel
theorem dX7_isPlayable_13 : decode cX7_isPlayable 13 = .ok (.getfield 13, 3) := by decide +kernel
theorem dX7_isPlayable_16 : decode cX7_isPlayable 16 = .ok (.laload, 1) := by decide +kernel
theorem dX7_isPlayable_17 : decode cX7_isPlayable 17 = .ok (.iload_n 1, 1) := by decide +kernel
theorem dX7_isPlayable_18 : decode cX7_isPlayable 18 = .ok (.invokestatic 124, 3) := by decide +kernel
theorem dX7_isPlayable_21 : decode cX7_isPlayable 21 = .ok (.ifCond .ne 5, 3) := by decide +kernel
theorem dX7_isPlayable_24 : decode cX7_isPlayable 24 = .ok (.iconst 0, 1) := by decide +kernel
theorem dX7_isPlayable_25 : decode cX7_isPlayable 25 = .ok (.ireturn, 1) := by decide +kernel
theorem dX7_isPlayable_26 : decode cX7_isPlayable 26 = .ok (.aload_n 0, 1) := by decide +kernel
theorem dX7_isPlayable_27 : decode cX7_isPlayable 27 = .ok (.getfield 101, 3) := by decide +kernel
theorem dX7_isPlayable_30 : decode cX7_isPlayable 30 = .ok (.ifCond .ne 5, 3) := by decide +kernel
theorem dX7_isPlayable_33 : decode cX7_isPlayable 33 = .ok (.iconst 1, 1) := by decide +kernel
theorem dX7_isPlayable_34 : decode cX7_isPlayable 34 = .ok (.ireturn, 1) := by decide +kernel
theorem dX7_isPlayable_35 : decode cX7_isPlayable 35 = .ok (.aload_n 0, 1) := by decide +kernel
theorem dX7_isPlayable_36 : decode cX7_isPlayable 36 = .ok (.getfield 46, 3) := by decide +kernel
theorem dX7_isPlayable_39 : decode cX7_isPlayable 39 = .ok (.iconst 0, 1) := by decide +kernel
theorem dX7_isPlayable_40 : decode cX7_isPlayable 40 = .ok (.iaload, 1) := by decide +kernel
theorem dX7_isPlayable_41 : decode cX7_isPlayable 41 = .ok (.invokestatic 137, 3) := by decide +kernel
theorem dX7_isPlayable_44 : decode cX7_isPlayable 44 = .ok (.istore_n 2, 1) := by decide +kernel
theorem dX7_isPlayable_45 : decode cX7_isPlayable 45 = .ok (.aload_n 0, 1) := by decide +kernel
theorem dX7_isPlayable_46 : decode cX7_isPlayable 46 = .ok (.getfield 20, 3) := by decide +kernel
theorem dX7_isPlayable_49 : decode cX7_isPlayable 49 = .ok (.aload_n 0, 1) := by decide +kernel
theorem dX7_isPlayable_50 : decode cX7_isPlayable 50 = .ok (.getfield 13, 3) := by decide +kernel
theorem dX7_isPlayable_53 : decode cX7_isPlayable 53 = .ok (.laload, 1) := by decide +kernel
theorem dX7_isPlayable_54 : decode cX7_isPlayable 54 = .ok (.iload_n 2, 1) := by decide +kernel
theorem dX7_isPlayable_55 : decode cX7_isPlayable 55 = .ok (.invokestatic 140, 3) := by decide +kernel
theorem dX7_isPlayable_58 : decode cX7_isPlayable 58 = .ok (.ifCond .eq 17, 3) := by decide +kernel
theorem dX7_isPlayable_61 : decode cX7_isPlayable 61 = .ok (.iload_n 1, 1) := by decide +kernel
theorem dX7_isPlayable_62 : decode cX7_isPlayable 62 = .ok (.invokestatic 137, 3) := by decide +kernel
theorem dX7_isPlayable_65 : decode cX7_isPlayable 65 = .ok (.iload_n 2, 1) := by decide +kernel
theorem dX7_isPlayable_66 : decode cX7_isPlayable 66 = .ok (.if_icmp .ne 7, 3) := by decide +kernel
theorem dX7_isPlayable_69 : decode cX7_isPlayable 69 = .ok (.iconst 1, 1) := by decide +kernel
theorem dX7_isPlayable_70 : decode cX7_isPlayable 70 = .ok (.goto 4, 3) := by decide +kernel
theorem dX7_isPlayable_73 : decode cX7_isPlayable 73 = .ok (.iconst 0, 1) := by decide +kernel
theorem dX7_isPlayable_74 : decode cX7_isPlayable 74 = .ok (.ireturn, 1) := by decide +kernel
theorem dX7_isPlayable_75 : decode cX7_isPlayable 75 = .ok (.iload_n 1, 1) := by decide +kernel
theorem dX7_isPlayable_76 : decode cX7_isPlayable 76 = .ok (.invokestatic 137, 3) := by decide +kernel
theorem dX7_isPlayable_79 : decode cX7_isPlayable 79 = .ok (.iconst 4, 1) := by decide +kernel
theorem dX7_isPlayable_80 : decode cX7_isPlayable 80 = .ok (.if_icmp .eq 19, 3) := by decide +kernel
theorem dX7_isPlayable_83 : decode cX7_isPlayable 83 = .ok (.aload_n 0, 1) := by decide +kernel
theorem dX7_isPlayable_84 : decode cX7_isPlayable 84 = .ok (.getfield 20, 3) := by decide +kernel
theorem dX7_isPlayable_87 : decode cX7_isPlayable 87 = .ok (.aload_n 0, 1) := by decide +kernel
theorem dX7_isPlayable_88 : decode cX7_isPlayable 88 = .ok (.getfield 13, 3) := by decide +kernel
theorem dX7_isPlayable_91 : decode cX7_isPlayable 91 = .ok (.laload, 1) := by decide +kernel
theorem dX7_isPlayable_92 : decode cX7_isPlayable 92 = .ok (.iconst 4, 1) := by decide +kernel
theorem dX7_isPlayable_93 : decode cX7_isPlayable 93 = .ok (.invokestatic 140, 3) := by decide +kernel
theorem dX7_isPlayable_96 : decode cX7_isPlayable 96 = .ok (.ifCond .ne 7, 3) := by decide +kernel
theorem dX7_isPlayable_99 : decode cX7_isPlayable 99 = .ok (.iconst 1, 1) := by decide +kernel
theorem dX7_isPlayable_100 : decode cX7_isPlayable 100 = .ok (.goto 4, 3) := by decide +kernel
theorem dX7_isPlayable_103 : decode cX7_isPlayable 103 = .ok (.iconst 0, 1) := by decide +kernel
theorem dX7_isPlayable_104 : decode cX7_isPlayable 104 = .ok (.ireturn, 1) := by decide +kernel
set_option maxRecDepth 20000 in
theorem ggX7_best_X7_suit : GoodIn wsX7_best wsX7_suit := goodIn_r _ [6] (by decide +kernel) (by decide +kernel)
set_option maxRecDepth 20000 in
theorem gX7_best_X7_suit : GoodIn wsX7_best (va_wsS RX7 137 yX7_suit wsX7_suit) := goodIn_app (goodIn_of _ (by decide +kernel)) ggX7_best_X7_suit
theorem dX7_best_0 : decode cX7_best 0 = .ok (.iconst 0, 1) := by decide +kernel
theorem dX7_best_1 : decode cX7_best 1 = .ok (.istore_n 1, 1) := by decide +kernel
theorem dX7_best_2 : decode cX7_best 2 = .ok (.iconst 1, 1) := by decide +kernel
theorem dX7_best_3 : decode cX7_best 3 = .ok (.istore_n 2, 1) := by decide +kernel
theorem dX7_best_4 : decode cX7_best 4 = .ok (.iload_n 2, 1) := by decide +kernel
theorem dX7_best_5 : decode cX7_best 5 = .ok (.aload_n 0, 1) := by decide +kernel
theorem dX7_best_6 : decode cX7_best 6 = .ok (.getfield 101, 3) := by decide +kernel
theorem dX7_best_9 : decode cX7_best 9 = .ok (.if_icmp .ge 82, 3) := by decide +kernel
theorem dX7_best_12 : decode cX7_best 12 = .ok (.aload_n 0, 1) := by decide +kernel
theorem dX7_best_13 : decode cX7_best 13 = .ok (.getfield 46, 3) := by decide +kernel
theorem dX7_best_16 : decode cX7_best 16 = .ok (.iload_n 2, 1) := by decide +kernel
theorem dX7_best_17 : decode cX7_best 17 = .ok (.iaload, 1) := by decide +kernel
theorem dX7_best_18 : decode cX7_best 18 = .ok (.invokestatic 137, 3) := by decide +kernel
theorem dX7_best_21 : decode cX7_best 21 = .ok (.aload_n 0, 1) := by decide +kernel
theorem dX7_best_22 : decode cX7_best 22 = .ok (.getfield 46, 3) := by decide +kernel
theorem dX7_best_25 : decode cX7_best 25 = .ok (.iload_n 1, 1) := by decide +kernel
theorem dX7_best_26 : decode cX7_best 26 = .ok (.iaload, 1) := by decide +kernel
theorem dX7_best_27 : decode cX7_best 27 = .ok (.invokestatic 137, 3) := by decide +kernel
theorem dX7_best_30 : decode cX7_best 30 = .ok (.if_icmp .ne 26, 3) := by decide +kernel
theorem dX7_best_33 : decode cX7_best 33 = .ok (.aload_n 0, 1) := by decide +kernel
theorem dX7_best_34 : decode cX7_best 34 = .ok (.getfield 46, 3) := by decide +kernel
theorem dX7_best_37 : decode cX7_best 37 = .ok (.iload_n 2, 1) := by decide +kernel
theorem dX7_best_38 : decode cX7_best 38 = .ok (.iaload, 1) := by decide +kernel
theorem dX7_best_39 : decode cX7_best 39 = .ok (.aload_n 0, 1) := by decide +kernel
theorem dX7_best_40 : decode cX7_best 40 = .ok (.getfield 46, 3) := by decide +kernel
theorem dX7_best_43 : decode cX7_best 43 = .ok (.iload_n 1, 1) := by decide +kernel
theorem dX7_best_44 : decode cX7_best 44 = .ok (.iaload, 1) := by decide +kernel
theorem dX7_best_45 : decode cX7_best 45 = .ok (.if_icmp .le 7, 3) := by decide +kernel
theorem dX7_best_48 : decode cX7_best 48 = .ok (.iconst 1, 1) := by decide +kernel
theorem dX7_best_49 : decode cX7_best 49 = .ok (.goto 25, 3) := by decide +kernel
theorem dX7_best_52 : decode cX7_best 52 = .ok (.iconst 0, 1) := by decide +kernel
theorem dX7_best_53 : decode cX7_best 53 = .ok (.goto 21, 3) := by decide +kernel
theorem dX7_best_56 : decode cX7_best 56 = .ok (.aload_n 0, 1) := by decide +kernel
theorem dX7_best_57 : decode cX7_best 57 = .ok (.getfield 46, 3) := by decide +kernel
theorem dX7_best_60 : decode cX7_best 60 = .ok (.iload_n 2, 1) := by decide +kernel
theorem dX7_best_61 : decode cX7_best 61 = .ok (.iaload, 1) := by decide +kernel
theorem dX7_best_62 : decode cX7_best 62 = .ok (.invokestatic 137, 3) := by decide +kernel
theorem dX7_best_65 : decode cX7_best 65 = .ok (.iconst 4, 1) := by decide +kernel
theorem dX7_best_66 : decode cX7_best 66 = .ok (.if_icmp .ne 7, 3) := by decide +kernel
theorem dX7_best_69 : decode cX7_best 69 = .ok (.iconst 1, 1) := by decide +kernel
theorem dX7_best_70 : decode cX7_best 70 = .ok (.goto 4, 3) := by decide +kernel
theorem dX7_best_73 : decode cX7_best 73 = .ok (.iconst 0, 1) := by decide +kernel
theorem dX7_best_74 : decode cX7_best 74 = .ok (.istore_n 3, 1) := by decide +kernel
theorem dX7_best_75 : decode cX7_best 75 = .ok (.iload_n 3, 1) := by decide +kernel
theorem dX7_best_76 : decode cX7_best 76 = .ok (.ifCond .eq 7, 3) := by decide +kernel
theorem dX7_best_79 : decode cX7_best 79 = .ok (.iload_n 2, 1) := by decide +kernel
theorem dX7_best_80 : decode cX7_best 80 = .ok (.goto 4, 3) := by decide +kernel
theorem dX7_best_83 : decode cX7_best 83 = .ok (.iload_n 1, 1) := by decide +kernel
theorem dX7_best_84 : decode cX7_best 84 = .ok (.istore_n 1, 1) := by decide +kernel
theorem dX7_best_85 : decode cX7_best 85 = .ok (.iinc 2 1, 3) := by decide +kernel
theorem dX7_best_88 : decode cX7_best 88 = .ok (.goto (-84), 3) := by decide +kernel
theorem dX7_best_91 : decode cX7_best 91 = .ok (.iload_n 1, 1) := by decide +kernel
theorem dX7_best_92 : decode cX7_best 92 = .ok (.ireturn, 1) := by decide +kernel
theorem dX7_sideOf_0 : decode cX7_sideOf 0 = .ok (.iload_n 1, 1) := by decide +kernel
theorem dX7_sideOf_1 : decode cX7_sideOf 1 = .ok (.aload_n 0, 1) := by decide +kernel
theorem dX7_sideOf_2 : decode cX7_sideOf 2 = .ok (.getfield 31, 3) := by decide +kernel
theorem dX7_sideOf_5 : decode cX7_sideOf 5 = .ok (.if_icmp .eq 19, 3) := by decide +kernel
theorem dX7_sideOf_8 : decode cX7_sideOf 8 = .ok (.iload_n 1, 1) := by decide +kernel
theorem dX7_sideOf_9 : decode cX7_sideOf 9 = .ok (.aload_n 0, 1) := by decide +kernel
theorem dX7_sideOf_10 : decode cX7_sideOf 10 = .ok (.getfield 37, 3) := by decide +kernel
theorem dX7_sideOf_13 : decode cX7_sideOf 13 = .ok (.if_icmp .ne 15, 3) := by decide +kernel
theorem dX7_sideOf_16 : decode cX7_sideOf 16 = .ok (.aload_n 0, 1) := by decide +kernel
theorem dX7_sideOf_17 : decode cX7_sideOf 17 = .ok (.getfield 37, 3) := by decide +kernel
theorem dX7_sideOf_20 : decode cX7_sideOf 20 = .ok (.iconst (-1), 1) := by decide +kernel
theorem dX7_sideOf_21 : decode cX7_sideOf 21 = .ok (.if_icmp .eq 7, 3) := by decide +kernel
theorem dX7_sideOf_24 : decode cX7_sideOf 24 = .ok (.iconst 0, 1) := by decide +kernel
theorem dX7_sideOf_25 : decode cX7_sideOf 25 = .ok (.goto 4, 3) := by decide +kernel
theorem dX7_sideOf_28 : decode cX7_sideOf 28 = .ok (.iconst 1, 1) := by decide +kernel
theorem dX7_sideOf_29 : decode cX7_sideOf 29 = .ok (.ireturn, 1) := by decide +kernel
set_option maxRecDepth 20000 in
theorem ggX7_cardsOf_X7_sideOf : GoodIn wsX7_cardsOf wsX7_sideOf := goodIn_r _ [9, 10, 11, 12, 13, 14, 15, 16, 17, 18, 19, 20, 21, 22, 23, 24, 25, 26, 27, 28, 29, 30, 31, 32, 33, 34, 35, 36, 37, 38, 39, 40] (by decide +kernel) (by decide +kernel)
set_option maxRecDepth 20000 in
theorem gX7_cardsOf_X7_sideOf : GoodIn wsX7_cardsOf (wsV RX7 143 RX7 yX7_sideOf wsX7_sideOf) := goodIn_app (goodIn_of _ (by decide +kernel)) ggX7_cardsOf_X7_sideOf
theorem dX7_cardsOf_0 : decode cX7_cardsOf 0 = .ok (.iload_n 1, 1) := by decide +kernel
theorem dX7_cardsOf_1 : decode cX7_cardsOf 1 = .ok (.ifCond .ne 10, 3) := by decide +kernel
theorem dX7_cardsOf_4 : decode cX7_cardsOf 4 = .ok (.aload_n 0, 1) := by decide +kernel
theorem dX7_cardsOf_5 : decode cX7_cardsOf 5 = .ok (.getfield 91, 3) := by decide +kernel
theorem dX7_cardsOf_8 : decode cX7_cardsOf 8 = .ok (.goto 7, 3) := by decide +kernel
theorem dX7_cardsOf_11 : decode cX7_cardsOf 11 = .ok (.aload_n 0, 1) := by decide +kernel
theorem dX7_cardsOf_12 : decode cX7_cardsOf 12 = .ok (.getfield 95, 3) := by decide +kernel
theorem dX7_cardsOf_15 : decode cX7_cardsOf 15 = .ok (.lstore_n 2, 1) := by decide +kernel
theorem dX7_cardsOf_16 : decode cX7_cardsOf 16 = .ok (.iconst 0, 1) := by decide +kernel
theorem dX7_cardsOf_17 : decode cX7_cardsOf 17 = .ok (.istore 4, 2) := by decide +kernel
theorem dX7_cardsOf_19 : decode cX7_cardsOf 19 = .ok (.iload 4, 2) := by decide +kernel
theorem dX7_cardsOf_21 : decode cX7_cardsOf 21 = .ok (.iconst 4, 1) := by decide +kernel
theorem dX7_cardsOf_22 : decode cX7_cardsOf 22 = .ok (.if_icmp .ge 33, 3) := by decide +kernel
theorem dX7_cardsOf_25 : decode cX7_cardsOf 25 = .ok (.lload_n 2, 1) := by decide +kernel
theorem dX7_cardsOf_26 : decode cX7_cardsOf 26 = .ok (.aload_n 0, 1) := by decide +kernel
theorem dX7_cardsOf_27 : decode cX7_cardsOf 27 = .ok (.iload 4, 2) := by decide +kernel
theorem dX7_cardsOf_29 : decode cX7_cardsOf 29 = .ok (.invokevirtual 143, 3) := by decide +kernel
theorem dX7_cardsOf_32 : decode cX7_cardsOf 32 = .ok (.iload_n 1, 1) := by decide +kernel
theorem dX7_cardsOf_33 : decode cX7_cardsOf 33 = .ok (.if_icmp .ne 13, 3) := by decide +kernel
theorem dX7_cardsOf_36 : decode cX7_cardsOf 36 = .ok (.aload_n 0, 1) := by decide +kernel
theorem dX7_cardsOf_37 : decode cX7_cardsOf 37 = .ok (.getfield 49, 3) := by decide +kernel
theorem dX7_cardsOf_40 : decode cX7_cardsOf 40 = .ok (.iload 4, 2) := by decide +kernel
theorem dX7_cardsOf_42 : decode cX7_cardsOf 42 = .ok (.laload, 1) := by decide +kernel
theorem dX7_cardsOf_43 : decode cX7_cardsOf 43 = .ok (.goto 4, 3) := by decide +kernel
theorem dX7_cardsOf_46 : decode cX7_cardsOf 46 = .ok (.lconst 0, 1) := by decide +kernel
theorem dX7_cardsOf_47 : decode cX7_cardsOf 47 = .ok (.lor, 1) := by decide +kernel
theorem dX7_cardsOf_48 : decode cX7_cardsOf 48 = .ok (.lstore_n 2, 1) := by decide +kernel
theorem dX7_cardsOf_49 : decode cX7_cardsOf 49 = .ok (.iinc 4 1, 3) := by decide +kernel
theorem dX7_cardsOf_52 : decode cX7_cardsOf 52 = .ok (.goto (-33), 3) := by decide +kernel
theorem dX7_cardsOf_55 : decode cX7_cardsOf 55 = .ok (.aload_n 0, 1) := by decide +kernel
theorem dX7_cardsOf_56 : decode cX7_cardsOf 56 = .ok (.getfield 98, 3) := by decide +kernel
theorem dX7_cardsOf_59 : decode cX7_cardsOf 59 = .ok (.ifCond .eq 7, 3) := by decide +kernel
theorem dX7_cardsOf_62 : decode cX7_cardsOf 62 = .ok (.lload_n 2, 1) := by decide +kernel
theorem dX7_cardsOf_63 : decode cX7_cardsOf 63 = .ok (.goto 4, 3) := by decide +kernel
theorem dX7_cardsOf_66 : decode cX7_cardsOf 66 = .ok (.lconst 0, 1) := by decide +kernel
theorem dX7_cardsOf_67 : decode cX7_cardsOf 67 = .ok (.lreturn, 1) := by decide +kernel
set_option maxRecDepth 20000 in
theorem ggX7_counted_X7_cardsOf : GoodIn wsX7_counted wsX7_cardsOf := goodIn_r _ [5, 6, 7, 8, 9, 10, 11, 12, 4, 13, 14, 15, 22, 23, 24, 25, 26, 27, 28, 29, 30, 31, 32, 33, 34, 35, 36, 37, 38, 39, 40, 41, 42, 43, 44, 45, 46, 47, 48, 49, 50] (by decide +kernel) (by decide +kernel)
set_option maxRecDepth 20000 in
theorem gX7_counted_X7_cardsOf : GoodIn wsX7_counted (wsV RX7 146 RX7 yX7_cardsOf wsX7_cardsOf) := goodIn_app (goodIn_of _ (by decide +kernel)) ggX7_counted_X7_cardsOf
set_option maxRecDepth 20000 in
theorem ggX7_counted_X7_has : GoodIn wsX7_counted wsX7_has := goodIn_r _ [18] (by decide +kernel) (by decide +kernel)
set_option maxRecDepth 20000 in
theorem gX7_counted_X7_has : GoodIn wsX7_counted (va_wsS RX7 124 yX7_has wsX7_has) := goodIn_app (goodIn_of _ (by decide +kernel)) ggX7_counted_X7_has
set_option maxRecDepth 20000 in
theorem ggX7_counted_X7_worth : GoodIn wsX7_counted wsX7_worth := goodIn_r _ [21] (by decide +kernel) (by decide +kernel)
set_option maxRecDepth 20000 in
theorem gX7_counted_X7_worth : GoodIn wsX7_counted (va_wsS RX7 134 yX7_worth wsX7_worth) := goodIn_app (goodIn_of _ (by decide +kernel)) ggX7_counted_X7_worth
theorem dX7_counted_0 : decode cX7_counted 0 = .ok (.iconst 0, 1) := by decide +kernel
theorem dX7_counted_1 : decode cX7_counted 1 = .ok (.istore_n 2, 1) := by decide +kernel
theorem dX7_counted_2 : decode cX7_counted 2 = .ok (.iconst 0, 1) := by decide +kernel
theorem dX7_counted_3 : decode cX7_counted 3 = .ok (.istore_n 3, 1) := by decide +kernel
theorem dX7_counted_4 : decode cX7_counted 4 = .ok (.iload_n 3, 1) := by decide +kernel
theorem dX7_counted_5 : decode cX7_counted 5 = .ok (.bipush 54, 2) := by decide +kernel
theorem dX7_counted_7 : decode cX7_counted 7 = .ok (.if_icmp .ge 36, 3) := by decide +kernel
theorem dX7_counted_10 : decode cX7_counted 10 = .ok (.iload_n 2, 1) := by decide +kernel
theorem dX7_counted_11 : decode cX7_counted 11 = .ok (.aload_n 0, 1) := by decide +kernel
theorem dX7_counted_12 : decode cX7_counted 12 = .ok (.iload_n 1, 1) := by decide +kernel
theorem dX7_counted_13 : decode cX7_counted 13 = .ok (.invokevirtual 146, 3) := by decide +kernel
theorem dX7_counted_16 : decode cX7_counted 16 = .ok (.iload_n 3, 1) := by decide +kernel
theorem dX7_counted_17 : decode cX7_counted 17 = .ok (.invokestatic 124, 3) := by decide +kernel
theorem dX7_counted_20 : decode cX7_counted 20 = .ok (.ifCond .eq 14, 3) := by decide +kernel
theorem dX7_counted_23 : decode cX7_counted 23 = .ok (.iconst 3, 1) := by decide +kernel
theorem dX7_counted_24 : decode cX7_counted 24 = .ok (.iload_n 3, 1) := by decide +kernel
theorem dX7_counted_25 : decode cX7_counted 25 = .ok (.invokestatic 134, 3) := by decide +kernel
theorem dX7_counted_28 : decode cX7_counted 28 = .ok (.imul, 1) := by decide +kernel
theorem dX7_counted_29 : decode cX7_counted 29 = .ok (.iconst 2, 1) := by decide +kernel
theorem dX7_counted_30 : decode cX7_counted 30 = .ok (.isub, 1) := by decide +kernel
theorem dX7_counted_31 : decode cX7_counted 31 = .ok (.goto 4, 3) := by decide +kernel
theorem dX7_counted_34 : decode cX7_counted 34 = .ok (.iconst 0, 1) := by decide +kernel
theorem dX7_counted_35 : decode cX7_counted 35 = .ok (.iadd, 1) := by decide +kernel
theorem dX7_counted_36 : decode cX7_counted 36 = .ok (.istore_n 2, 1) := by decide +kernel
theorem dX7_counted_37 : decode cX7_counted 37 = .ok (.iinc 3 1, 3) := by decide +kernel
theorem dX7_counted_40 : decode cX7_counted 40 = .ok (.goto (-36), 3) := by decide +kernel
theorem dX7_counted_43 : decode cX7_counted 43 = .ok (.iload_n 2, 1) := by decide +kernel
theorem dX7_counted_44 : decode cX7_counted 44 = .ok (.ireturn, 1) := by decide +kernel
theorem dX7_placeOf_0 : decode cX7_placeOf 0 = .ok (.iconst 0, 1) := by decide +kernel
theorem dX7_placeOf_1 : decode cX7_placeOf 1 = .ok (.istore_n 2, 1) := by decide +kernel
theorem dX7_placeOf_2 : decode cX7_placeOf 2 = .ok (.iload_n 2, 1) := by decide +kernel
theorem dX7_placeOf_3 : decode cX7_placeOf 3 = .ok (.aload_n 0, 1) := by decide +kernel
theorem dX7_placeOf_4 : decode cX7_placeOf 4 = .ok (.getfield 101, 3) := by decide +kernel
theorem dX7_placeOf_7 : decode cX7_placeOf 7 = .ok (.if_icmp .ge 21, 3) := by decide +kernel
theorem dX7_placeOf_10 : decode cX7_placeOf 10 = .ok (.aload_n 0, 1) := by decide +kernel
theorem dX7_placeOf_11 : decode cX7_placeOf 11 = .ok (.getfield 46, 3) := by decide +kernel
theorem dX7_placeOf_14 : decode cX7_placeOf 14 = .ok (.iload_n 2, 1) := by decide +kernel
theorem dX7_placeOf_15 : decode cX7_placeOf 15 = .ok (.iaload, 1) := by decide +kernel
theorem dX7_placeOf_16 : decode cX7_placeOf 16 = .ok (.iload_n 1, 1) := by decide +kernel
theorem dX7_placeOf_17 : decode cX7_placeOf 17 = .ok (.if_icmp .ne 5, 3) := by decide +kernel
theorem dX7_placeOf_20 : decode cX7_placeOf 20 = .ok (.iload_n 2, 1) := by decide +kernel
theorem dX7_placeOf_21 : decode cX7_placeOf 21 = .ok (.ireturn, 1) := by decide +kernel
theorem dX7_placeOf_22 : decode cX7_placeOf 22 = .ok (.iinc 2 1, 3) := by decide +kernel
theorem dX7_placeOf_25 : decode cX7_placeOf 25 = .ok (.goto (-23), 3) := by decide +kernel
theorem dX7_placeOf_28 : decode cX7_placeOf 28 = .ok (.iconst (-1), 1) := by decide +kernel
theorem dX7_placeOf_29 : decode cX7_placeOf 29 = .ok (.ireturn, 1) := by decide +kernel
set_option maxRecDepth 20000 in
theorem ggX7_pagatCount_X7_placeOf : GoodIn wsX7_pagatCount wsX7_placeOf := goodIn_r _ [7, 8, 9, 23, 24, 25, 26, 27, 28, 29, 30, 31, 32, 33, 34, 35, 36, 37, 38, 39, 40, 41, 42, 43, 44, 45, 46, 47, 48, 49, 50, 51] (by decide +kernel) (by decide +kernel)
set_option maxRecDepth 20000 in
theorem gX7_pagatCount_X7_placeOf : GoodIn wsX7_pagatCount (wsV RX7 149 RX7 yX7_placeOf wsX7_placeOf) := goodIn_app (goodIn_of _ (by decide +kernel)) ggX7_pagatCount_X7_placeOf
set_option maxRecDepth 20000 in
theorem ggX7_pagatCount_X7_sideOf : GoodIn wsX7_pagatCount wsX7_sideOf := goodIn_r _ [13, 14, 15, 23, 24, 25, 26, 27, 28, 29, 30, 31, 32, 33, 34, 35, 36, 37, 38, 39, 40, 41, 42, 43, 44, 45, 46, 47, 48, 49, 50, 51] (by decide +kernel) (by decide +kernel)
set_option maxRecDepth 20000 in
theorem gX7_pagatCount_X7_sideOf : GoodIn wsX7_pagatCount (wsV RX7 143 RX7 yX7_sideOf wsX7_sideOf) := goodIn_app (goodIn_of _ (by decide +kernel)) ggX7_pagatCount_X7_sideOf
set_option maxRecDepth 20000 in
theorem ggX7_pagatCount_X7_best : GoodIn wsX7_pagatCount wsX7_best := goodIn_r _ [19, 8, 9, 20, 21, 6, 22, 23, 24, 25, 26, 27, 28, 29, 30, 31, 32, 33, 34, 35, 36, 37, 38, 39, 40, 41, 42, 43, 44, 45, 46, 47, 48, 49, 50, 51] (by decide +kernel) (by decide +kernel)
set_option maxRecDepth 20000 in
theorem gX7_pagatCount_X7_best : GoodIn wsX7_pagatCount (wsV RX7 152 RX7 yX7_best wsX7_best) := goodIn_app (goodIn_of _ (by decide +kernel)) ggX7_pagatCount_X7_best
theorem dX7_pagatCount_0 : decode cX7_pagatCount 0 = .ok (.aload_n 0, 1) := by decide +kernel
theorem dX7_pagatCount_1 : decode cX7_pagatCount 1 = .ok (.bipush 32, 2) := by decide +kernel
theorem dX7_pagatCount_3 : decode cX7_pagatCount 3 = .ok (.invokevirtual 149, 3) := by decide +kernel
theorem dX7_pagatCount_6 : decode cX7_pagatCount 6 = .ok (.istore_n 1, 1) := by decide +kernel
theorem dX7_pagatCount_7 : decode cX7_pagatCount 7 = .ok (.iload_n 1, 1) := by decide +kernel
theorem dX7_pagatCount_8 : decode cX7_pagatCount 8 = .ok (.iconst (-1), 1) := by decide +kernel
theorem dX7_pagatCount_9 : decode cX7_pagatCount 9 = .ok (.if_icmp .ne 7, 3) := by decide +kernel
theorem dX7_pagatCount_12 : decode cX7_pagatCount 12 = .ok (.iconst (-1), 1) := by decide +kernel
theorem dX7_pagatCount_13 : decode cX7_pagatCount 13 = .ok (.goto 15, 3) := by decide +kernel
theorem dX7_pagatCount_16 : decode cX7_pagatCount 16 = .ok (.aload_n 0, 1) := by decide +kernel
theorem dX7_pagatCount_17 : decode cX7_pagatCount 17 = .ok (.aload_n 0, 1) := by decide +kernel
theorem dX7_pagatCount_18 : decode cX7_pagatCount 18 = .ok (.getfield 107, 3) := by decide +kernel
theorem dX7_pagatCount_21 : decode cX7_pagatCount 21 = .ok (.iload_n 1, 1) := by decide +kernel
theorem dX7_pagatCount_22 : decode cX7_pagatCount 22 = .ok (.iadd, 1) := by decide +kernel
theorem dX7_pagatCount_23 : decode cX7_pagatCount 23 = .ok (.iconst 4, 1) := by decide +kernel
theorem dX7_pagatCount_24 : decode cX7_pagatCount 24 = .ok (.irem, 1) := by decide +kernel
theorem dX7_pagatCount_25 : decode cX7_pagatCount 25 = .ok (.invokevirtual 143, 3) := by decide +kernel
theorem dX7_pagatCount_28 : decode cX7_pagatCount 28 = .ok (.istore_n 2, 1) := by decide +kernel
theorem dX7_pagatCount_29 : decode cX7_pagatCount 29 = .ok (.iload_n 1, 1) := by decide +kernel
theorem dX7_pagatCount_30 : decode cX7_pagatCount 30 = .ok (.iconst (-1), 1) := by decide +kernel
theorem dX7_pagatCount_31 : decode cX7_pagatCount 31 = .ok (.if_icmp .eq 15, 3) := by decide +kernel
theorem dX7_pagatCount_34 : decode cX7_pagatCount 34 = .ok (.aload_n 0, 1) := by decide +kernel
theorem dX7_pagatCount_35 : decode cX7_pagatCount 35 = .ok (.invokevirtual 152, 3) := by decide +kernel
theorem dX7_pagatCount_38 : decode cX7_pagatCount 38 = .ok (.iload_n 1, 1) := by decide +kernel
theorem dX7_pagatCount_39 : decode cX7_pagatCount 39 = .ok (.if_icmp .ne 7, 3) := by decide +kernel
theorem dX7_pagatCount_42 : decode cX7_pagatCount 42 = .ok (.iconst 1, 1) := by decide +kernel
theorem dX7_pagatCount_43 : decode cX7_pagatCount 43 = .ok (.goto 4, 3) := by decide +kernel
theorem dX7_pagatCount_46 : decode cX7_pagatCount 46 = .ok (.iconst 0, 1) := by decide +kernel
theorem dX7_pagatCount_47 : decode cX7_pagatCount 47 = .ok (.istore_n 3, 1) := by decide +kernel
theorem dX7_pagatCount_48 : decode cX7_pagatCount 48 = .ok (.aload_n 0, 1) := by decide +kernel
theorem dX7_pagatCount_49 : decode cX7_pagatCount 49 = .ok (.getfield 43, 3) := by decide +kernel
theorem dX7_pagatCount_52 : decode cX7_pagatCount 52 = .ok (.iconst 0, 1) := by decide +kernel
theorem dX7_pagatCount_53 : decode cX7_pagatCount 53 = .ok (.baload, 1) := by decide +kernel
theorem dX7_pagatCount_54 : decode cX7_pagatCount 54 = .ok (.ifCond .eq 19, 3) := by decide +kernel
theorem dX7_pagatCount_57 : decode cX7_pagatCount 57 = .ok (.iload_n 3, 1) := by decide +kernel
theorem dX7_pagatCount_58 : decode cX7_pagatCount 58 = .ok (.ifCond .eq 12, 3) := by decide +kernel
theorem dX7_pagatCount_61 : decode cX7_pagatCount 61 = .ok (.iload_n 2, 1) := by decide +kernel
theorem dX7_pagatCount_62 : decode cX7_pagatCount 62 = .ok (.ifCond .ne 8, 3) := by decide +kernel
theorem dX7_pagatCount_65 : decode cX7_pagatCount 65 = .ok (.bipush 50, 2) := by decide +kernel
theorem dX7_pagatCount_67 : decode cX7_pagatCount 67 = .ok (.goto 5, 3) := by decide +kernel
theorem dX7_pagatCount_70 : decode cX7_pagatCount 70 = .ok (.bipush (-50), 2) := by decide +kernel
theorem dX7_pagatCount_72 : decode cX7_pagatCount 72 = .ok (.ireturn, 1) := by decide +kernel
theorem dX7_pagatCount_73 : decode cX7_pagatCount 73 = .ok (.iload_n 1, 1) := by decide +kernel
theorem dX7_pagatCount_74 : decode cX7_pagatCount 74 = .ok (.iconst (-1), 1) := by decide +kernel
theorem dX7_pagatCount_75 : decode cX7_pagatCount 75 = .ok (.if_icmp .ne 7, 3) := by decide +kernel
theorem dX7_pagatCount_78 : decode cX7_pagatCount 78 = .ok (.iconst 0, 1) := by decide +kernel
theorem dX7_pagatCount_79 : decode cX7_pagatCount 79 = .ok (.goto 23, 3) := by decide +kernel
theorem dX7_pagatCount_82 : decode cX7_pagatCount 82 = .ok (.iload_n 3, 1) := by decide +kernel
theorem dX7_pagatCount_83 : decode cX7_pagatCount 83 = .ok (.iload_n 2, 1) := by decide +kernel
theorem dX7_pagatCount_84 : decode cX7_pagatCount 84 = .ok (.ifCond .ne 7, 3) := by decide +kernel
theorem dX7_pagatCount_87 : decode cX7_pagatCount 87 = .ok (.iconst 1, 1) := by decide +kernel
theorem dX7_pagatCount_88 : decode cX7_pagatCount 88 = .ok (.goto 4, 3) := by decide +kernel
theorem dX7_pagatCount_91 : decode cX7_pagatCount 91 = .ok (.iconst 0, 1) := by decide +kernel
theorem dX7_pagatCount_92 : decode cX7_pagatCount 92 = .ok (.if_icmp .ne 8, 3) := by decide +kernel
theorem dX7_pagatCount_95 : decode cX7_pagatCount 95 = .ok (.bipush 25, 2) := by decide +kernel
theorem dX7_pagatCount_97 : decode cX7_pagatCount 97 = .ok (.goto 5, 3) := by decide +kernel
theorem dX7_pagatCount_100 : decode cX7_pagatCount 100 = .ok (.bipush (-25), 2) := by decide +kernel
theorem dX7_pagatCount_102 : decode cX7_pagatCount 102 = .ok (.ireturn, 1) := by decide +kernel
set_option maxRecDepth 20000 in
theorem ggX7_kingCount_X7_king : GoodIn wsX7_kingCount wsX7_king := goodIn_r _ [8, 1, 28, 29, 30, 31, 32, 33, 34, 35, 36, 37, 38, 39, 40, 41, 42, 43, 44, 45, 46, 47, 48, 49, 50, 51, 52, 53, 54, 55, 56] (by decide +kernel) (by decide +kernel)
set_option maxRecDepth 20000 in
theorem gX7_kingCount_X7_king : GoodIn wsX7_kingCount (wsV RX7 120 RX7 yX7_king wsX7_king) := goodIn_app (goodIn_of _ (by decide +kernel)) ggX7_kingCount_X7_king
set_option maxRecDepth 20000 in
theorem ggX7_kingCount_X7_placeOf : GoodIn wsX7_kingCount wsX7_placeOf := goodIn_r _ [12, 13, 14, 28, 29, 30, 31, 32, 33, 34, 35, 36, 37, 38, 39, 40, 41, 42, 43, 44, 45, 46, 47, 48, 49, 50, 51, 52, 53, 54, 55, 56] (by decide +kernel) (by decide +kernel)
set_option maxRecDepth 20000 in
theorem gX7_kingCount_X7_placeOf : GoodIn wsX7_kingCount (wsV RX7 149 RX7 yX7_placeOf wsX7_placeOf) := goodIn_app (goodIn_of _ (by decide +kernel)) ggX7_kingCount_X7_placeOf
set_option maxRecDepth 20000 in
theorem ggX7_kingCount_X7_best : GoodIn wsX7_kingCount wsX7_best := goodIn_r _ [18, 13, 14, 19, 20, 7, 21, 28, 29, 30, 31, 32, 33, 34, 35, 36, 37, 38, 39, 40, 41, 42, 43, 44, 45, 46, 47, 48, 49, 50, 51, 52, 53, 54, 55, 56] (by decide +kernel) (by decide +kernel)
set_option maxRecDepth 20000 in
theorem gX7_kingCount_X7_best : GoodIn wsX7_kingCount (wsV RX7 152 RX7 yX7_best wsX7_best) := goodIn_app (goodIn_of _ (by decide +kernel)) ggX7_kingCount_X7_best
set_option maxRecDepth 20000 in
theorem ggX7_kingCount_X7_sideOf : GoodIn wsX7_kingCount wsX7_sideOf := goodIn_r _ [25, 26, 27, 28, 29, 30, 31, 32, 33, 34, 35, 36, 37, 38, 39, 40, 41, 42, 43, 44, 45, 46, 47, 48, 49, 50, 51, 52, 53, 54, 55, 56] (by decide +kernel) (by decide +kernel)
set_option maxRecDepth 20000 in
theorem gX7_kingCount_X7_sideOf : GoodIn wsX7_kingCount (wsV RX7 143 RX7 yX7_sideOf wsX7_sideOf) := goodIn_app (goodIn_of _ (by decide +kernel)) ggX7_kingCount_X7_sideOf
theorem dX7_kingCount_0 : decode cX7_kingCount 0 = .ok (.aload_n 0, 1) := by decide +kernel
theorem dX7_kingCount_1 : decode cX7_kingCount 1 = .ok (.getfield 34, 3) := by decide +kernel
theorem dX7_kingCount_4 : decode cX7_kingCount 4 = .ok (.iconst (-1), 1) := by decide +kernel
theorem dX7_kingCount_5 : decode cX7_kingCount 5 = .ok (.if_icmp .ne 7, 3) := by decide +kernel
theorem dX7_kingCount_8 : decode cX7_kingCount 8 = .ok (.iconst (-1), 1) := by decide +kernel
theorem dX7_kingCount_9 : decode cX7_kingCount 9 = .ok (.goto 11, 3) := by decide +kernel
theorem dX7_kingCount_12 : decode cX7_kingCount 12 = .ok (.aload_n 0, 1) := by decide +kernel
theorem dX7_kingCount_13 : decode cX7_kingCount 13 = .ok (.aload_n 0, 1) := by decide +kernel
theorem dX7_kingCount_14 : decode cX7_kingCount 14 = .ok (.invokevirtual 120, 3) := by decide +kernel
theorem dX7_kingCount_17 : decode cX7_kingCount 17 = .ok (.invokevirtual 149, 3) := by decide +kernel
theorem dX7_kingCount_20 : decode cX7_kingCount 20 = .ok (.istore_n 1, 1) := by decide +kernel
theorem dX7_kingCount_21 : decode cX7_kingCount 21 = .ok (.aload_n 0, 1) := by decide +kernel
theorem dX7_kingCount_22 : decode cX7_kingCount 22 = .ok (.aload_n 0, 1) := by decide +kernel
theorem dX7_kingCount_23 : decode cX7_kingCount 23 = .ok (.getfield 107, 3) := by decide +kernel
theorem dX7_kingCount_26 : decode cX7_kingCount 26 = .ok (.aload_n 0, 1) := by decide +kernel
theorem dX7_kingCount_27 : decode cX7_kingCount 27 = .ok (.invokevirtual 152, 3) := by decide +kernel
theorem dX7_kingCount_30 : decode cX7_kingCount 30 = .ok (.iadd, 1) := by decide +kernel
theorem dX7_kingCount_31 : decode cX7_kingCount 31 = .ok (.iconst 4, 1) := by decide +kernel
theorem dX7_kingCount_32 : decode cX7_kingCount 32 = .ok (.irem, 1) := by decide +kernel
theorem dX7_kingCount_33 : decode cX7_kingCount 33 = .ok (.invokevirtual 143, 3) := by decide +kernel
theorem dX7_kingCount_36 : decode cX7_kingCount 36 = .ok (.ifCond .ne 7, 3) := by decide +kernel
theorem dX7_kingCount_39 : decode cX7_kingCount 39 = .ok (.iconst 1, 1) := by decide +kernel
theorem dX7_kingCount_40 : decode cX7_kingCount 40 = .ok (.goto 4, 3) := by decide +kernel
theorem dX7_kingCount_43 : decode cX7_kingCount 43 = .ok (.iconst 0, 1) := by decide +kernel
theorem dX7_kingCount_44 : decode cX7_kingCount 44 = .ok (.istore_n 2, 1) := by decide +kernel
theorem dX7_kingCount_45 : decode cX7_kingCount 45 = .ok (.aload_n 0, 1) := by decide +kernel
theorem dX7_kingCount_46 : decode cX7_kingCount 46 = .ok (.getfield 43, 3) := by decide +kernel
theorem dX7_kingCount_49 : decode cX7_kingCount 49 = .ok (.iconst 1, 1) := by decide +kernel
theorem dX7_kingCount_50 : decode cX7_kingCount 50 = .ok (.baload, 1) := by decide +kernel
theorem dX7_kingCount_51 : decode cX7_kingCount 51 = .ok (.ifCond .eq 20, 3) := by decide +kernel
theorem dX7_kingCount_54 : decode cX7_kingCount 54 = .ok (.iload_n 1, 1) := by decide +kernel
theorem dX7_kingCount_55 : decode cX7_kingCount 55 = .ok (.iconst (-1), 1) := by decide +kernel
theorem dX7_kingCount_56 : decode cX7_kingCount 56 = .ok (.if_icmp .eq 12, 3) := by decide +kernel
theorem dX7_kingCount_59 : decode cX7_kingCount 59 = .ok (.iload_n 2, 1) := by decide +kernel
theorem dX7_kingCount_60 : decode cX7_kingCount 60 = .ok (.ifCond .eq 8, 3) := by decide +kernel
theorem dX7_kingCount_63 : decode cX7_kingCount 63 = .ok (.bipush 20, 2) := by decide +kernel
theorem dX7_kingCount_65 : decode cX7_kingCount 65 = .ok (.goto 5, 3) := by decide +kernel
theorem dX7_kingCount_68 : decode cX7_kingCount 68 = .ok (.bipush (-20), 2) := by decide +kernel
theorem dX7_kingCount_70 : decode cX7_kingCount 70 = .ok (.ireturn, 1) := by decide +kernel
theorem dX7_kingCount_71 : decode cX7_kingCount 71 = .ok (.iload_n 1, 1) := by decide +kernel
theorem dX7_kingCount_72 : decode cX7_kingCount 72 = .ok (.iconst (-1), 1) := by decide +kernel
theorem dX7_kingCount_73 : decode cX7_kingCount 73 = .ok (.if_icmp .ne 7, 3) := by decide +kernel
theorem dX7_kingCount_76 : decode cX7_kingCount 76 = .ok (.iconst 0, 1) := by decide +kernel
theorem dX7_kingCount_77 : decode cX7_kingCount 77 = .ok (.goto 14, 3) := by decide +kernel
theorem dX7_kingCount_80 : decode cX7_kingCount 80 = .ok (.iload_n 2, 1) := by decide +kernel
theorem dX7_kingCount_81 : decode cX7_kingCount 81 = .ok (.ifCond .eq 8, 3) := by decide +kernel
theorem dX7_kingCount_84 : decode cX7_kingCount 84 = .ok (.bipush 10, 2) := by decide +kernel
theorem dX7_kingCount_86 : decode cX7_kingCount 86 = .ok (.goto 5, 3) := by decide +kernel
theorem dX7_kingCount_89 : decode cX7_kingCount 89 = .ok (.bipush (-10), 2) := by decide +kernel
theorem dX7_kingCount_91 : decode cX7_kingCount 91 = .ok (.ireturn, 1) := by decide +kernel
theorem dX7_gameCount_0 : decode cX7_gameCount 0 = .ok (.aload_n 0, 1) := by decide +kernel
theorem dX7_gameCount_1 : decode cX7_gameCount 1 = .ok (.getfield 84, 3) := by decide +kernel
theorem dX7_gameCount_4 : decode cX7_gameCount 4 = .ok (.iconst 5, 1) := by decide +kernel
theorem dX7_gameCount_5 : decode cX7_gameCount 5 = .ok (.if_icmp .ne 7, 3) := by decide +kernel
theorem dX7_gameCount_8 : decode cX7_gameCount 8 = .ok (.iconst 0, 1) := by decide +kernel
theorem dX7_gameCount_9 : decode cX7_gameCount 9 = .ok (.goto 22, 3) := by decide +kernel
theorem dX7_gameCount_12 : decode cX7_gameCount 12 = .ok (.iload_n 1, 1) := by decide +kernel
theorem dX7_gameCount_13 : decode cX7_gameCount 13 = .ok (.bipush 105, 2) := by decide +kernel
theorem dX7_gameCount_15 : decode cX7_gameCount 15 = .ok (.if_icmp .le 10, 3) := by decide +kernel
theorem dX7_gameCount_18 : decode cX7_gameCount 18 = .ok (.iload_n 1, 1) := by decide +kernel
theorem dX7_gameCount_19 : decode cX7_gameCount 19 = .ok (.bipush 105, 2) := by decide +kernel
theorem dX7_gameCount_21 : decode cX7_gameCount 21 = .ok (.isub, 1) := by decide +kernel
theorem dX7_gameCount_22 : decode cX7_gameCount 22 = .ok (.goto 7, 3) := by decide +kernel
theorem dX7_gameCount_25 : decode cX7_gameCount 25 = .ok (.bipush 105, 2) := by decide +kernel
theorem dX7_gameCount_27 : decode cX7_gameCount 27 = .ok (.iload_n 1, 1) := by decide +kernel
theorem dX7_gameCount_28 : decode cX7_gameCount 28 = .ok (.isub, 1) := by decide +kernel
theorem dX7_gameCount_29 : decode cX7_gameCount 29 = .ok (.iconst 3, 1) := by decide +kernel
theorem dX7_gameCount_30 : decode cX7_gameCount 30 = .ok (.idiv, 1) := by decide +kernel
theorem dX7_gameCount_31 : decode cX7_gameCount 31 = .ok (.istore_n 2, 1) := by decide +kernel
theorem dX7_gameCount_32 : decode cX7_gameCount 32 = .ok (.iload_n 2, 1) := by decide +kernel
theorem dX7_gameCount_33 : decode cX7_gameCount 33 = .ok (.aload_n 0, 1) := by decide +kernel
theorem dX7_gameCount_34 : decode cX7_gameCount 34 = .ok (.getfield 84, 3) := by decide +kernel
theorem dX7_gameCount_37 : decode cX7_gameCount 37 = .ok (.iconst 4, 1) := by decide +kernel
theorem dX7_gameCount_38 : decode cX7_gameCount 38 = .ok (.if_icmp .ge 13, 3) := by decide +kernel
theorem dX7_gameCount_41 : decode cX7_gameCount 41 = .ok (.bipush 10, 2) := by decide +kernel
theorem dX7_gameCount_43 : decode cX7_gameCount 43 = .ok (.aload_n 0, 1) := by decide +kernel
theorem dX7_gameCount_44 : decode cX7_gameCount 44 = .ok (.getfield 84, 3) := by decide +kernel
theorem dX7_gameCount_47 : decode cX7_gameCount 47 = .ok (.imul, 1) := by decide +kernel
theorem dX7_gameCount_48 : decode cX7_gameCount 48 = .ok (.goto 18, 3) := by decide +kernel
theorem dX7_gameCount_51 : decode cX7_gameCount 51 = .ok (.aload_n 0, 1) := by decide +kernel
theorem dX7_gameCount_52 : decode cX7_gameCount 52 = .ok (.getfield 84, 3) := by decide +kernel
theorem dX7_gameCount_55 : decode cX7_gameCount 55 = .ok (.iconst 4, 1) := by decide +kernel
theorem dX7_gameCount_56 : decode cX7_gameCount 56 = .ok (.if_icmp .ne 8, 3) := by decide +kernel
theorem dX7_gameCount_59 : decode cX7_gameCount 59 = .ok (.bipush 50, 2) := by decide +kernel
theorem dX7_gameCount_61 : decode cX7_gameCount 61 = .ok (.goto 5, 3) := by decide +kernel
theorem dX7_gameCount_64 : decode cX7_gameCount 64 = .ok (.bipush 80, 2) := by decide +kernel
theorem dX7_gameCount_66 : decode cX7_gameCount 66 = .ok (.iadd, 1) := by decide +kernel
theorem dX7_gameCount_67 : decode cX7_gameCount 67 = .ok (.istore_n 3, 1) := by decide +kernel
theorem dX7_gameCount_68 : decode cX7_gameCount 68 = .ok (.iload_n 1, 1) := by decide +kernel
theorem dX7_gameCount_69 : decode cX7_gameCount 69 = .ok (.bipush 105, 2) := by decide +kernel
theorem dX7_gameCount_71 : decode cX7_gameCount 71 = .ok (.if_icmp .le 7, 3) := by decide +kernel
theorem dX7_gameCount_74 : decode cX7_gameCount 74 = .ok (.iload_n 3, 1) := by decide +kernel
theorem dX7_gameCount_75 : decode cX7_gameCount 75 = .ok (.goto 5, 3) := by decide +kernel
theorem dX7_gameCount_78 : decode cX7_gameCount 78 = .ok (.iload_n 3, 1) := by decide +kernel
theorem dX7_gameCount_79 : decode cX7_gameCount 79 = .ok (.ineg, 1) := by decide +kernel
theorem dX7_gameCount_80 : decode cX7_gameCount 80 = .ok (.ireturn, 1) := by decide +kernel
set_option maxRecDepth 20000 in
theorem ggX7_scores_X7_counted : GoodIn wsX7_scores wsX7_counted := goodIn_r _ [12, 13, 14, 15, 11, 16, 17, 18, 19, 20, 21, 22, 23, 24, 3, 25, 26, 27, 28, 29, 30, 31, 36, 37, 38, 39, 40, 41, 42, 43, 44, 45, 46, 47, 48, 49, 50, 51, 52, 53, 54, 55, 56, 57, 58, 59, 60, 61, 62, 63, 64] (by decide +kernel) (by decide +kernel)
set_option maxRecDepth 20000 in
theorem gX7_scores_X7_counted : GoodIn wsX7_scores (wsV RX7 155 RX7 yX7_counted wsX7_counted) := goodIn_app (goodIn_of _ (by decide +kernel)) ggX7_scores_X7_counted
set_option maxRecDepth 20000 in
theorem ggX7_scores_X7_gameCount : GoodIn wsX7_scores wsX7_gameCount := goodIn_r _ [35, 5, 36, 37, 38, 39, 40, 41, 42, 43, 44, 45, 46, 47, 48, 49, 50, 51, 52, 53, 54, 55, 56, 57, 58, 59, 60, 61, 62, 63, 64] (by decide +kernel) (by decide +kernel)
set_option maxRecDepth 20000 in
theorem gX7_scores_X7_gameCount : GoodIn wsX7_scores (wsV RX7 158 RX7 yX7_gameCount wsX7_gameCount) := goodIn_app (goodIn_of _ (by decide +kernel)) ggX7_scores_X7_gameCount
set_option maxRecDepth 20000 in
theorem ggX7_scores_X7_sideOf : GoodIn wsX7_scores wsX7_sideOf := goodIn_r _ [24, 3, 25, 36, 37, 38, 39, 40, 41, 42, 43, 44, 45, 46, 47, 48, 49, 50, 51, 52, 53, 54, 55, 56, 57, 58, 59, 60, 61, 62, 63, 64] (by decide +kernel) (by decide +kernel)
set_option maxRecDepth 20000 in
theorem gX7_scores_X7_sideOf : GoodIn wsX7_scores (wsV RX7 143 RX7 yX7_sideOf wsX7_sideOf) := goodIn_app (goodIn_of _ (by decide +kernel)) ggX7_scores_X7_sideOf
theorem dX7_scores_0 : decode cX7_scores 0 = .ok (.aload_n 0, 1) := by decide +kernel
theorem dX7_scores_1 : decode cX7_scores 1 = .ok (.iconst 0, 1) := by decide +kernel
theorem dX7_scores_2 : decode cX7_scores 2 = .ok (.invokevirtual 155, 3) := by decide +kernel
theorem dX7_scores_5 : decode cX7_scores 5 = .ok (.istore_n 2, 1) := by decide +kernel
theorem dX7_scores_6 : decode cX7_scores 6 = .ok (.aload_n 0, 1) := by decide +kernel
theorem dX7_scores_7 : decode cX7_scores 7 = .ok (.aload_n 0, 1) := by decide +kernel
theorem dX7_scores_8 : decode cX7_scores 8 = .ok (.iload_n 2, 1) := by decide +kernel
theorem dX7_scores_9 : decode cX7_scores 9 = .ok (.invokevirtual 158, 3) := by decide +kernel
theorem dX7_scores_12 : decode cX7_scores 12 = .ok (.iload_n 1, 1) := by decide +kernel
theorem dX7_scores_13 : decode cX7_scores 13 = .ok (.iadd, 1) := by decide +kernel
theorem dX7_scores_14 : decode cX7_scores 14 = .ok (.putfield 161, 3) := by decide +kernel
theorem dX7_scores_17 : decode cX7_scores 17 = .ok (.aload_n 0, 1) := by decide +kernel
theorem dX7_scores_18 : decode cX7_scores 18 = .ok (.getfield 55, 3) := by decide +kernel
theorem dX7_scores_21 : decode cX7_scores 21 = .ok (.aload_n 0, 1) := by decide +kernel
theorem dX7_scores_22 : decode cX7_scores 22 = .ok (.getfield 31, 3) := by decide +kernel
theorem dX7_scores_25 : decode cX7_scores 25 = .ok (.iaload, 1) := by decide +kernel
theorem dX7_scores_26 : decode cX7_scores 26 = .ok (.ifCond .le 36, 3) := by decide +kernel
theorem dX7_scores_29 : decode cX7_scores 29 = .ok (.aload_n 0, 1) := by decide +kernel
theorem dX7_scores_30 : decode cX7_scores 30 = .ok (.dup, 1) := by decide +kernel
theorem dX7_scores_31 : decode cX7_scores 31 = .ok (.getfield 161, 3) := by decide +kernel
theorem dX7_scores_34 : decode cX7_scores 34 = .ok (.iconst 2, 1) := by decide +kernel
theorem dX7_scores_35 : decode cX7_scores 35 = .ok (.imul, 1) := by decide +kernel
theorem dX7_scores_36 : decode cX7_scores 36 = .ok (.putfield 161, 3) := by decide +kernel
theorem dX7_scores_39 : decode cX7_scores 39 = .ok (.aload_n 0, 1) := by decide +kernel
theorem dX7_scores_40 : decode cX7_scores 40 = .ok (.getfield 55, 3) := by decide +kernel
theorem dX7_scores_43 : decode cX7_scores 43 = .ok (.aload_n 0, 1) := by decide +kernel
theorem dX7_scores_44 : decode cX7_scores 44 = .ok (.getfield 31, 3) := by decide +kernel
theorem dX7_scores_47 : decode cX7_scores 47 = .ok (.dup2, 1) := by decide +kernel
theorem dX7_scores_48 : decode cX7_scores 48 = .ok (.iaload, 1) := by decide +kernel
theorem dX7_scores_49 : decode cX7_scores 49 = .ok (.iload_n 2, 1) := by decide +kernel
theorem dX7_scores_50 : decode cX7_scores 50 = .ok (.bipush 105, 2) := by decide +kernel
theorem dX7_scores_52 : decode cX7_scores 52 = .ok (.if_icmp .le 7, 3) := by decide +kernel
theorem dX7_scores_55 : decode cX7_scores 55 = .ok (.iconst 1, 1) := by decide +kernel
theorem dX7_scores_56 : decode cX7_scores 56 = .ok (.goto 4, 3) := by decide +kernel
theorem dX7_scores_59 : decode cX7_scores 59 = .ok (.iconst 0, 1) := by decide +kernel
theorem dX7_scores_60 : decode cX7_scores 60 = .ok (.isub, 1) := by decide +kernel
theorem dX7_scores_61 : decode cX7_scores 61 = .ok (.iastore, 1) := by decide +kernel
theorem dX7_scores_62 : decode cX7_scores 62 = .ok (.iconst 0, 1) := by decide +kernel
theorem dX7_scores_63 : decode cX7_scores 63 = .ok (.istore_n 3, 1) := by decide +kernel
theorem dX7_scores_64 : decode cX7_scores 64 = .ok (.iload_n 3, 1) := by decide +kernel
theorem dX7_scores_65 : decode cX7_scores 65 = .ok (.iconst 4, 1) := by decide +kernel
theorem dX7_scores_66 : decode cX7_scores 66 = .ok (.if_icmp .ge 56, 3) := by decide +kernel
theorem dX7_scores_69 : decode cX7_scores 69 = .ok (.aload_n 0, 1) := by decide +kernel
theorem dX7_scores_70 : decode cX7_scores 70 = .ok (.getfield 52, 3) := by decide +kernel
theorem dX7_scores_73 : decode cX7_scores 73 = .ok (.iload_n 3, 1) := by decide +kernel
theorem dX7_scores_74 : decode cX7_scores 74 = .ok (.dup2, 1) := by decide +kernel
theorem dX7_scores_75 : decode cX7_scores 75 = .ok (.iaload, 1) := by decide +kernel
theorem dX7_scores_76 : decode cX7_scores 76 = .ok (.aload_n 0, 1) := by decide +kernel
theorem dX7_scores_77 : decode cX7_scores 77 = .ok (.iload_n 3, 1) := by decide +kernel
theorem dX7_scores_78 : decode cX7_scores 78 = .ok (.invokevirtual 143, 3) := by decide +kernel
theorem dX7_scores_81 : decode cX7_scores 81 = .ok (.ifCond .ne 10, 3) := by decide +kernel
theorem dX7_scores_84 : decode cX7_scores 84 = .ok (.aload_n 0, 1) := by decide +kernel
theorem dX7_scores_85 : decode cX7_scores 85 = .ok (.getfield 161, 3) := by decide +kernel
theorem dX7_scores_88 : decode cX7_scores 88 = .ok (.goto 4, 3) := by decide +kernel
theorem dX7_scores_91 : decode cX7_scores 91 = .ok (.iconst 0, 1) := by decide +kernel
theorem dX7_scores_92 : decode cX7_scores 92 = .ok (.iadd, 1) := by decide +kernel
theorem dX7_scores_93 : decode cX7_scores 93 = .ok (.iastore, 1) := by decide +kernel
theorem dX7_scores_94 : decode cX7_scores 94 = .ok (.aload_n 0, 1) := by decide +kernel
theorem dX7_scores_95 : decode cX7_scores 95 = .ok (.getfield 55, 3) := by decide +kernel
theorem dX7_scores_98 : decode cX7_scores 98 = .ok (.iload_n 3, 1) := by decide +kernel
theorem dX7_scores_99 : decode cX7_scores 99 = .ok (.dup2, 1) := by decide +kernel
theorem dX7_scores_100 : decode cX7_scores 100 = .ok (.iaload, 1) := by decide +kernel
theorem dX7_scores_101 : decode cX7_scores 101 = .ok (.aload_n 0, 1) := by decide +kernel
theorem dX7_scores_102 : decode cX7_scores 102 = .ok (.getfield 84, 3) := by decide +kernel
theorem dX7_scores_105 : decode cX7_scores 105 = .ok (.iconst 3, 1) := by decide +kernel
theorem dX7_scores_106 : decode cX7_scores 106 = .ok (.if_icmp .le 7, 3) := by decide +kernel
theorem dX7_scores_109 : decode cX7_scores 109 = .ok (.iconst 1, 1) := by decide +kernel
theorem dX7_scores_110 : decode cX7_scores 110 = .ok (.goto 4, 3) := by decide +kernel
theorem dX7_scores_113 : decode cX7_scores 113 = .ok (.iconst 0, 1) := by decide +kernel
theorem dX7_scores_114 : decode cX7_scores 114 = .ok (.iadd, 1) := by decide +kernel
theorem dX7_scores_115 : decode cX7_scores 115 = .ok (.iastore, 1) := by decide +kernel
theorem dX7_scores_116 : decode cX7_scores 116 = .ok (.iinc 3 1, 3) := by decide +kernel
theorem dX7_scores_119 : decode cX7_scores 119 = .ok (.goto (-55), 3) := by decide +kernel
theorem dX7_scores_122 : decode cX7_scores 122 = .ok (.aload_n 0, 1) := by decide +kernel
theorem dX7_scores_123 : decode cX7_scores 123 = .ok (.iconst 0, 1) := by decide +kernel
theorem dX7_scores_124 : decode cX7_scores 124 = .ok (.putfield 9, 3) := by decide +kernel
theorem dX7_scores_127 : decode cX7_scores 127 = .ok (.aload_n 0, 1) := by decide +kernel
theorem dX7_scores_128 : decode cX7_scores 128 = .ok (.iconst (-1), 1) := by decide +kernel
theorem dX7_scores_129 : decode cX7_scores 129 = .ok (.putfield 13, 3) := by decide +kernel
theorem dX7_scores_132 : decode cX7_scores 132 = .ok (.return_, 1) := by decide +kernel
set_option maxRecDepth 20000 in
theorem ggX7_plays_X7_bit : GoodIn wsX7_plays wsX7_bit := goodIn_r _ [13] (by decide +kernel) (by decide +kernel)
set_option maxRecDepth 20000 in
theorem gX7_plays_X7_bit : GoodIn wsX7_plays (va_wsS RX7 77 yX7_bit wsX7_bit) := goodIn_app (goodIn_of _ (by decide +kernel)) ggX7_plays_X7_bit
set_option maxRecDepth 20000 in
theorem ggX7_plays_X7_king : GoodIn wsX7_plays wsX7_king := goodIn_r _ [17, 6, 74, 75, 76, 77, 78, 79, 80, 81, 82, 83, 84, 85, 86, 87, 88, 89, 90, 91, 92, 93, 94, 95, 96, 97, 98, 99, 100, 101, 102] (by decide +kernel) (by decide +kernel)
set_option maxRecDepth 20000 in
theorem gX7_plays_X7_king : GoodIn wsX7_plays (wsV RX7 120 RX7 yX7_king wsX7_king) := goodIn_app (goodIn_of _ (by decide +kernel)) ggX7_plays_X7_king
set_option maxRecDepth 20000 in
theorem ggX7_plays_X7_best : GoodIn wsX7_plays wsX7_best := goodIn_r _ [21, 4, 3, 22, 23, 12, 24, 74, 75, 76, 77, 78, 79, 80, 81, 82, 83, 84, 85, 86, 87, 88, 89, 90, 91, 92, 93, 94, 95, 96, 97, 98, 99, 100, 101, 102] (by decide +kernel) (by decide +kernel)
set_option maxRecDepth 20000 in
theorem gX7_plays_X7_best : GoodIn wsX7_plays (wsV RX7 152 RX7 yX7_best wsX7_best) := goodIn_app (goodIn_of _ (by decide +kernel)) ggX7_plays_X7_best
set_option maxRecDepth 20000 in
theorem ggX7_plays_X7_pagatCount : GoodIn wsX7_plays wsX7_pagatCount := goodIn_r _ [28, 7, 29, 30, 31, 32, 12, 33, 4, 3, 34, 35, 36, 37, 38, 39, 18, 19, 20, 21, 22, 23, 24, 74, 75, 76, 77, 78, 79, 80, 81, 82, 83, 84, 85, 86, 87, 88, 89, 90, 91, 92, 93, 94, 95, 96, 97, 98, 99, 100, 101, 102] (by decide +kernel) (by decide +kernel)
set_option maxRecDepth 20000 in
theorem gX7_plays_X7_pagatCount : GoodIn wsX7_plays (wsV RX7 164 RX7 yX7_pagatCount wsX7_pagatCount) := goodIn_app (goodIn_of _ (by decide +kernel)) ggX7_plays_X7_pagatCount
set_option maxRecDepth 20000 in
theorem ggX7_plays_X7_kingCount : GoodIn wsX7_plays wsX7_kingCount := goodIn_r _ [43, 6, 7, 29, 14, 15, 16, 12, 17, 30, 31, 32, 33, 4, 3, 18, 19, 20, 21, 22, 23, 24, 34, 35, 36, 37, 38, 39, 74, 75, 76, 77, 78, 79, 80, 81, 82, 83, 84, 85, 86, 87, 88, 89, 90, 91, 92, 93, 94, 95, 96, 97, 98, 99, 100, 101, 102] (by decide +kernel) (by decide +kernel)
set_option maxRecDepth 20000 in
theorem gX7_plays_X7_kingCount : GoodIn wsX7_plays (wsV RX7 167 RX7 yX7_kingCount wsX7_kingCount) := goodIn_app (goodIn_of _ (by decide +kernel)) ggX7_plays_X7_kingCount
set_option maxRecDepth 20000 in
theorem ggX7_plays_X7_scores : GoodIn wsX7_plays wsX7_scores := goodIn_r _ [47, 48, 49, 38, 50, 51, 52, 2, 53, 54, 55, 12, 56, 57, 58, 59, 60, 61, 62, 8, 63, 34, 35, 36, 37, 39, 64, 65, 66, 67, 68, 69, 70, 71, 72, 73, 74, 75, 76, 77, 78, 79, 80, 81, 82, 83, 84, 85, 86, 87, 88, 89, 90, 91, 92, 93, 94, 95, 96, 97, 98, 99, 100, 101, 102] (by decide +kernel) (by decide +kernel)
set_option maxRecDepth 20000 in
theorem gX7_plays_X7_scores : GoodIn wsX7_plays (wsV RX7 170 RX7 yX7_scores wsX7_scores) := goodIn_app (goodIn_of _ (by decide +kernel)) ggX7_plays_X7_scores
theorem dX7_plays_0 : decode cX7_plays 0 = .ok (.aload_n 0, 1) := by decide +kernel
theorem dX7_plays_1 : decode cX7_plays 1 = .ok (.getfield 20, 3) := by decide +kernel
theorem dX7_plays_4 : decode cX7_plays 4 = .ok (.aload_n 0, 1) := by decide +kernel
theorem dX7_plays_5 : decode cX7_plays 5 = .ok (.getfield 13, 3) := by decide +kernel
theorem dX7_plays_8 : decode cX7_plays 8 = .ok (.dup2, 1) := by decide +kernel
theorem dX7_plays_9 : decode cX7_plays 9 = .ok (.laload, 1) := by decide +kernel
theorem dX7_plays_10 : decode cX7_plays 10 = .ok (.iload_n 1, 1) := by decide +kernel
theorem dX7_plays_11 : decode cX7_plays 11 = .ok (.invokestatic 77, 3) := by decide +kernel
theorem dX7_plays_14 : decode cX7_plays 14 = .ok (.lsub, 1) := by decide +kernel
theorem dX7_plays_15 : decode cX7_plays 15 = .ok (.lastore, 1) := by decide +kernel
theorem dX7_plays_16 : decode cX7_plays 16 = .ok (.aload_n 0, 1) := by decide +kernel
theorem dX7_plays_17 : decode cX7_plays 17 = .ok (.getfield 46, 3) := by decide +kernel
theorem dX7_plays_20 : decode cX7_plays 20 = .ok (.aload_n 0, 1) := by decide +kernel
theorem dX7_plays_21 : decode cX7_plays 21 = .ok (.getfield 101, 3) := by decide +kernel
theorem dX7_plays_24 : decode cX7_plays 24 = .ok (.iload_n 1, 1) := by decide +kernel
theorem dX7_plays_25 : decode cX7_plays 25 = .ok (.iastore, 1) := by decide +kernel
theorem dX7_plays_26 : decode cX7_plays 26 = .ok (.aload_n 0, 1) := by decide +kernel
theorem dX7_plays_27 : decode cX7_plays 27 = .ok (.dup, 1) := by decide +kernel
theorem dX7_plays_28 : decode cX7_plays 28 = .ok (.getfield 101, 3) := by decide +kernel
theorem dX7_plays_31 : decode cX7_plays 31 = .ok (.iconst 1, 1) := by decide +kernel
theorem dX7_plays_32 : decode cX7_plays 32 = .ok (.iadd, 1) := by decide +kernel
theorem dX7_plays_33 : decode cX7_plays 33 = .ok (.putfield 101, 3) := by decide +kernel
theorem dX7_plays_36 : decode cX7_plays 36 = .ok (.aload_n 0, 1) := by decide +kernel
theorem dX7_plays_37 : decode cX7_plays 37 = .ok (.aload_n 0, 1) := by decide +kernel
theorem dX7_plays_38 : decode cX7_plays 38 = .ok (.getfield 87, 3) := by decide +kernel
theorem dX7_plays_41 : decode cX7_plays 41 = .ok (.ifCond .ne 19, 3) := by decide +kernel
theorem dX7_plays_44 : decode cX7_plays 44 = .ok (.aload_n 0, 1) := by decide +kernel
theorem dX7_plays_45 : decode cX7_plays 45 = .ok (.getfield 34, 3) := by decide +kernel
theorem dX7_plays_48 : decode cX7_plays 48 = .ok (.iconst (-1), 1) := by decide +kernel
theorem dX7_plays_49 : decode cX7_plays 49 = .ok (.if_icmp .eq 15, 3) := by decide +kernel
theorem dX7_plays_52 : decode cX7_plays 52 = .ok (.iload_n 1, 1) := by decide +kernel
theorem dX7_plays_53 : decode cX7_plays 53 = .ok (.aload_n 0, 1) := by decide +kernel
theorem dX7_plays_54 : decode cX7_plays 54 = .ok (.invokevirtual 120, 3) := by decide +kernel
theorem dX7_plays_57 : decode cX7_plays 57 = .ok (.if_icmp .ne 7, 3) := by decide +kernel
theorem dX7_plays_60 : decode cX7_plays 60 = .ok (.iconst 1, 1) := by decide +kernel
theorem dX7_plays_61 : decode cX7_plays 61 = .ok (.goto 4, 3) := by decide +kernel
theorem dX7_plays_64 : decode cX7_plays 64 = .ok (.iconst 0, 1) := by decide +kernel
theorem dX7_plays_65 : decode cX7_plays 65 = .ok (.putfield 87, 3) := by decide +kernel
theorem dX7_plays_68 : decode cX7_plays 68 = .ok (.aload_n 0, 1) := by decide +kernel
theorem dX7_plays_69 : decode cX7_plays 69 = .ok (.getfield 101, 3) := by decide +kernel
theorem dX7_plays_72 : decode cX7_plays 72 = .ok (.iconst 4, 1) := by decide +kernel
theorem dX7_plays_73 : decode cX7_plays 73 = .ok (.if_icmp .ge 17, 3) := by decide +kernel
theorem dX7_plays_76 : decode cX7_plays 76 = .ok (.aload_n 0, 1) := by decide +kernel
theorem dX7_plays_77 : decode cX7_plays 77 = .ok (.aload_n 0, 1) := by decide +kernel
theorem dX7_plays_78 : decode cX7_plays 78 = .ok (.getfield 13, 3) := by decide +kernel
theorem dX7_plays_81 : decode cX7_plays 81 = .ok (.iconst 1, 1) := by decide +kernel
theorem dX7_plays_82 : decode cX7_plays 82 = .ok (.iadd, 1) := by decide +kernel
theorem dX7_plays_83 : decode cX7_plays 83 = .ok (.iconst 4, 1) := by decide +kernel
theorem dX7_plays_84 : decode cX7_plays 84 = .ok (.irem, 1) := by decide +kernel
theorem dX7_plays_85 : decode cX7_plays 85 = .ok (.putfield 13, 3) := by decide +kernel
theorem dX7_plays_88 : decode cX7_plays 88 = .ok (.iconst (-1), 1) := by decide +kernel
theorem dX7_plays_89 : decode cX7_plays 89 = .ok (.ireturn, 1) := by decide +kernel
theorem dX7_plays_90 : decode cX7_plays 90 = .ok (.aload_n 0, 1) := by decide +kernel
theorem dX7_plays_91 : decode cX7_plays 91 = .ok (.getfield 107, 3) := by decide +kernel
theorem dX7_plays_94 : decode cX7_plays 94 = .ok (.aload_n 0, 1) := by decide +kernel
theorem dX7_plays_95 : decode cX7_plays 95 = .ok (.invokevirtual 152, 3) := by decide +kernel
theorem dX7_plays_98 : decode cX7_plays 98 = .ok (.iadd, 1) := by decide +kernel
theorem dX7_plays_99 : decode cX7_plays 99 = .ok (.iconst 4, 1) := by decide +kernel
theorem dX7_plays_100 : decode cX7_plays 100 = .ok (.irem, 1) := by decide +kernel
theorem dX7_plays_101 : decode cX7_plays 101 = .ok (.istore_n 2, 1) := by decide +kernel
theorem dX7_plays_102 : decode cX7_plays 102 = .ok (.iconst 0, 1) := by decide +kernel
theorem dX7_plays_103 : decode cX7_plays 103 = .ok (.istore_n 3, 1) := by decide +kernel
theorem dX7_plays_104 : decode cX7_plays 104 = .ok (.iload_n 3, 1) := by decide +kernel
theorem dX7_plays_105 : decode cX7_plays 105 = .ok (.iconst 4, 1) := by decide +kernel
theorem dX7_plays_106 : decode cX7_plays 106 = .ok (.if_icmp .ge 27, 3) := by decide +kernel
theorem dX7_plays_109 : decode cX7_plays 109 = .ok (.aload_n 0, 1) := by decide +kernel
theorem dX7_plays_110 : decode cX7_plays 110 = .ok (.getfield 49, 3) := by decide +kernel
theorem dX7_plays_113 : decode cX7_plays 113 = .ok (.iload_n 2, 1) := by decide +kernel
theorem dX7_plays_114 : decode cX7_plays 114 = .ok (.dup2, 1) := by decide +kernel
theorem dX7_plays_115 : decode cX7_plays 115 = .ok (.laload, 1) := by decide +kernel
theorem dX7_plays_116 : decode cX7_plays 116 = .ok (.aload_n 0, 1) := by decide +kernel
theorem dX7_plays_117 : decode cX7_plays 117 = .ok (.getfield 46, 3) := by decide +kernel
theorem dX7_plays_120 : decode cX7_plays 120 = .ok (.iload_n 3, 1) := by decide +kernel
theorem dX7_plays_121 : decode cX7_plays 121 = .ok (.iaload, 1) := by decide +kernel
theorem dX7_plays_122 : decode cX7_plays 122 = .ok (.invokestatic 77, 3) := by decide +kernel
theorem dX7_plays_125 : decode cX7_plays 125 = .ok (.lor, 1) := by decide +kernel
theorem dX7_plays_126 : decode cX7_plays 126 = .ok (.lastore, 1) := by decide +kernel
theorem dX7_plays_127 : decode cX7_plays 127 = .ok (.iinc 3 1, 3) := by decide +kernel
theorem dX7_plays_130 : decode cX7_plays 130 = .ok (.goto (-26), 3) := by decide +kernel
theorem dX7_plays_133 : decode cX7_plays 133 = .ok (.aload_n 0, 1) := by decide +kernel
theorem dX7_plays_134 : decode cX7_plays 134 = .ok (.dup, 1) := by decide +kernel
theorem dX7_plays_135 : decode cX7_plays 135 = .ok (.getfield 104, 3) := by decide +kernel
theorem dX7_plays_138 : decode cX7_plays 138 = .ok (.iconst 1, 1) := by decide +kernel
theorem dX7_plays_139 : decode cX7_plays 139 = .ok (.iadd, 1) := by decide +kernel
theorem dX7_plays_140 : decode cX7_plays 140 = .ok (.putfield 104, 3) := by decide +kernel
theorem dX7_plays_143 : decode cX7_plays 143 = .ok (.aload_n 0, 1) := by decide +kernel
theorem dX7_plays_144 : decode cX7_plays 144 = .ok (.invokevirtual 164, 3) := by decide +kernel
theorem dX7_plays_147 : decode cX7_plays 147 = .ok (.aload_n 0, 1) := by decide +kernel
theorem dX7_plays_148 : decode cX7_plays 148 = .ok (.invokevirtual 167, 3) := by decide +kernel
theorem dX7_plays_151 : decode cX7_plays 151 = .ok (.iadd, 1) := by decide +kernel
theorem dX7_plays_152 : decode cX7_plays 152 = .ok (.istore_n 3, 1) := by decide +kernel
theorem dX7_plays_153 : decode cX7_plays 153 = .ok (.aload_n 0, 1) := by decide +kernel
theorem dX7_plays_154 : decode cX7_plays 154 = .ok (.iconst 0, 1) := by decide +kernel
theorem dX7_plays_155 : decode cX7_plays 155 = .ok (.putfield 101, 3) := by decide +kernel
theorem dX7_plays_158 : decode cX7_plays 158 = .ok (.aload_n 0, 1) := by decide +kernel
theorem dX7_plays_159 : decode cX7_plays 159 = .ok (.iload_n 2, 1) := by decide +kernel
theorem dX7_plays_160 : decode cX7_plays 160 = .ok (.putfield 107, 3) := by decide +kernel
theorem dX7_plays_163 : decode cX7_plays 163 = .ok (.aload_n 0, 1) := by decide +kernel
theorem dX7_plays_164 : decode cX7_plays 164 = .ok (.iload_n 2, 1) := by decide +kernel
theorem dX7_plays_165 : decode cX7_plays 165 = .ok (.putfield 13, 3) := by decide +kernel
theorem dX7_plays_168 : decode cX7_plays 168 = .ok (.aload_n 0, 1) := by decide +kernel
theorem dX7_plays_169 : decode cX7_plays 169 = .ok (.getfield 104, 3) := by decide +kernel
theorem dX7_plays_172 : decode cX7_plays 172 = .ok (.bipush 12, 2) := by decide +kernel
theorem dX7_plays_174 : decode cX7_plays 174 = .ok (.if_icmp .ne 8, 3) := by decide +kernel
theorem dX7_plays_177 : decode cX7_plays 177 = .ok (.aload_n 0, 1) := by decide +kernel
theorem dX7_plays_178 : decode cX7_plays 178 = .ok (.iload_n 3, 1) := by decide +kernel
theorem dX7_plays_179 : decode cX7_plays 179 = .ok (.invokevirtual 170, 3) := by decide +kernel
theorem dX7_plays_182 : decode cX7_plays 182 = .ok (.iload_n 2, 1) := by decide +kernel
theorem dX7_plays_183 : decode cX7_plays 183 = .ok (.ireturn, 1) := by decide +kernel
set_option maxRecDepth 20000 in
theorem ggX7_play_X7_isCard : GoodIn wsX7_play wsX7_isCard := goodIn_r _ [4, 5, 6, 3, 7] (by decide +kernel) (by decide +kernel)
set_option maxRecDepth 20000 in
theorem gX7_play_X7_isCard : GoodIn wsX7_play (va_wsS RX7 131 yX7_isCard wsX7_isCard) := goodIn_app (goodIn_of _ (by decide +kernel)) ggX7_play_X7_isCard
set_option maxRecDepth 20000 in
theorem ggX7_play_X7_isPlayable : GoodIn wsX7_play wsX7_isPlayable := goodIn_r _ [11, 12, 13, 14, 15, 16, 17, 18, 3, 19, 20, 21, 22, 23, 24, 25, 96, 97, 98, 99, 100, 101, 102, 103, 104, 105, 106, 107, 108, 109, 110, 111, 112, 113, 114, 115, 116, 117, 118, 119, 120, 121, 122, 123, 124] (by decide +kernel) (by decide +kernel)
set_option maxRecDepth 20000 in
theorem gX7_play_X7_isPlayable : GoodIn wsX7_play (wsV RX7 174 RX7 yX7_isPlayable wsX7_isPlayable) := goodIn_app (goodIn_of _ (by decide +kernel)) ggX7_play_X7_isPlayable
set_option maxRecDepth 20000 in
theorem ggX7_play_X7_isFine : GoodIn wsX7_play wsX7_isFine := goodIn_r _ [29, 30, 96, 97, 98, 99, 100, 101, 102, 103, 104, 105, 106, 107, 108, 109, 110, 111, 112, 113, 114, 115, 116, 117, 118, 119, 120, 121, 122, 123, 124] (by decide +kernel) (by decide +kernel)
set_option maxRecDepth 20000 in
theorem gX7_play_X7_isFine : GoodIn wsX7_play (wsV RX7 66 RX7 yX7_isFine wsX7_isFine) := goodIn_app (goodIn_of _ (by decide +kernel)) ggX7_play_X7_isFine
set_option maxRecDepth 20000 in
theorem ggX7_play_X7_plays : GoodIn wsX7_play wsX7_plays := goodIn_r _ [34, 13, 14, 16, 15, 35, 36, 37, 38, 39, 40, 41, 3, 42, 43, 44, 45, 46, 47, 48, 49, 50, 20, 21, 22, 51, 52, 53, 54, 55, 56, 57, 58, 59, 60, 61, 62, 63, 64, 65, 66, 67, 68, 69, 70, 71, 72, 73, 74, 75, 76, 77, 12, 78, 79, 80, 81, 82, 83, 84, 85, 86, 87, 88, 17, 18, 19, 89, 90, 91, 92, 93, 94, 95, 96, 97, 98, 99, 100, 101, 102, 103, 104, 105, 106, 107, 108, 109, 110, 111, 112, 113, 114, 115, 116, 117, 118, 119, 120, 121, 122, 123, 124] (by decide +kernel) (by decide +kernel)
set_option maxRecDepth 20000 in
theorem gX7_play_X7_plays : GoodIn wsX7_play (wsV RX7 177 RX7 yX7_plays wsX7_plays) := goodIn_app (goodIn_of _ (by decide +kernel)) ggX7_play_X7_plays
theorem dX7_play_0 : decode cX7_play 0 = .ok (.aload_n 0, 1) := by decide +kernel
theorem dX7_play_1 : decode cX7_play 1 = .ok (.iload_n 1, 1) := by decide +kernel
theorem dX7_play_2 : decode cX7_play 2 = .ok (.invokestatic 131, 3) := by decide +kernel
theorem dX7_play_5 : decode cX7_play 5 = .ok (.ifCond .ne 7, 3) := by decide +kernel
theorem dX7_play_8 : decode cX7_play 8 = .ok (.iconst 1, 1) := by decide +kernel
theorem dX7_play_9 : decode cX7_play 9 = .ok (.goto 16, 3) := by decide +kernel
theorem dX7_play_12 : decode cX7_play 12 = .ok (.aload_n 0, 1) := by decide +kernel
theorem dX7_play_13 : decode cX7_play 13 = .ok (.iload_n 1, 1) := by decide +kernel
theorem dX7_play_14 : decode cX7_play 14 = .ok (.invokevirtual 174, 3) := by decide +kernel
theorem dX7_play_17 : decode cX7_play 17 = .ok (.ifCond .ne 7, 3) := by decide +kernel
theorem dX7_play_20 : decode cX7_play 20 = .ok (.iconst 2, 1) := by decide +kernel
theorem dX7_play_21 : decode cX7_play 21 = .ok (.goto 4, 3) := by decide +kernel
theorem dX7_play_24 : decode cX7_play 24 = .ok (.iconst 0, 1) := by decide +kernel
theorem dX7_play_25 : decode cX7_play 25 = .ok (.invokevirtual 66, 3) := by decide +kernel
theorem dX7_play_28 : decode cX7_play 28 = .ok (.ifCond .eq 11, 3) := by decide +kernel
theorem dX7_play_31 : decode cX7_play 31 = .ok (.aload_n 0, 1) := by decide +kernel
theorem dX7_play_32 : decode cX7_play 32 = .ok (.iload_n 1, 1) := by decide +kernel
theorem dX7_play_33 : decode cX7_play 33 = .ok (.invokevirtual 177, 3) := by decide +kernel
theorem dX7_play_36 : decode cX7_play 36 = .ok (.goto 4, 3) := by decide +kernel
theorem dX7_play_39 : decode cX7_play 39 = .ok (.iconst 0, 1) := by decide +kernel
theorem dX7_play_40 : decode cX7_play 40 = .ok (.ireturn, 1) := by decide +kernel
set_option maxRecDepth 20000 in
theorem ggX7_playLowest_X7_isIn : GoodIn wsX7_playLowest wsX7_isIn := goodIn_r _ [5] (by decide +kernel) (by decide +kernel)
set_option maxRecDepth 20000 in
theorem gX7_playLowest_X7_isIn : GoodIn wsX7_playLowest (va_wsS RX7 61 yX7_isIn wsX7_isIn) := goodIn_app (goodIn_of _ (by decide +kernel)) ggX7_playLowest_X7_isIn
set_option maxRecDepth 20000 in
theorem ggX7_playLowest_X7_isFine : GoodIn wsX7_playLowest wsX7_isFine := goodIn_r _ [9, 10, 93, 94, 95, 96, 97, 98, 99, 100, 101, 102, 103, 104, 105, 106, 107, 108, 109, 110, 111, 112, 113, 114, 115, 116, 117, 118, 119, 120, 121] (by decide +kernel) (by decide +kernel)
set_option maxRecDepth 20000 in
theorem gX7_playLowest_X7_isFine : GoodIn wsX7_playLowest (wsV RX7 66 RX7 yX7_isFine wsX7_isFine) := goodIn_app (goodIn_of _ (by decide +kernel)) ggX7_playLowest_X7_isFine
set_option maxRecDepth 20000 in
theorem ggX7_playLowest_X7_isPlayable : GoodIn wsX7_playLowest wsX7_isPlayable := goodIn_r _ [14, 1, 15, 16, 17, 18, 19, 20, 4, 21, 22, 23, 24, 25, 26, 27, 93, 94, 95, 96, 97, 98, 99, 100, 101, 102, 103, 104, 105, 106, 107, 108, 109, 110, 111, 112, 113, 114, 115, 116, 117, 118, 119, 120, 121] (by decide +kernel) (by decide +kernel)
set_option maxRecDepth 20000 in
theorem gX7_playLowest_X7_isPlayable : GoodIn wsX7_playLowest (wsV RX7 174 RX7 yX7_isPlayable wsX7_isPlayable) := goodIn_app (goodIn_of _ (by decide +kernel)) ggX7_playLowest_X7_isPlayable
set_option maxRecDepth 20000 in
theorem ggX7_playLowest_X7_plays : GoodIn wsX7_playLowest wsX7_plays := goodIn_r _ [31, 15, 16, 18, 17, 32, 33, 34, 35, 36, 37, 38, 4, 39, 40, 41, 42, 43, 44, 45, 46, 47, 22, 23, 24, 48, 49, 50, 51, 52, 53, 54, 55, 56, 57, 58, 59, 60, 61, 62, 63, 64, 65, 66, 67, 68, 69, 70, 71, 72, 73, 74, 1, 75, 76, 77, 78, 79, 80, 81, 82, 83, 84, 85, 19, 20, 21, 86, 87, 88, 89, 90, 91, 92, 93, 94, 95, 96, 97, 98, 99, 100, 101, 102, 103, 104, 105, 106, 107, 108, 109, 110, 111, 112, 113, 114, 115, 116, 117, 118, 119, 120, 121] (by decide +kernel) (by decide +kernel)
set_option maxRecDepth 20000 in
theorem gX7_playLowest_X7_plays : GoodIn wsX7_playLowest (wsV RX7 177 RX7 yX7_plays wsX7_plays) := goodIn_app (goodIn_of _ (by decide +kernel)) ggX7_playLowest_X7_plays
theorem dX7_playLowest_0 : decode cX7_playLowest 0 = .ok (.aload_n 0, 1) := by decide +kernel
theorem dX7_playLowest_1 : decode cX7_playLowest 1 = .ok (.iload_n 1, 1) := by decide +kernel
theorem dX7_playLowest_2 : decode cX7_playLowest 2 = .ok (.iconst 1, 1) := by decide +kernel
theorem dX7_playLowest_3 : decode cX7_playLowest 3 = .ok (.bipush 48, 2) := by decide +kernel
theorem dX7_playLowest_5 : decode cX7_playLowest 5 = .ok (.invokestatic 61, 3) := by decide +kernel
theorem dX7_playLowest_8 : decode cX7_playLowest 8 = .ok (.ifCond .ne 7, 3) := by decide +kernel
theorem dX7_playLowest_11 : decode cX7_playLowest 11 = .ok (.iconst 1, 1) := by decide +kernel
theorem dX7_playLowest_12 : decode cX7_playLowest 12 = .ok (.goto 16, 3) := by decide +kernel
theorem dX7_playLowest_15 : decode cX7_playLowest 15 = .ok (.aload_n 0, 1) := by decide +kernel
theorem dX7_playLowest_16 : decode cX7_playLowest 16 = .ok (.getfield 9, 3) := by decide +kernel
theorem dX7_playLowest_19 : decode cX7_playLowest 19 = .ok (.iconst 5, 1) := by decide +kernel
theorem dX7_playLowest_20 : decode cX7_playLowest 20 = .ok (.if_icmp .eq 7, 3) := by decide +kernel
theorem dX7_playLowest_23 : decode cX7_playLowest 23 = .ok (.iconst 2, 1) := by decide +kernel
theorem dX7_playLowest_24 : decode cX7_playLowest 24 = .ok (.goto 4, 3) := by decide +kernel
theorem dX7_playLowest_27 : decode cX7_playLowest 27 = .ok (.iconst 0, 1) := by decide +kernel
theorem dX7_playLowest_28 : decode cX7_playLowest 28 = .ok (.invokevirtual 66, 3) := by decide +kernel
theorem dX7_playLowest_31 : decode cX7_playLowest 31 = .ok (.ifCond .ne 5, 3) := by decide +kernel
theorem dX7_playLowest_34 : decode cX7_playLowest 34 = .ok (.iconst 0, 1) := by decide +kernel
theorem dX7_playLowest_35 : decode cX7_playLowest 35 = .ok (.ireturn, 1) := by decide +kernel
theorem dX7_playLowest_36 : decode cX7_playLowest 36 = .ok (.iconst 0, 1) := by decide +kernel
theorem dX7_playLowest_37 : decode cX7_playLowest 37 = .ok (.istore_n 2, 1) := by decide +kernel
theorem dX7_playLowest_38 : decode cX7_playLowest 38 = .ok (.iload_n 2, 1) := by decide +kernel
theorem dX7_playLowest_39 : decode cX7_playLowest 39 = .ok (.iload_n 1, 1) := by decide +kernel
theorem dX7_playLowest_40 : decode cX7_playLowest 40 = .ok (.if_icmp .ge 40, 3) := by decide +kernel
theorem dX7_playLowest_43 : decode cX7_playLowest 43 = .ok (.aload_n 0, 1) := by decide +kernel
theorem dX7_playLowest_44 : decode cX7_playLowest 44 = .ok (.getfield 9, 3) := by decide +kernel
theorem dX7_playLowest_47 : decode cX7_playLowest 47 = .ok (.iconst 5, 1) := by decide +kernel
theorem dX7_playLowest_48 : decode cX7_playLowest 48 = .ok (.if_icmp .ne 32, 3) := by decide +kernel
theorem dX7_playLowest_51 : decode cX7_playLowest 51 = .ok (.iconst 0, 1) := by decide +kernel
theorem dX7_playLowest_52 : decode cX7_playLowest 52 = .ok (.istore_n 3, 1) := by decide +kernel
theorem dX7_playLowest_53 : decode cX7_playLowest 53 = .ok (.aload_n 0, 1) := by decide +kernel
theorem dX7_playLowest_54 : decode cX7_playLowest 54 = .ok (.iload_n 3, 1) := by decide +kernel
theorem dX7_playLowest_55 : decode cX7_playLowest 55 = .ok (.invokevirtual 174, 3) := by decide +kernel
theorem dX7_playLowest_58 : decode cX7_playLowest 58 = .ok (.ifCond .ne 9, 3) := by decide +kernel
theorem dX7_playLowest_61 : decode cX7_playLowest 61 = .ok (.iinc 3 1, 3) := by decide +kernel
theorem dX7_playLowest_64 : decode cX7_playLowest 64 = .ok (.goto (-11), 3) := by decide +kernel
theorem dX7_playLowest_67 : decode cX7_playLowest 67 = .ok (.aload_n 0, 1) := by decide +kernel
theorem dX7_playLowest_68 : decode cX7_playLowest 68 = .ok (.iload_n 3, 1) := by decide +kernel
theorem dX7_playLowest_69 : decode cX7_playLowest 69 = .ok (.invokevirtual 177, 3) := by decide +kernel
theorem dX7_playLowest_72 : decode cX7_playLowest 72 = .ok (.istore 4, 2) := by decide +kernel
theorem dX7_playLowest_74 : decode cX7_playLowest 74 = .ok (.iinc 2 1, 3) := by decide +kernel
theorem dX7_playLowest_77 : decode cX7_playLowest 77 = .ok (.goto (-39), 3) := by decide +kernel
theorem dX7_playLowest_80 : decode cX7_playLowest 80 = .ok (.iload_n 2, 1) := by decide +kernel
theorem dX7_playLowest_81 : decode cX7_playLowest 81 = .ok (.ireturn, 1) := by decide +kernel
theorem dX7_phase_0 : decode cX7_phase 0 = .ok (.aload_n 0, 1) := by decide +kernel
theorem dX7_phase_1 : decode cX7_phase 1 = .ok (.iconst 0, 1) := by decide +kernel
theorem dX7_phase_2 : decode cX7_phase 2 = .ok (.putfield 58, 3) := by decide +kernel
theorem dX7_phase_5 : decode cX7_phase 5 = .ok (.aload_n 0, 1) := by decide +kernel
theorem dX7_phase_6 : decode cX7_phase 6 = .ok (.getfield 9, 3) := by decide +kernel
theorem dX7_phase_9 : decode cX7_phase 9 = .ok (.ireturn, 1) := by decide +kernel
theorem dX7_turn_0 : decode cX7_turn 0 = .ok (.aload_n 0, 1) := by decide +kernel
theorem dX7_turn_1 : decode cX7_turn 1 = .ok (.iconst 0, 1) := by decide +kernel
theorem dX7_turn_2 : decode cX7_turn 2 = .ok (.putfield 58, 3) := by decide +kernel
theorem dX7_turn_5 : decode cX7_turn 5 = .ok (.aload_n 0, 1) := by decide +kernel
theorem dX7_turn_6 : decode cX7_turn 6 = .ok (.getfield 13, 3) := by decide +kernel
theorem dX7_turn_9 : decode cX7_turn 9 = .ok (.ireturn, 1) := by decide +kernel
theorem dX7_declarer_0 : decode cX7_declarer 0 = .ok (.aload_n 0, 1) := by decide +kernel
theorem dX7_declarer_1 : decode cX7_declarer 1 = .ok (.iconst 0, 1) := by decide +kernel
theorem dX7_declarer_2 : decode cX7_declarer 2 = .ok (.putfield 58, 3) := by decide +kernel
theorem dX7_declarer_5 : decode cX7_declarer 5 = .ok (.aload_n 0, 1) := by decide +kernel
theorem dX7_declarer_6 : decode cX7_declarer 6 = .ok (.getfield 31, 3) := by decide +kernel
theorem dX7_declarer_9 : decode cX7_declarer 9 = .ok (.ireturn, 1) := by decide +kernel
theorem dX7_level_0 : decode cX7_level 0 = .ok (.aload_n 0, 1) := by decide +kernel
theorem dX7_level_1 : decode cX7_level 1 = .ok (.iconst 0, 1) := by decide +kernel
theorem dX7_level_2 : decode cX7_level 2 = .ok (.putfield 58, 3) := by decide +kernel
theorem dX7_level_5 : decode cX7_level 5 = .ok (.aload_n 0, 1) := by decide +kernel
theorem dX7_level_6 : decode cX7_level 6 = .ok (.getfield 84, 3) := by decide +kernel
theorem dX7_level_9 : decode cX7_level 9 = .ok (.ireturn, 1) := by decide +kernel
theorem dX7_called_0 : decode cX7_called 0 = .ok (.aload_n 0, 1) := by decide +kernel
theorem dX7_called_1 : decode cX7_called 1 = .ok (.iconst 0, 1) := by decide +kernel
theorem dX7_called_2 : decode cX7_called 2 = .ok (.putfield 58, 3) := by decide +kernel
theorem dX7_called_5 : decode cX7_called 5 = .ok (.aload_n 0, 1) := by decide +kernel
theorem dX7_called_6 : decode cX7_called 6 = .ok (.getfield 34, 3) := by decide +kernel
theorem dX7_called_9 : decode cX7_called 9 = .ok (.ireturn, 1) := by decide +kernel
theorem dX7_partner_0 : decode cX7_partner 0 = .ok (.aload_n 0, 1) := by decide +kernel
theorem dX7_partner_1 : decode cX7_partner 1 = .ok (.iconst 0, 1) := by decide +kernel
theorem dX7_partner_2 : decode cX7_partner 2 = .ok (.putfield 58, 3) := by decide +kernel
theorem dX7_partner_5 : decode cX7_partner 5 = .ok (.aload_n 0, 1) := by decide +kernel
theorem dX7_partner_6 : decode cX7_partner 6 = .ok (.getfield 37, 3) := by decide +kernel
theorem dX7_partner_9 : decode cX7_partner 9 = .ok (.ireturn, 1) := by decide +kernel
set_option maxRecDepth 20000 in
theorem ggX7_hand_X7_isPlayer : GoodIn wsX7_hand wsX7_isPlayer := goodIn_r _ [5, 6, 7, 4, 8] (by decide +kernel) (by decide +kernel)
set_option maxRecDepth 20000 in
theorem gX7_hand_X7_isPlayer : GoodIn wsX7_hand (va_wsS RX7 180 yX7_isPlayer wsX7_isPlayer) := goodIn_app (goodIn_of _ (by decide +kernel)) ggX7_hand_X7_isPlayer
set_option maxRecDepth 20000 in
theorem ggX7_hand_X7_isFine : GoodIn wsX7_hand wsX7_isFine := goodIn_r _ [12, 13, 14, 15, 16, 17, 18, 19, 20, 21, 22, 23, 24, 25, 26, 27, 28, 29, 30, 31, 32, 33, 34, 35, 36, 37, 38, 39, 40, 41, 42] (by decide +kernel) (by decide +kernel)
set_option maxRecDepth 20000 in
theorem gX7_hand_X7_isFine : GoodIn wsX7_hand (wsV RX7 66 RX7 yX7_isFine wsX7_isFine) := goodIn_app (goodIn_of _ (by decide +kernel)) ggX7_hand_X7_isFine
theorem dX7_hand_0 : decode cX7_hand 0 = .ok (.aload_n 0, 1) := by decide +kernel
theorem dX7_hand_1 : decode cX7_hand 1 = .ok (.iload_n 1, 1) := by decide +kernel
theorem dX7_hand_2 : decode cX7_hand 2 = .ok (.invokestatic 180, 3) := by decide +kernel
theorem dX7_hand_5 : decode cX7_hand 5 = .ok (.ifCond .eq 7, 3) := by decide +kernel
theorem dX7_hand_8 : decode cX7_hand 8 = .ok (.iconst 0, 1) := by decide +kernel
theorem dX7_hand_9 : decode cX7_hand 9 = .ok (.goto 4, 3) := by decide +kernel
theorem dX7_hand_12 : decode cX7_hand 12 = .ok (.iconst 1, 1) := by decide +kernel
theorem dX7_hand_13 : decode cX7_hand 13 = .ok (.invokevirtual 66, 3) := by decide +kernel
theorem dX7_hand_16 : decode cX7_hand 16 = .ok (.ifCond .eq 12, 3) := by decide +kernel
theorem dX7_hand_19 : decode cX7_hand 19 = .ok (.aload_n 0, 1) := by decide +kernel
theorem dX7_hand_20 : decode cX7_hand 20 = .ok (.getfield 20, 3) := by decide +kernel
theorem dX7_hand_23 : decode cX7_hand 23 = .ok (.iload_n 1, 1) := by decide +kernel
theorem dX7_hand_24 : decode cX7_hand 24 = .ok (.laload, 1) := by decide +kernel
theorem dX7_hand_25 : decode cX7_hand 25 = .ok (.goto 4, 3) := by decide +kernel
theorem dX7_hand_28 : decode cX7_hand 28 = .ok (.lconst 0, 1) := by decide +kernel
theorem dX7_hand_29 : decode cX7_hand 29 = .ok (.lreturn, 1) := by decide +kernel
set_option maxRecDepth 20000 in
theorem ggX7_talonAt_X7_isIn : GoodIn wsX7_talonAt wsX7_isIn := goodIn_r _ [5] (by decide +kernel) (by decide +kernel)
set_option maxRecDepth 20000 in
theorem gX7_talonAt_X7_isIn : GoodIn wsX7_talonAt (va_wsS RX7 61 yX7_isIn wsX7_isIn) := goodIn_app (goodIn_of _ (by decide +kernel)) ggX7_talonAt_X7_isIn
set_option maxRecDepth 20000 in
theorem ggX7_talonAt_X7_isFine : GoodIn wsX7_talonAt wsX7_isFine := goodIn_r _ [9, 10, 16, 17, 18, 19, 20, 21, 22, 23, 24, 25, 26, 27, 28, 29, 30, 31, 32, 33, 34, 35, 36, 37, 38, 39, 40, 41, 42, 43, 44] (by decide +kernel) (by decide +kernel)
set_option maxRecDepth 20000 in
theorem gX7_talonAt_X7_isFine : GoodIn wsX7_talonAt (wsV RX7 66 RX7 yX7_isFine wsX7_isFine) := goodIn_app (goodIn_of _ (by decide +kernel)) ggX7_talonAt_X7_isFine
set_option maxRecDepth 20000 in
theorem ggX7_talonAt_X7_talon : GoodIn wsX7_talonAt wsX7_talon := goodIn_r _ [14, 15, 16, 17, 18, 19, 20, 21, 22, 23, 24, 25, 26, 27, 28, 29, 30, 31, 32, 33, 34, 35, 36, 37, 38, 39, 40, 41, 42, 43, 44] (by decide +kernel) (by decide +kernel)
set_option maxRecDepth 20000 in
theorem gX7_talonAt_X7_talon : GoodIn wsX7_talonAt (wsV RX7 110 RX7 yX7_talon wsX7_talon) := goodIn_app (goodIn_of _ (by decide +kernel)) ggX7_talonAt_X7_talon
theorem dX7_talonAt_0 : decode cX7_talonAt 0 = .ok (.aload_n 0, 1) := by decide +kernel
theorem dX7_talonAt_1 : decode cX7_talonAt 1 = .ok (.iload_n 1, 1) := by decide +kernel
theorem dX7_talonAt_2 : decode cX7_talonAt 2 = .ok (.iconst 0, 1) := by decide +kernel
theorem dX7_talonAt_3 : decode cX7_talonAt 3 = .ok (.iconst 5, 1) := by decide +kernel
theorem dX7_talonAt_4 : decode cX7_talonAt 4 = .ok (.invokestatic 61, 3) := by decide +kernel
theorem dX7_talonAt_7 : decode cX7_talonAt 7 = .ok (.ifCond .ne 7, 3) := by decide +kernel
theorem dX7_talonAt_10 : decode cX7_talonAt 10 = .ok (.iconst 1, 1) := by decide +kernel
theorem dX7_talonAt_11 : decode cX7_talonAt 11 = .ok (.goto 15, 3) := by decide +kernel
theorem dX7_talonAt_14 : decode cX7_talonAt 14 = .ok (.aload_n 0, 1) := by decide +kernel
theorem dX7_talonAt_15 : decode cX7_talonAt 15 = .ok (.getfield 71, 3) := by decide +kernel
theorem dX7_talonAt_18 : decode cX7_talonAt 18 = .ok (.ifCond .ne 7, 3) := by decide +kernel
theorem dX7_talonAt_21 : decode cX7_talonAt 21 = .ok (.iconst 2, 1) := by decide +kernel
theorem dX7_talonAt_22 : decode cX7_talonAt 22 = .ok (.goto 4, 3) := by decide +kernel
theorem dX7_talonAt_25 : decode cX7_talonAt 25 = .ok (.iconst 0, 1) := by decide +kernel
theorem dX7_talonAt_26 : decode cX7_talonAt 26 = .ok (.invokevirtual 66, 3) := by decide +kernel
theorem dX7_talonAt_29 : decode cX7_talonAt 29 = .ok (.ifCond .eq 11, 3) := by decide +kernel
theorem dX7_talonAt_32 : decode cX7_talonAt 32 = .ok (.aload_n 0, 1) := by decide +kernel
theorem dX7_talonAt_33 : decode cX7_talonAt 33 = .ok (.iload_n 1, 1) := by decide +kernel
theorem dX7_talonAt_34 : decode cX7_talonAt 34 = .ok (.invokevirtual 110, 3) := by decide +kernel
theorem dX7_talonAt_37 : decode cX7_talonAt 37 = .ok (.goto 4, 3) := by decide +kernel
theorem dX7_talonAt_40 : decode cX7_talonAt 40 = .ok (.iconst 0, 1) := by decide +kernel
theorem dX7_talonAt_41 : decode cX7_talonAt 41 = .ok (.ireturn, 1) := by decide +kernel
theorem dX7_inTrick_0 : decode cX7_inTrick 0 = .ok (.aload_n 0, 1) := by decide +kernel
theorem dX7_inTrick_1 : decode cX7_inTrick 1 = .ok (.iconst 0, 1) := by decide +kernel
theorem dX7_inTrick_2 : decode cX7_inTrick 2 = .ok (.putfield 58, 3) := by decide +kernel
theorem dX7_inTrick_5 : decode cX7_inTrick 5 = .ok (.aload_n 0, 1) := by decide +kernel
theorem dX7_inTrick_6 : decode cX7_inTrick 6 = .ok (.getfield 101, 3) := by decide +kernel
theorem dX7_inTrick_9 : decode cX7_inTrick 9 = .ok (.ireturn, 1) := by decide +kernel
set_option maxRecDepth 20000 in
theorem ggX7_trickAt_X7_isIn : GoodIn wsX7_trickAt wsX7_isIn := goodIn_r _ [6] (by decide +kernel) (by decide +kernel)
set_option maxRecDepth 20000 in
theorem gX7_trickAt_X7_isIn : GoodIn wsX7_trickAt (va_wsS RX7 61 yX7_isIn wsX7_isIn) := goodIn_app (goodIn_of _ (by decide +kernel)) ggX7_trickAt_X7_isIn
set_option maxRecDepth 20000 in
theorem ggX7_trickAt_X7_isFine : GoodIn wsX7_trickAt wsX7_isFine := goodIn_r _ [10, 11, 12, 13, 14, 15, 16, 17, 18, 19, 20, 21, 22, 23, 24, 25, 26, 27, 28, 29, 30, 31, 32, 33, 34, 35, 36, 37, 38, 39, 40] (by decide +kernel) (by decide +kernel)
set_option maxRecDepth 20000 in
theorem gX7_trickAt_X7_isFine : GoodIn wsX7_trickAt (wsV RX7 66 RX7 yX7_isFine wsX7_isFine) := goodIn_app (goodIn_of _ (by decide +kernel)) ggX7_trickAt_X7_isFine
theorem dX7_trickAt_0 : decode cX7_trickAt 0 = .ok (.aload_n 0, 1) := by decide +kernel
theorem dX7_trickAt_1 : decode cX7_trickAt 1 = .ok (.iload_n 1, 1) := by decide +kernel
theorem dX7_trickAt_2 : decode cX7_trickAt 2 = .ok (.iconst 0, 1) := by decide +kernel
theorem dX7_trickAt_3 : decode cX7_trickAt 3 = .ok (.aload_n 0, 1) := by decide +kernel
theorem dX7_trickAt_4 : decode cX7_trickAt 4 = .ok (.getfield 101, 3) := by decide +kernel
theorem dX7_trickAt_7 : decode cX7_trickAt 7 = .ok (.iconst 1, 1) := by decide +kernel
theorem dX7_trickAt_8 : decode cX7_trickAt 8 = .ok (.isub, 1) := by decide +kernel
theorem dX7_trickAt_9 : decode cX7_trickAt 9 = .ok (.invokestatic 61, 3) := by decide +kernel
theorem dX7_trickAt_12 : decode cX7_trickAt 12 = .ok (.ifCond .eq 7, 3) := by decide +kernel
theorem dX7_trickAt_15 : decode cX7_trickAt 15 = .ok (.iconst 0, 1) := by decide +kernel
theorem dX7_trickAt_16 : decode cX7_trickAt 16 = .ok (.goto 4, 3) := by decide +kernel
theorem dX7_trickAt_19 : decode cX7_trickAt 19 = .ok (.iconst 1, 1) := by decide +kernel
theorem dX7_trickAt_20 : decode cX7_trickAt 20 = .ok (.invokevirtual 66, 3) := by decide +kernel
theorem dX7_trickAt_23 : decode cX7_trickAt 23 = .ok (.ifCond .eq 12, 3) := by decide +kernel
theorem dX7_trickAt_26 : decode cX7_trickAt 26 = .ok (.aload_n 0, 1) := by decide +kernel
theorem dX7_trickAt_27 : decode cX7_trickAt 27 = .ok (.getfield 46, 3) := by decide +kernel
theorem dX7_trickAt_30 : decode cX7_trickAt 30 = .ok (.iload_n 1, 1) := by decide +kernel
theorem dX7_trickAt_31 : decode cX7_trickAt 31 = .ok (.iaload, 1) := by decide +kernel
theorem dX7_trickAt_32 : decode cX7_trickAt 32 = .ok (.goto 4, 3) := by decide +kernel
theorem dX7_trickAt_35 : decode cX7_trickAt 35 = .ok (.iconst 0, 1) := by decide +kernel
theorem dX7_trickAt_36 : decode cX7_trickAt 36 = .ok (.ireturn, 1) := by decide +kernel
set_option maxRecDepth 20000 in
theorem ggX7_canPlay_X7_isCard : GoodIn wsX7_canPlay wsX7_isCard := goodIn_r _ [4, 5, 6, 3, 7] (by decide +kernel) (by decide +kernel)
set_option maxRecDepth 20000 in
theorem gX7_canPlay_X7_isCard : GoodIn wsX7_canPlay (va_wsS RX7 131 yX7_isCard wsX7_isCard) := goodIn_app (goodIn_of _ (by decide +kernel)) ggX7_canPlay_X7_isCard
set_option maxRecDepth 20000 in
theorem ggX7_canPlay_X7_isFine : GoodIn wsX7_canPlay wsX7_isFine := goodIn_r _ [11, 12, 31, 32, 33, 34, 35, 36, 37, 38, 39, 40, 41, 42, 43, 44, 45, 46, 47, 48, 49, 50, 51, 52, 53, 54, 55, 56, 57, 58, 59] (by decide +kernel) (by decide +kernel)
set_option maxRecDepth 20000 in
theorem gX7_canPlay_X7_isFine : GoodIn wsX7_canPlay (wsV RX7 66 RX7 yX7_isFine wsX7_isFine) := goodIn_app (goodIn_of _ (by decide +kernel)) ggX7_canPlay_X7_isFine
set_option maxRecDepth 20000 in
theorem ggX7_canPlay_X7_isPlayable : GoodIn wsX7_canPlay wsX7_isPlayable := goodIn_r _ [16, 17, 18, 19, 20, 21, 22, 23, 3, 24, 25, 26, 27, 28, 29, 30, 31, 32, 33, 34, 35, 36, 37, 38, 39, 40, 41, 42, 43, 44, 45, 46, 47, 48, 49, 50, 51, 52, 53, 54, 55, 56, 57, 58, 59] (by decide +kernel) (by decide +kernel)
set_option maxRecDepth 20000 in
theorem gX7_canPlay_X7_isPlayable : GoodIn wsX7_canPlay (wsV RX7 174 RX7 yX7_isPlayable wsX7_isPlayable) := goodIn_app (goodIn_of _ (by decide +kernel)) ggX7_canPlay_X7_isPlayable
theorem dX7_canPlay_0 : decode cX7_canPlay 0 = .ok (.aload_n 0, 1) := by decide +kernel
theorem dX7_canPlay_1 : decode cX7_canPlay 1 = .ok (.iload_n 1, 1) := by decide +kernel
theorem dX7_canPlay_2 : decode cX7_canPlay 2 = .ok (.invokestatic 131, 3) := by decide +kernel
theorem dX7_canPlay_5 : decode cX7_canPlay 5 = .ok (.ifCond .eq 7, 3) := by decide +kernel
theorem dX7_canPlay_8 : decode cX7_canPlay 8 = .ok (.iconst 0, 1) := by decide +kernel
theorem dX7_canPlay_9 : decode cX7_canPlay 9 = .ok (.goto 4, 3) := by decide +kernel
theorem dX7_canPlay_12 : decode cX7_canPlay 12 = .ok (.iconst 1, 1) := by decide +kernel
theorem dX7_canPlay_13 : decode cX7_canPlay 13 = .ok (.invokevirtual 66, 3) := by decide +kernel
theorem dX7_canPlay_16 : decode cX7_canPlay 16 = .ok (.ifCond .eq 15, 3) := by decide +kernel
theorem dX7_canPlay_19 : decode cX7_canPlay 19 = .ok (.aload_n 0, 1) := by decide +kernel
theorem dX7_canPlay_20 : decode cX7_canPlay 20 = .ok (.iload_n 1, 1) := by decide +kernel
theorem dX7_canPlay_21 : decode cX7_canPlay 21 = .ok (.invokevirtual 174, 3) := by decide +kernel
theorem dX7_canPlay_24 : decode cX7_canPlay 24 = .ok (.ifCond .eq 7, 3) := by decide +kernel
theorem dX7_canPlay_27 : decode cX7_canPlay 27 = .ok (.iconst 1, 1) := by decide +kernel
theorem dX7_canPlay_28 : decode cX7_canPlay 28 = .ok (.goto 4, 3) := by decide +kernel
theorem dX7_canPlay_31 : decode cX7_canPlay 31 = .ok (.iconst 0, 1) := by decide +kernel
theorem dX7_canPlay_32 : decode cX7_canPlay 32 = .ok (.ireturn, 1) := by decide +kernel
theorem dX7_tricks_0 : decode cX7_tricks 0 = .ok (.aload_n 0, 1) := by decide +kernel
theorem dX7_tricks_1 : decode cX7_tricks 1 = .ok (.iconst 0, 1) := by decide +kernel
theorem dX7_tricks_2 : decode cX7_tricks 2 = .ok (.putfield 58, 3) := by decide +kernel
theorem dX7_tricks_5 : decode cX7_tricks 5 = .ok (.aload_n 0, 1) := by decide +kernel
theorem dX7_tricks_6 : decode cX7_tricks 6 = .ok (.getfield 104, 3) := by decide +kernel
theorem dX7_tricks_9 : decode cX7_tricks 9 = .ok (.ireturn, 1) := by decide +kernel
set_option maxRecDepth 20000 in
theorem ggX7_valueOf_X7_isCard : GoodIn wsX7_valueOf wsX7_isCard := goodIn_r _ [4, 5, 6, 3, 7] (by decide +kernel) (by decide +kernel)
set_option maxRecDepth 20000 in
theorem gX7_valueOf_X7_isCard : GoodIn wsX7_valueOf (va_wsS RX7 131 yX7_isCard wsX7_isCard) := goodIn_app (goodIn_of _ (by decide +kernel)) ggX7_valueOf_X7_isCard
set_option maxRecDepth 20000 in
theorem ggX7_valueOf_X7_isFine : GoodIn wsX7_valueOf wsX7_isFine := goodIn_r _ [11, 12, 16, 17, 18, 19, 20, 21, 22, 23, 24, 25, 26, 27, 28, 29, 30, 31, 32, 33, 34, 35, 36, 37, 38, 39, 40, 41, 42, 43, 44] (by decide +kernel) (by decide +kernel)
set_option maxRecDepth 20000 in
theorem gX7_valueOf_X7_isFine : GoodIn wsX7_valueOf (wsV RX7 66 RX7 yX7_isFine wsX7_isFine) := goodIn_app (goodIn_of _ (by decide +kernel)) ggX7_valueOf_X7_isFine
set_option maxRecDepth 20000 in
theorem ggX7_valueOf_X7_worth : GoodIn wsX7_valueOf wsX7_worth := goodIn_r _ [15] (by decide +kernel) (by decide +kernel)
set_option maxRecDepth 20000 in
theorem gX7_valueOf_X7_worth : GoodIn wsX7_valueOf (va_wsS RX7 134 yX7_worth wsX7_worth) := goodIn_app (goodIn_of _ (by decide +kernel)) ggX7_valueOf_X7_worth
theorem dX7_valueOf_0 : decode cX7_valueOf 0 = .ok (.aload_n 0, 1) := by decide +kernel
theorem dX7_valueOf_1 : decode cX7_valueOf 1 = .ok (.iload_n 1, 1) := by decide +kernel
theorem dX7_valueOf_2 : decode cX7_valueOf 2 = .ok (.invokestatic 131, 3) := by decide +kernel
theorem dX7_valueOf_5 : decode cX7_valueOf 5 = .ok (.ifCond .eq 7, 3) := by decide +kernel
theorem dX7_valueOf_8 : decode cX7_valueOf 8 = .ok (.iconst 0, 1) := by decide +kernel
theorem dX7_valueOf_9 : decode cX7_valueOf 9 = .ok (.goto 4, 3) := by decide +kernel
theorem dX7_valueOf_12 : decode cX7_valueOf 12 = .ok (.iconst 1, 1) := by decide +kernel
theorem dX7_valueOf_13 : decode cX7_valueOf 13 = .ok (.invokevirtual 66, 3) := by decide +kernel
theorem dX7_valueOf_16 : decode cX7_valueOf 16 = .ok (.ifCond .eq 10, 3) := by decide +kernel
theorem dX7_valueOf_19 : decode cX7_valueOf 19 = .ok (.iload_n 1, 1) := by decide +kernel
theorem dX7_valueOf_20 : decode cX7_valueOf 20 = .ok (.invokestatic 134, 3) := by decide +kernel
theorem dX7_valueOf_23 : decode cX7_valueOf 23 = .ok (.goto 4, 3) := by decide +kernel
theorem dX7_valueOf_26 : decode cX7_valueOf 26 = .ok (.iconst 0, 1) := by decide +kernel
theorem dX7_valueOf_27 : decode cX7_valueOf 27 = .ok (.ireturn, 1) := by decide +kernel
set_option maxRecDepth 20000 in
theorem ggX7_thirds_X7_isIn : GoodIn wsX7_thirds wsX7_isIn := goodIn_r _ [4] (by decide +kernel) (by decide +kernel)
set_option maxRecDepth 20000 in
theorem gX7_thirds_X7_isIn : GoodIn wsX7_thirds (va_wsS RX7 61 yX7_isIn wsX7_isIn) := goodIn_app (goodIn_of _ (by decide +kernel)) ggX7_thirds_X7_isIn
set_option maxRecDepth 20000 in
theorem ggX7_thirds_X7_isFine : GoodIn wsX7_thirds wsX7_isFine := goodIn_r _ [8, 9, 34, 35, 36, 37, 38, 39, 40, 41, 42, 43, 44, 45, 46, 47, 48, 49, 50, 51, 52, 53, 54, 55, 56, 57, 58, 59, 60, 61, 62] (by decide +kernel) (by decide +kernel)
set_option maxRecDepth 20000 in
theorem gX7_thirds_X7_isFine : GoodIn wsX7_thirds (wsV RX7 66 RX7 yX7_isFine wsX7_isFine) := goodIn_app (goodIn_of _ (by decide +kernel)) ggX7_thirds_X7_isFine
set_option maxRecDepth 20000 in
theorem ggX7_thirds_X7_counted : GoodIn wsX7_thirds wsX7_counted := goodIn_r _ [13, 14, 15, 16, 3, 17, 18, 19, 20, 21, 22, 23, 24, 25, 26, 27, 28, 29, 30, 31, 32, 33, 34, 35, 36, 37, 38, 39, 40, 41, 42, 43, 44, 45, 46, 47, 48, 49, 50, 51, 52, 53, 54, 55, 56, 57, 58, 59, 60, 61, 62] (by decide +kernel) (by decide +kernel)
set_option maxRecDepth 20000 in
theorem gX7_thirds_X7_counted : GoodIn wsX7_thirds (wsV RX7 155 RX7 yX7_counted wsX7_counted) := goodIn_app (goodIn_of _ (by decide +kernel)) ggX7_thirds_X7_counted
theorem dX7_thirds_0 : decode cX7_thirds 0 = .ok (.aload_n 0, 1) := by decide +kernel
theorem dX7_thirds_1 : decode cX7_thirds 1 = .ok (.iload_n 1, 1) := by decide +kernel
theorem dX7_thirds_2 : decode cX7_thirds 2 = .ok (.iconst 0, 1) := by decide +kernel
theorem dX7_thirds_3 : decode cX7_thirds 3 = .ok (.iconst 1, 1) := by decide +kernel
theorem dX7_thirds_4 : decode cX7_thirds 4 = .ok (.invokestatic 61, 3) := by decide +kernel
theorem dX7_thirds_7 : decode cX7_thirds 7 = .ok (.ifCond .eq 7, 3) := by decide +kernel
theorem dX7_thirds_10 : decode cX7_thirds 10 = .ok (.iconst 0, 1) := by decide +kernel
theorem dX7_thirds_11 : decode cX7_thirds 11 = .ok (.goto 4, 3) := by decide +kernel
theorem dX7_thirds_14 : decode cX7_thirds 14 = .ok (.iconst 1, 1) := by decide +kernel
theorem dX7_thirds_15 : decode cX7_thirds 15 = .ok (.invokevirtual 66, 3) := by decide +kernel
theorem dX7_thirds_18 : decode cX7_thirds 18 = .ok (.ifCond .eq 11, 3) := by decide +kernel
theorem dX7_thirds_21 : decode cX7_thirds 21 = .ok (.aload_n 0, 1) := by decide +kernel
theorem dX7_thirds_22 : decode cX7_thirds 22 = .ok (.iload_n 1, 1) := by decide +kernel
theorem dX7_thirds_23 : decode cX7_thirds 23 = .ok (.invokevirtual 155, 3) := by decide +kernel
theorem dX7_thirds_26 : decode cX7_thirds 26 = .ok (.goto 4, 3) := by decide +kernel
theorem dX7_thirds_29 : decode cX7_thirds 29 = .ok (.iconst 0, 1) := by decide +kernel
theorem dX7_thirds_30 : decode cX7_thirds 30 = .ok (.ireturn, 1) := by decide +kernel
set_option maxRecDepth 20000 in
theorem ggX7_byPacks_X7_isIn : GoodIn wsX7_byPacks wsX7_isIn := goodIn_r _ [4] (by decide +kernel) (by decide +kernel)
set_option maxRecDepth 20000 in
theorem gX7_byPacks_X7_isIn : GoodIn wsX7_byPacks (va_wsS RX7 61 yX7_isIn wsX7_isIn) := goodIn_app (goodIn_of _ (by decide +kernel)) ggX7_byPacks_X7_isIn
set_option maxRecDepth 20000 in
theorem ggX7_byPacks_X7_isFine : GoodIn wsX7_byPacks wsX7_isFine := goodIn_r _ [8, 9, 30, 31, 32, 33, 34, 35, 36, 37, 38, 39, 40, 41, 42, 43, 44, 45, 46, 47, 48, 49, 50, 51, 52, 53, 54, 55, 56, 57, 58] (by decide +kernel) (by decide +kernel)
set_option maxRecDepth 20000 in
theorem gX7_byPacks_X7_isFine : GoodIn wsX7_byPacks (wsV RX7 66 RX7 yX7_isFine wsX7_isFine) := goodIn_app (goodIn_of _ (by decide +kernel)) ggX7_byPacks_X7_isFine
set_option maxRecDepth 20000 in
theorem ggX7_byPacks_X7_cardsOf : GoodIn wsX7_byPacks wsX7_cardsOf := goodIn_r _ [13, 14, 15, 16, 17, 18, 19, 20, 3, 21, 22, 23, 30, 31, 32, 33, 34, 35, 36, 37, 38, 39, 40, 41, 42, 43, 44, 45, 46, 47, 48, 49, 50, 51, 52, 53, 54, 55, 56, 57, 58] (by decide +kernel) (by decide +kernel)
set_option maxRecDepth 20000 in
theorem gX7_byPacks_X7_cardsOf : GoodIn wsX7_byPacks (wsV RX7 146 RX7 yX7_cardsOf wsX7_cardsOf) := goodIn_app (goodIn_of _ (by decide +kernel)) ggX7_byPacks_X7_cardsOf
set_option maxRecDepth 20000 in
theorem ggX7_byPacks_X7_has : GoodIn wsX7_byPacks wsX7_has := goodIn_r _ [26] (by decide +kernel) (by decide +kernel)
set_option maxRecDepth 20000 in
theorem gX7_byPacks_X7_has : GoodIn wsX7_byPacks (va_wsS RX7 124 yX7_has wsX7_has) := goodIn_app (goodIn_of _ (by decide +kernel)) ggX7_byPacks_X7_has
set_option maxRecDepth 20000 in
theorem ggX7_byPacks_X7_worth : GoodIn wsX7_byPacks wsX7_worth := goodIn_r _ [29] (by decide +kernel) (by decide +kernel)
set_option maxRecDepth 20000 in
theorem gX7_byPacks_X7_worth : GoodIn wsX7_byPacks (va_wsS RX7 134 yX7_worth wsX7_worth) := goodIn_app (goodIn_of _ (by decide +kernel)) ggX7_byPacks_X7_worth
theorem dX7_byPacks_0 : decode cX7_byPacks 0 = .ok (.aload_n 0, 1) := by decide +kernel
theorem dX7_byPacks_1 : decode cX7_byPacks 1 = .ok (.iload_n 1, 1) := by decide +kernel
theorem dX7_byPacks_2 : decode cX7_byPacks 2 = .ok (.iconst 0, 1) := by decide +kernel
theorem dX7_byPacks_3 : decode cX7_byPacks 3 = .ok (.iconst 1, 1) := by decide +kernel
theorem dX7_byPacks_4 : decode cX7_byPacks 4 = .ok (.invokestatic 61, 3) := by decide +kernel
theorem dX7_byPacks_7 : decode cX7_byPacks 7 = .ok (.ifCond .eq 7, 3) := by decide +kernel
theorem dX7_byPacks_10 : decode cX7_byPacks 10 = .ok (.iconst 0, 1) := by decide +kernel
theorem dX7_byPacks_11 : decode cX7_byPacks 11 = .ok (.goto 4, 3) := by decide +kernel
theorem dX7_byPacks_14 : decode cX7_byPacks 14 = .ok (.iconst 1, 1) := by decide +kernel
theorem dX7_byPacks_15 : decode cX7_byPacks 15 = .ok (.invokevirtual 66, 3) := by decide +kernel
theorem dX7_byPacks_18 : decode cX7_byPacks 18 = .ok (.ifCond .ne 5, 3) := by decide +kernel
theorem dX7_byPacks_21 : decode cX7_byPacks 21 = .ok (.iconst 0, 1) := by decide +kernel
theorem dX7_byPacks_22 : decode cX7_byPacks 22 = .ok (.ireturn, 1) := by decide +kernel
theorem dX7_byPacks_23 : decode cX7_byPacks 23 = .ok (.iconst 0, 1) := by decide +kernel
theorem dX7_byPacks_24 : decode cX7_byPacks 24 = .ok (.istore_n 2, 1) := by decide +kernel
theorem dX7_byPacks_25 : decode cX7_byPacks 25 = .ok (.iconst 0, 1) := by decide +kernel
theorem dX7_byPacks_26 : decode cX7_byPacks 26 = .ok (.istore_n 3, 1) := by decide +kernel
theorem dX7_byPacks_27 : decode cX7_byPacks 27 = .ok (.iconst 0, 1) := by decide +kernel
theorem dX7_byPacks_28 : decode cX7_byPacks 28 = .ok (.istore 4, 2) := by decide +kernel
theorem dX7_byPacks_30 : decode cX7_byPacks 30 = .ok (.iconst 0, 1) := by decide +kernel
theorem dX7_byPacks_31 : decode cX7_byPacks 31 = .ok (.istore 5, 2) := by decide +kernel
theorem dX7_byPacks_33 : decode cX7_byPacks 33 = .ok (.iload 5, 2) := by decide +kernel
theorem dX7_byPacks_35 : decode cX7_byPacks 35 = .ok (.bipush 54, 2) := by decide +kernel
theorem dX7_byPacks_37 : decode cX7_byPacks 37 = .ok (.if_icmp .ge 63, 3) := by decide +kernel
theorem dX7_byPacks_40 : decode cX7_byPacks 40 = .ok (.aload_n 0, 1) := by decide +kernel
theorem dX7_byPacks_41 : decode cX7_byPacks 41 = .ok (.iload_n 1, 1) := by decide +kernel
theorem dX7_byPacks_42 : decode cX7_byPacks 42 = .ok (.invokevirtual 146, 3) := by decide +kernel
theorem dX7_byPacks_45 : decode cX7_byPacks 45 = .ok (.iload 5, 2) := by decide +kernel
theorem dX7_byPacks_47 : decode cX7_byPacks 47 = .ok (.invokestatic 124, 3) := by decide +kernel
theorem dX7_byPacks_50 : decode cX7_byPacks 50 = .ok (.ifCond .eq 44, 3) := by decide +kernel
theorem dX7_byPacks_53 : decode cX7_byPacks 53 = .ok (.iload_n 3, 1) := by decide +kernel
theorem dX7_byPacks_54 : decode cX7_byPacks 54 = .ok (.iload 5, 2) := by decide +kernel
theorem dX7_byPacks_56 : decode cX7_byPacks 56 = .ok (.invokestatic 134, 3) := by decide +kernel
theorem dX7_byPacks_59 : decode cX7_byPacks 59 = .ok (.iadd, 1) := by decide +kernel
theorem dX7_byPacks_60 : decode cX7_byPacks 60 = .ok (.istore_n 3, 1) := by decide +kernel
theorem dX7_byPacks_61 : decode cX7_byPacks 61 = .ok (.iinc 4 1, 3) := by decide +kernel
theorem dX7_byPacks_64 : decode cX7_byPacks 64 = .ok (.iload_n 2, 1) := by decide +kernel
theorem dX7_byPacks_65 : decode cX7_byPacks 65 = .ok (.iload 4, 2) := by decide +kernel
theorem dX7_byPacks_67 : decode cX7_byPacks 67 = .ok (.iconst 3, 1) := by decide +kernel
theorem dX7_byPacks_68 : decode cX7_byPacks 68 = .ok (.irem, 1) := by decide +kernel
theorem dX7_byPacks_69 : decode cX7_byPacks 69 = .ok (.ifCond .ne 9, 3) := by decide +kernel
theorem dX7_byPacks_72 : decode cX7_byPacks 72 = .ok (.iload_n 3, 1) := by decide +kernel
theorem dX7_byPacks_73 : decode cX7_byPacks 73 = .ok (.iconst 2, 1) := by decide +kernel
theorem dX7_byPacks_74 : decode cX7_byPacks 74 = .ok (.isub, 1) := by decide +kernel
theorem dX7_byPacks_75 : decode cX7_byPacks 75 = .ok (.goto 4, 3) := by decide +kernel
theorem dX7_byPacks_78 : decode cX7_byPacks 78 = .ok (.iconst 0, 1) := by decide +kernel
theorem dX7_byPacks_79 : decode cX7_byPacks 79 = .ok (.iadd, 1) := by decide +kernel
theorem dX7_byPacks_80 : decode cX7_byPacks 80 = .ok (.istore_n 2, 1) := by decide +kernel
theorem dX7_byPacks_81 : decode cX7_byPacks 81 = .ok (.iload 4, 2) := by decide +kernel
theorem dX7_byPacks_83 : decode cX7_byPacks 83 = .ok (.iconst 3, 1) := by decide +kernel
theorem dX7_byPacks_84 : decode cX7_byPacks 84 = .ok (.irem, 1) := by decide +kernel
theorem dX7_byPacks_85 : decode cX7_byPacks 85 = .ok (.ifCond .ne 7, 3) := by decide +kernel
theorem dX7_byPacks_88 : decode cX7_byPacks 88 = .ok (.iconst 0, 1) := by decide +kernel
theorem dX7_byPacks_89 : decode cX7_byPacks 89 = .ok (.goto 4, 3) := by decide +kernel
theorem dX7_byPacks_92 : decode cX7_byPacks 92 = .ok (.iload_n 3, 1) := by decide +kernel
theorem dX7_byPacks_93 : decode cX7_byPacks 93 = .ok (.istore_n 3, 1) := by decide +kernel
theorem dX7_byPacks_94 : decode cX7_byPacks 94 = .ok (.iinc 5 1, 3) := by decide +kernel
theorem dX7_byPacks_97 : decode cX7_byPacks 97 = .ok (.goto (-64), 3) := by decide +kernel
theorem dX7_byPacks_100 : decode cX7_byPacks 100 = .ok (.iload_n 2, 1) := by decide +kernel
theorem dX7_byPacks_101 : decode cX7_byPacks 101 = .ok (.ireturn, 1) := by decide +kernel
set_option maxRecDepth 20000 in
theorem ggX7_score_X7_isPlayer : GoodIn wsX7_score wsX7_isPlayer := goodIn_r _ [5, 6, 7, 4, 8] (by decide +kernel) (by decide +kernel)
set_option maxRecDepth 20000 in
theorem gX7_score_X7_isPlayer : GoodIn wsX7_score (va_wsS RX7 180 yX7_isPlayer wsX7_isPlayer) := goodIn_app (goodIn_of _ (by decide +kernel)) ggX7_score_X7_isPlayer
set_option maxRecDepth 20000 in
theorem ggX7_score_X7_isFine : GoodIn wsX7_score wsX7_isFine := goodIn_r _ [12, 13, 14, 15, 16, 17, 18, 19, 20, 21, 22, 23, 24, 25, 26, 27, 28, 29, 30, 31, 32, 33, 34, 35, 36, 37, 38, 39, 40, 41, 42] (by decide +kernel) (by decide +kernel)
set_option maxRecDepth 20000 in
theorem gX7_score_X7_isFine : GoodIn wsX7_score (wsV RX7 66 RX7 yX7_isFine wsX7_isFine) := goodIn_app (goodIn_of _ (by decide +kernel)) ggX7_score_X7_isFine
theorem dX7_score_0 : decode cX7_score 0 = .ok (.aload_n 0, 1) := by decide +kernel
theorem dX7_score_1 : decode cX7_score 1 = .ok (.iload_n 1, 1) := by decide +kernel
theorem dX7_score_2 : decode cX7_score 2 = .ok (.invokestatic 180, 3) := by decide +kernel
theorem dX7_score_5 : decode cX7_score 5 = .ok (.ifCond .eq 7, 3) := by decide +kernel
theorem dX7_score_8 : decode cX7_score 8 = .ok (.iconst 0, 1) := by decide +kernel
theorem dX7_score_9 : decode cX7_score 9 = .ok (.goto 4, 3) := by decide +kernel
theorem dX7_score_12 : decode cX7_score 12 = .ok (.iconst 1, 1) := by decide +kernel
theorem dX7_score_13 : decode cX7_score 13 = .ok (.invokevirtual 66, 3) := by decide +kernel
theorem dX7_score_16 : decode cX7_score 16 = .ok (.ifCond .eq 12, 3) := by decide +kernel
theorem dX7_score_19 : decode cX7_score 19 = .ok (.aload_n 0, 1) := by decide +kernel
theorem dX7_score_20 : decode cX7_score 20 = .ok (.getfield 52, 3) := by decide +kernel
theorem dX7_score_23 : decode cX7_score 23 = .ok (.iload_n 1, 1) := by decide +kernel
theorem dX7_score_24 : decode cX7_score 24 = .ok (.iaload, 1) := by decide +kernel
theorem dX7_score_25 : decode cX7_score 25 = .ok (.goto 4, 3) := by decide +kernel
theorem dX7_score_28 : decode cX7_score 28 = .ok (.iconst 0, 1) := by decide +kernel
theorem dX7_score_29 : decode cX7_score 29 = .ok (.ireturn, 1) := by decide +kernel
set_option maxRecDepth 20000 in
theorem ggX7_radli_X7_isPlayer : GoodIn wsX7_radli wsX7_isPlayer := goodIn_r _ [5, 6, 7, 4, 8] (by decide +kernel) (by decide +kernel)
set_option maxRecDepth 20000 in
theorem gX7_radli_X7_isPlayer : GoodIn wsX7_radli (va_wsS RX7 180 yX7_isPlayer wsX7_isPlayer) := goodIn_app (goodIn_of _ (by decide +kernel)) ggX7_radli_X7_isPlayer
set_option maxRecDepth 20000 in
theorem ggX7_radli_X7_isFine : GoodIn wsX7_radli wsX7_isFine := goodIn_r _ [12, 13, 14, 15, 16, 17, 18, 19, 20, 21, 22, 23, 24, 25, 26, 27, 28, 29, 30, 31, 32, 33, 34, 35, 36, 37, 38, 39, 40, 41, 42] (by decide +kernel) (by decide +kernel)
set_option maxRecDepth 20000 in
theorem gX7_radli_X7_isFine : GoodIn wsX7_radli (wsV RX7 66 RX7 yX7_isFine wsX7_isFine) := goodIn_app (goodIn_of _ (by decide +kernel)) ggX7_radli_X7_isFine
theorem dX7_radli_0 : decode cX7_radli 0 = .ok (.aload_n 0, 1) := by decide +kernel
theorem dX7_radli_1 : decode cX7_radli 1 = .ok (.iload_n 1, 1) := by decide +kernel
theorem dX7_radli_2 : decode cX7_radli 2 = .ok (.invokestatic 180, 3) := by decide +kernel
theorem dX7_radli_5 : decode cX7_radli 5 = .ok (.ifCond .eq 7, 3) := by decide +kernel
theorem dX7_radli_8 : decode cX7_radli 8 = .ok (.iconst 0, 1) := by decide +kernel
theorem dX7_radli_9 : decode cX7_radli 9 = .ok (.goto 4, 3) := by decide +kernel
theorem dX7_radli_12 : decode cX7_radli 12 = .ok (.iconst 1, 1) := by decide +kernel
theorem dX7_radli_13 : decode cX7_radli 13 = .ok (.invokevirtual 66, 3) := by decide +kernel
theorem dX7_radli_16 : decode cX7_radli 16 = .ok (.ifCond .eq 12, 3) := by decide +kernel
theorem dX7_radli_19 : decode cX7_radli 19 = .ok (.aload_n 0, 1) := by decide +kernel
theorem dX7_radli_20 : decode cX7_radli 20 = .ok (.getfield 55, 3) := by decide +kernel
theorem dX7_radli_23 : decode cX7_radli 23 = .ok (.iload_n 1, 1) := by decide +kernel
theorem dX7_radli_24 : decode cX7_radli 24 = .ok (.iaload, 1) := by decide +kernel
theorem dX7_radli_25 : decode cX7_radli 25 = .ok (.goto 4, 3) := by decide +kernel
theorem dX7_radli_28 : decode cX7_radli 28 = .ok (.iconst 0, 1) := by decide +kernel
theorem dX7_radli_29 : decode cX7_radli 29 = .ok (.ireturn, 1) := by decide +kernel
theorem dX7_result_0 : decode cX7_result 0 = .ok (.aload_n 0, 1) := by decide +kernel
theorem dX7_result_1 : decode cX7_result 1 = .ok (.iconst 0, 1) := by decide +kernel
theorem dX7_result_2 : decode cX7_result 2 = .ok (.putfield 58, 3) := by decide +kernel
theorem dX7_result_5 : decode cX7_result 5 = .ok (.aload_n 0, 1) := by decide +kernel
theorem dX7_result_6 : decode cX7_result 6 = .ok (.getfield 161, 3) := by decide +kernel
theorem dX7_result_9 : decode cX7_result 9 = .ok (.ireturn, 1) := by decide +kernel
set_option maxRecDepth 20000 in
theorem ggX7_knows_X7_isPlayer : GoodIn wsX7_knows wsX7_isPlayer := goodIn_r _ [9, 10, 11, 8, 12] (by decide +kernel) (by decide +kernel)
set_option maxRecDepth 20000 in
theorem gX7_knows_X7_isPlayer : GoodIn wsX7_knows (va_wsS RX7 180 yX7_isPlayer wsX7_isPlayer) := goodIn_app (goodIn_of _ (by decide +kernel)) ggX7_knows_X7_isPlayer
set_option maxRecDepth 20000 in
theorem ggX7_knows_X7_isFine : GoodIn wsX7_knows wsX7_isFine := goodIn_r _ [16, 17, 23, 24, 25, 26, 27, 28, 29, 30, 31, 32, 33, 34, 35, 36, 37, 38, 39, 40, 41, 42, 43, 44, 45, 46, 47, 48, 49, 50, 51] (by decide +kernel) (by decide +kernel)
set_option maxRecDepth 20000 in
theorem gX7_knows_X7_isFine : GoodIn wsX7_knows (wsV RX7 66 RX7 yX7_isFine wsX7_isFine) := goodIn_app (goodIn_of _ (by decide +kernel)) ggX7_knows_X7_isFine
set_option maxRecDepth 20000 in
theorem ggX7_knows_X7_sideOf : GoodIn wsX7_knows wsX7_sideOf := goodIn_r _ [21, 1, 22, 23, 24, 25, 26, 27, 28, 29, 30, 31, 32, 33, 34, 35, 36, 37, 38, 39, 40, 41, 42, 43, 44, 45, 46, 47, 48, 49, 50, 51] (by decide +kernel) (by decide +kernel)
set_option maxRecDepth 20000 in
theorem gX7_knows_X7_sideOf : GoodIn wsX7_knows (wsV RX7 143 RX7 yX7_sideOf wsX7_sideOf) := goodIn_app (goodIn_of _ (by decide +kernel)) ggX7_knows_X7_sideOf
theorem dX7_knows_0 : decode cX7_knows 0 = .ok (.aload_n 0, 1) := by decide +kernel
theorem dX7_knows_1 : decode cX7_knows 1 = .ok (.iload_n 1, 1) := by decide +kernel
theorem dX7_knows_2 : decode cX7_knows 2 = .ok (.invokestatic 180, 3) := by decide +kernel
theorem dX7_knows_5 : decode cX7_knows 5 = .ok (.ifCond .eq 14, 3) := by decide +kernel
theorem dX7_knows_8 : decode cX7_knows 8 = .ok (.iload_n 2, 1) := by decide +kernel
theorem dX7_knows_9 : decode cX7_knows 9 = .ok (.invokestatic 180, 3) := by decide +kernel
theorem dX7_knows_12 : decode cX7_knows 12 = .ok (.ifCond .eq 7, 3) := by decide +kernel
theorem dX7_knows_15 : decode cX7_knows 15 = .ok (.iconst 0, 1) := by decide +kernel
theorem dX7_knows_16 : decode cX7_knows 16 = .ok (.goto 4, 3) := by decide +kernel
theorem dX7_knows_19 : decode cX7_knows 19 = .ok (.iconst 1, 1) := by decide +kernel
theorem dX7_knows_20 : decode cX7_knows 20 = .ok (.invokevirtual 66, 3) := by decide +kernel
theorem dX7_knows_23 : decode cX7_knows 23 = .ok (.ifCond .ne 5, 3) := by decide +kernel
theorem dX7_knows_26 : decode cX7_knows 26 = .ok (.iconst 0, 1) := by decide +kernel
theorem dX7_knows_27 : decode cX7_knows 27 = .ok (.ireturn, 1) := by decide +kernel
theorem dX7_knows_28 : decode cX7_knows 28 = .ok (.aload_n 0, 1) := by decide +kernel
theorem dX7_knows_29 : decode cX7_knows 29 = .ok (.getfield 31, 3) := by decide +kernel
theorem dX7_knows_32 : decode cX7_knows 32 = .ok (.iconst (-1), 1) := by decide +kernel
theorem dX7_knows_33 : decode cX7_knows 33 = .ok (.if_icmp .eq 11, 3) := by decide +kernel
theorem dX7_knows_36 : decode cX7_knows 36 = .ok (.aload_n 0, 1) := by decide +kernel
theorem dX7_knows_37 : decode cX7_knows 37 = .ok (.getfield 9, 3) := by decide +kernel
theorem dX7_knows_40 : decode cX7_knows 40 = .ok (.iconst 2, 1) := by decide +kernel
theorem dX7_knows_41 : decode cX7_knows 41 = .ok (.if_icmp .ne 5, 3) := by decide +kernel
theorem dX7_knows_44 : decode cX7_knows 44 = .ok (.iconst (-1), 1) := by decide +kernel
theorem dX7_knows_45 : decode cX7_knows 45 = .ok (.ireturn, 1) := by decide +kernel
theorem dX7_knows_46 : decode cX7_knows 46 = .ok (.aload_n 0, 1) := by decide +kernel
theorem dX7_knows_47 : decode cX7_knows 47 = .ok (.getfield 84, 3) := by decide +kernel
theorem dX7_knows_50 : decode cX7_knows 50 = .ok (.iconst 3, 1) := by decide +kernel
theorem dX7_knows_51 : decode cX7_knows 51 = .ok (.if_icmp .gt 26, 3) := by decide +kernel
theorem dX7_knows_54 : decode cX7_knows 54 = .ok (.aload_n 0, 1) := by decide +kernel
theorem dX7_knows_55 : decode cX7_knows 55 = .ok (.getfield 40, 3) := by decide +kernel
theorem dX7_knows_58 : decode cX7_knows 58 = .ok (.iconst (-1), 1) := by decide +kernel
theorem dX7_knows_59 : decode cX7_knows 59 = .ok (.if_icmp .eq 18, 3) := by decide +kernel
theorem dX7_knows_62 : decode cX7_knows 62 = .ok (.aload_n 0, 1) := by decide +kernel
theorem dX7_knows_63 : decode cX7_knows 63 = .ok (.getfield 87, 3) := by decide +kernel
theorem dX7_knows_66 : decode cX7_knows 66 = .ok (.ifCond .ne 11, 3) := by decide +kernel
theorem dX7_knows_69 : decode cX7_knows 69 = .ok (.iload_n 1, 1) := by decide +kernel
theorem dX7_knows_70 : decode cX7_knows 70 = .ok (.aload_n 0, 1) := by decide +kernel
theorem dX7_knows_71 : decode cX7_knows 71 = .ok (.getfield 40, 3) := by decide +kernel
theorem dX7_knows_74 : decode cX7_knows 74 = .ok (.if_icmp .ne 7, 3) := by decide +kernel
theorem dX7_knows_77 : decode cX7_knows 77 = .ok (.iconst 1, 1) := by decide +kernel
theorem dX7_knows_78 : decode cX7_knows 78 = .ok (.goto 4, 3) := by decide +kernel
theorem dX7_knows_81 : decode cX7_knows 81 = .ok (.iconst 0, 1) := by decide +kernel
theorem dX7_knows_82 : decode cX7_knows 82 = .ok (.istore_n 3, 1) := by decide +kernel
theorem dX7_knows_83 : decode cX7_knows 83 = .ok (.iload_n 3, 1) := by decide +kernel
theorem dX7_knows_84 : decode cX7_knows 84 = .ok (.ifCond .ne 16, 3) := by decide +kernel
theorem dX7_knows_87 : decode cX7_knows 87 = .ok (.iload_n 2, 1) := by decide +kernel
theorem dX7_knows_88 : decode cX7_knows 88 = .ok (.aload_n 0, 1) := by decide +kernel
theorem dX7_knows_89 : decode cX7_knows 89 = .ok (.getfield 31, 3) := by decide +kernel
theorem dX7_knows_92 : decode cX7_knows 92 = .ok (.if_icmp .eq 8, 3) := by decide +kernel
theorem dX7_knows_95 : decode cX7_knows 95 = .ok (.iload_n 2, 1) := by decide +kernel
theorem dX7_knows_96 : decode cX7_knows 96 = .ok (.iload_n 1, 1) := by decide +kernel
theorem dX7_knows_97 : decode cX7_knows 97 = .ok (.if_icmp .ne 11, 3) := by decide +kernel
theorem dX7_knows_100 : decode cX7_knows 100 = .ok (.aload_n 0, 1) := by decide +kernel
theorem dX7_knows_101 : decode cX7_knows 101 = .ok (.iload_n 2, 1) := by decide +kernel
theorem dX7_knows_102 : decode cX7_knows 102 = .ok (.invokevirtual 143, 3) := by decide +kernel
theorem dX7_knows_105 : decode cX7_knows 105 = .ok (.goto 4, 3) := by decide +kernel
theorem dX7_knows_108 : decode cX7_knows 108 = .ok (.iconst (-1), 1) := by decide +kernel
theorem dX7_knows_109 : decode cX7_knows 109 = .ok (.ireturn, 1) := by decide +kernel
