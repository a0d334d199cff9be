set_option maxRecDepth 20000 in
theorem ggL_bids_X6_bid : GoodIn wsL_bids wsX6_bid := goodIn_ca (goodIn_ca (goodIn_r _ [6, 7, 8, 9, 10, 11, 12, 13, 14, 15, 16, 17, 18, 19, 20, 21, 22, 23, 24, 25, 26, 27, 28, 29, 30, 31, 32, 33, 34, 35, 5, 36, 37, 38, 39, 40, 41, 42, 43, 44, 45, 46, 47, 48, 49, 50, 51, 52, 53, 54, 55, 56, 57, 58, 59, 60, 61, 62, 63, 64, 65, 66, 67, 68, 69, 70, 71, 72, 73, 74, 75, 76, 77, 78, 79, 80, 81, 82, 83, 84, 85, 86, 87, 88, 89, 90, 91] (by decide +kernel) (by decide +kernel)) (goodIn_sub (fun _ h => List.mem_cons_of_mem _ (List.mem_append_left _ (List.mem_append_right _ h))) (by decide +kernel))) (goodIn_sub (fun _ h => List.mem_cons_of_mem _ (List.mem_append_right _ h)) (by decide +kernel))
set_option maxRecDepth 20000 in
theorem gL_bids_X6_bid : GoodIn wsL_bids (wsV RL 7 RX6 yX6_bid wsX6_bid) := goodIn_app (goodIn_of _ (by decide +kernel)) ggL_bids_X6_bid
theorem dL_bids_0 : decode cL_bids 0 = .ok (.aload_n 0, 1) := by decide +kernel
theorem dL_bids_1 : decode cL_bids 1 = .ok (.iload_n 1, 1) := by decide +kernel
theorem dL_bids_2 : decode cL_bids 2 = .ok (.invokevirtual 7, 3) := by decide +kernel
theorem dL_bids_5 : decode cL_bids 5 = .ok (.ireturn, 1) := by decide +kernel
theorem dL_bids_6 : decode cL_bids 6 = .ok (.astore_n 2, 1) := by decide +kernel
theorem dL_bids_7 : decode cL_bids 7 = .ok (.bipush (-3), 2) := by decide +kernel
theorem dL_bids_9 : decode cL_bids 9 = .ok (.ireturn, 1) := by decide +kernel
set_option maxRecDepth 20000 in
theorem ggL_lays_X6_discard : GoodIn wsL_lays wsX6_discard := goodIn_ca (goodIn_ca (goodIn_r _ [6, 7, 8, 9, 10, 11, 12, 13, 14, 15, 16, 17, 18, 5, 19, 20, 21, 22, 23, 24, 25, 26, 27, 28, 29, 30, 31, 32, 33, 34, 35, 36, 37, 38, 39, 40, 41, 42, 43, 44, 45, 46, 47, 48, 49, 50, 51, 52, 53, 54, 55, 56, 57, 58, 59, 60, 61, 62, 63, 64, 65, 66, 67, 68, 69, 70, 71] (by decide +kernel) (by decide +kernel)) (goodIn_sub (fun _ h => List.mem_cons_of_mem _ (List.mem_append_left _ (List.mem_append_right _ h))) (by decide +kernel))) (goodIn_sub (fun _ h => List.mem_cons_of_mem _ (List.mem_append_right _ h)) (by decide +kernel))
set_option maxRecDepth 20000 in
theorem gL_lays_X6_discard : GoodIn wsL_lays (wsV RL 15 RX6 yX6_discard wsX6_discard) := goodIn_app (goodIn_of _ (by decide +kernel)) ggL_lays_X6_discard
theorem dL_lays_0 : decode cL_lays 0 = .ok (.aload_n 0, 1) := by decide +kernel
theorem dL_lays_1 : decode cL_lays 1 = .ok (.iload_n 1, 1) := by decide +kernel
theorem dL_lays_2 : decode cL_lays 2 = .ok (.invokevirtual 15, 3) := by decide +kernel
theorem dL_lays_5 : decode cL_lays 5 = .ok (.ireturn, 1) := by decide +kernel
theorem dL_lays_6 : decode cL_lays 6 = .ok (.astore_n 2, 1) := by decide +kernel
theorem dL_lays_7 : decode cL_lays 7 = .ok (.bipush (-3), 2) := by decide +kernel
theorem dL_lays_9 : decode cL_lays 9 = .ok (.ireturn, 1) := by decide +kernel
set_option maxRecDepth 20000 in
theorem ggL_announces_X6_announce : GoodIn wsL_announces wsX6_announce := goodIn_ca (goodIn_ca (goodIn_r _ [6, 7, 8, 9, 10, 11, 12, 13, 14, 15, 16, 17, 18, 5, 19, 20, 21, 22, 23, 24, 25, 26, 27, 28, 29, 30, 31, 32, 33, 34, 35, 36, 37, 38, 39, 40, 41, 42, 43, 44, 45, 46, 47, 48, 49, 50] (by decide +kernel) (by decide +kernel)) (goodIn_sub (fun _ h => List.mem_cons_of_mem _ (List.mem_append_left _ (List.mem_append_right _ h))) (by decide +kernel))) (goodIn_sub (fun _ h => List.mem_cons_of_mem _ (List.mem_append_right _ h)) (by decide +kernel))
set_option maxRecDepth 20000 in
theorem gL_announces_X6_announce : GoodIn wsL_announces (wsV RL 18 RX6 yX6_announce wsX6_announce) := goodIn_app (goodIn_of _ (by decide +kernel)) ggL_announces_X6_announce
theorem dL_announces_0 : decode cL_announces 0 = .ok (.aload_n 0, 1) := by decide +kernel
theorem dL_announces_1 : decode cL_announces 1 = .ok (.iload_n 1, 1) := by decide +kernel
theorem dL_announces_2 : decode cL_announces 2 = .ok (.invokevirtual 18, 3) := by decide +kernel
theorem dL_announces_5 : decode cL_announces 5 = .ok (.ireturn, 1) := by decide +kernel
theorem dL_announces_6 : decode cL_announces 6 = .ok (.astore_n 2, 1) := by decide +kernel
theorem dL_announces_7 : decode cL_announces 7 = .ok (.bipush (-3), 2) := by decide +kernel
theorem dL_announces_9 : decode cL_announces 9 = .ok (.ireturn, 1) := by decide +kernel
set_option maxRecDepth 20000 in
theorem ggL_plays_X6_play : GoodIn wsL_plays wsX6_play := goodIn_ca (goodIn_ca (goodIn_r _ [6, 7, 8, 9, 10, 11, 12, 5, 13, 14, 15, 16, 17, 18, 19, 20, 21, 22, 23, 24, 25, 26, 27, 28, 29, 30, 31, 32, 33, 34, 35, 36, 37, 38, 39, 40, 41, 42, 43, 44, 45, 46, 47, 48, 49, 50, 51, 52, 53, 54, 55, 56, 57, 58, 59, 60, 61, 62, 63, 64, 65, 66, 67, 68, 69, 70, 71, 72, 73, 74, 75, 76, 77, 78, 79, 80, 81, 82, 83, 84, 85, 86, 87, 88, 89, 90, 91, 92, 93, 94, 95, 96, 97, 98, 99, 100, 101, 102, 103, 104, 105, 106, 107, 108, 109, 110, 111, 112, 113, 114, 115, 116, 117, 118, 119, 120, 121, 122, 123, 124, 125, 126, 127, 128, 129, 130, 131, 132, 133, 134, 135, 136, 137, 138, 139, 140, 141, 142, 143, 144, 145, 146, 147, 148, 149, 150, 151, 152, 153, 154, 155, 156, 157, 158, 159, 160, 161, 162, 163, 164, 165, 166, 167, 168, 169, 170, 171, 172, 173, 174, 175, 176, 177, 178, 179, 180, 181, 182, 183, 184, 185, 186, 187, 188, 189, 190, 191, 192, 193, 194, 195, 196, 197, 198, 199, 200, 201, 202, 203, 204, 205, 206, 207] (by decide +kernel) (by decide +kernel)) (goodIn_sub (fun _ h => List.mem_cons_of_mem _ (List.mem_append_left _ (List.mem_append_right _ h))) (by decide +kernel))) (goodIn_sub (fun _ h => List.mem_cons_of_mem _ (List.mem_append_right _ h)) (by decide +kernel))
set_option maxRecDepth 20000 in
theorem gL_plays_X6_play : GoodIn wsL_plays (wsV RL 21 RX6 yX6_play wsX6_play) := goodIn_app (goodIn_of _ (by decide +kernel)) ggL_plays_X6_play
theorem dL_plays_0 : decode cL_plays 0 = .ok (.aload_n 0, 1) := by decide +kernel
theorem dL_plays_1 : decode cL_plays 1 = .ok (.iload_n 1, 1) := by decide +kernel
theorem dL_plays_2 : decode cL_plays 2 = .ok (.invokevirtual 21, 3) := by decide +kernel
theorem dL_plays_5 : decode cL_plays 5 = .ok (.ireturn, 1) := by decide +kernel
theorem dL_plays_6 : decode cL_plays 6 = .ok (.astore_n 2, 1) := by decide +kernel
theorem dL_plays_7 : decode cL_plays 7 = .ok (.bipush (-9), 2) := by decide +kernel
theorem dL_plays_9 : decode cL_plays 9 = .ok (.ireturn, 1) := by decide +kernel
theorem dL_bits_0 : decode cL_bits 0 = .ok (.iconst 0, 1) := by decide +kernel
theorem dL_bits_1 : decode cL_bits 1 = .ok (.istore_n 2, 1) := by decide +kernel
theorem dL_bits_2 : decode cL_bits 2 = .ok (.iconst 0, 1) := by decide +kernel
theorem dL_bits_3 : decode cL_bits 3 = .ok (.istore_n 3, 1) := by decide +kernel
theorem dL_bits_4 : decode cL_bits 4 = .ok (.iload_n 3, 1) := by decide +kernel
theorem dL_bits_5 : decode cL_bits 5 = .ok (.bipush 54, 2) := by decide +kernel
theorem dL_bits_7 : decode cL_bits 7 = .ok (.if_icmp .ge 27, 3) := by decide +kernel
theorem dL_bits_10 : decode cL_bits 10 = .ok (.iload_n 2, 1) := by decide +kernel
theorem dL_bits_11 : decode cL_bits 11 = .ok (.lload_n 0, 1) := by decide +kernel
theorem dL_bits_12 : decode cL_bits 12 = .ok (.iload_n 3, 1) := by decide +kernel
theorem dL_bits_13 : decode cL_bits 13 = .ok (.lshr, 1) := by decide +kernel
theorem dL_bits_14 : decode cL_bits 14 = .ok (.lconst 1, 1) := by decide +kernel
theorem dL_bits_15 : decode cL_bits 15 = .ok (.land, 1) := by decide +kernel
theorem dL_bits_16 : decode cL_bits 16 = .ok (.lconst 1, 1) := by decide +kernel
theorem dL_bits_17 : decode cL_bits 17 = .ok (.lcmp, 1) := by decide +kernel
theorem dL_bits_18 : decode cL_bits 18 = .ok (.ifCond .ne 7, 3) := by decide +kernel
theorem dL_bits_21 : decode cL_bits 21 = .ok (.iconst 1, 1) := by decide +kernel
theorem dL_bits_22 : decode cL_bits 22 = .ok (.goto 4, 3) := by decide +kernel
theorem dL_bits_25 : decode cL_bits 25 = .ok (.iconst 0, 1) := by decide +kernel
theorem dL_bits_26 : decode cL_bits 26 = .ok (.iadd, 1) := by decide +kernel
theorem dL_bits_27 : decode cL_bits 27 = .ok (.istore_n 2, 1) := by decide +kernel
theorem dL_bits_28 : decode cL_bits 28 = .ok (.iinc 3 1, 3) := by decide +kernel
theorem dL_bits_31 : decode cL_bits 31 = .ok (.goto (-27), 3) := by decide +kernel
theorem dL_bits_34 : decode cL_bits 34 = .ok (.iload_n 2, 1) := by decide +kernel
theorem dL_bits_35 : decode cL_bits 35 = .ok (.ireturn, 1) := by decide +kernel
theorem dL_has_0 : decode cL_has 0 = .ok (.lload_n 0, 1) := by decide +kernel
theorem dL_has_1 : decode cL_has 1 = .ok (.iload_n 2, 1) := by decide +kernel
theorem dL_has_2 : decode cL_has 2 = .ok (.lshr, 1) := by decide +kernel
theorem dL_has_3 : decode cL_has 3 = .ok (.lconst 1, 1) := by decide +kernel
theorem dL_has_4 : decode cL_has 4 = .ok (.land, 1) := by decide +kernel
theorem dL_has_5 : decode cL_has 5 = .ok (.lconst 1, 1) := by decide +kernel
theorem dL_has_6 : decode cL_has 6 = .ok (.lcmp, 1) := by decide +kernel
theorem dL_has_7 : decode cL_has 7 = .ok (.ifCond .ne 7, 3) := by decide +kernel
theorem dL_has_10 : decode cL_has 10 = .ok (.iconst 1, 1) := by decide +kernel
theorem dL_has_11 : decode cL_has 11 = .ok (.goto 4, 3) := by decide +kernel
theorem dL_has_14 : decode cL_has 14 = .ok (.iconst 0, 1) := by decide +kernel
theorem dL_has_15 : decode cL_has 15 = .ok (.ireturn, 1) := by decide +kernel
theorem dL_suit_0 : decode cL_suit 0 = .ok (.iload_n 0, 1) := by decide +kernel
theorem dL_suit_1 : decode cL_suit 1 = .ok (.bipush 31, 2) := by decide +kernel
theorem dL_suit_3 : decode cL_suit 3 = .ok (.if_icmp .le 7, 3) := by decide +kernel
theorem dL_suit_6 : decode cL_suit 6 = .ok (.iconst 4, 1) := by decide +kernel
theorem dL_suit_7 : decode cL_suit 7 = .ok (.goto 7, 3) := by decide +kernel
theorem dL_suit_10 : decode cL_suit 10 = .ok (.iload_n 0, 1) := by decide +kernel
theorem dL_suit_11 : decode cL_suit 11 = .ok (.bipush 8, 2) := by decide +kernel
theorem dL_suit_13 : decode cL_suit 13 = .ok (.idiv, 1) := by decide +kernel
theorem dL_suit_14 : decode cL_suit 14 = .ok (.ireturn, 1) := by decide +kernel
set_option maxRecDepth 20000 in
theorem ggL_areHands_X6_hand : GoodIn wsL_areHands wsX6_hand := goodIn_ca (goodIn_r _ [5, 6, 7, 8, 9, 10, 4, 11, 12, 13, 14, 15, 16, 17, 93, 94, 95, 96, 97, 98, 99, 100, 101, 102, 103, 104, 105, 106, 107, 108, 109, 110, 111] (by decide +kernel) (by decide +kernel)) (goodIn_sub (fun _ h => List.mem_cons_of_mem _ (List.mem_append_right _ h)) (by decide +kernel))
set_option maxRecDepth 20000 in
theorem gL_areHands_X6_hand : GoodIn wsL_areHands (wsV RL 24 RX6 yX6_hand wsX6_hand) := goodIn_app (goodIn_of _ (by decide +kernel)) ggL_areHands_X6_hand
set_option maxRecDepth 20000 in
theorem ggL_areHands_L_bits : GoodIn wsL_areHands wsL_bits := goodIn_r _ [21] (by decide +kernel) (by decide +kernel)
set_option maxRecDepth 20000 in
theorem gL_areHands_L_bits : GoodIn wsL_areHands (va_wsS RL 28 yL_bits wsL_bits) := goodIn_app (goodIn_of _ (by decide +kernel)) ggL_areHands_L_bits
set_option maxRecDepth 20000 in
theorem ggL_areHands_X6_phase : GoodIn wsL_areHands wsX6_phase := goodIn_r _ [25, 26, 93, 94, 95, 96, 97, 98, 99, 100, 101, 102, 103, 104, 105, 106, 107, 108, 109, 110] (by decide +kernel) (by decide +kernel)
set_option maxRecDepth 20000 in
theorem gL_areHands_X6_phase : GoodIn wsL_areHands (wsV RL 34 RX6 yX6_phase wsX6_phase) := goodIn_app (goodIn_of _ (by decide +kernel)) ggL_areHands_X6_phase
set_option maxRecDepth 20000 in
theorem ggL_areHands_X6_canPlay : GoodIn wsL_areHands wsX6_canPlay := goodIn_ca (goodIn_r _ [30, 6, 7, 31, 32, 4, 33, 34, 35, 36, 37, 26, 8, 38, 39, 12, 13, 14, 15, 16, 17, 40, 41, 42, 43, 44, 45, 46, 47, 48, 49, 50, 51, 52, 53, 54, 55, 56, 57, 58, 59, 60, 61, 62, 63, 64, 65, 93, 94, 95, 96, 97, 98, 99, 100, 101, 102, 103, 104, 105, 106, 107, 108, 109, 110, 111, 112, 113, 114, 115] (by decide +kernel) (by decide +kernel)) (goodIn_sub (fun _ h => List.mem_cons_of_mem _ (List.mem_append_right _ h)) (by decide +kernel))
set_option maxRecDepth 20000 in
theorem gL_areHands_X6_canPlay : GoodIn wsL_areHands (wsV RL 38 RX6 yX6_canPlay wsX6_canPlay) := goodIn_app (goodIn_of _ (by decide +kernel)) ggL_areHands_X6_canPlay
set_option maxRecDepth 20000 in
theorem ggL_areHands_X6_inTrick : GoodIn wsL_areHands wsX6_inTrick := goodIn_r _ [69, 39, 93, 94, 95, 96, 97, 98, 99, 100, 101, 102, 103, 104, 105, 106, 107, 108, 109, 110, 112, 113, 114] (by decide +kernel) (by decide +kernel)
set_option maxRecDepth 20000 in
theorem gL_areHands_X6_inTrick : GoodIn wsL_areHands (wsV RL 42 RX6 yX6_inTrick wsX6_inTrick) := goodIn_app (goodIn_of _ (by decide +kernel)) ggL_areHands_X6_inTrick
set_option maxRecDepth 20000 in
theorem ggL_areHands_X6_turn : GoodIn wsL_areHands wsX6_turn := goodIn_r _ [73, 38, 93, 94, 95, 96, 97, 98, 99, 100, 101, 102, 103, 104, 105, 106, 107, 108, 109, 110] (by decide +kernel) (by decide +kernel)
set_option maxRecDepth 20000 in
theorem gL_areHands_X6_turn : GoodIn wsL_areHands (wsV RL 45 RX6 yX6_turn wsX6_turn) := goodIn_app (goodIn_of _ (by decide +kernel)) ggL_areHands_X6_turn
set_option maxRecDepth 20000 in
theorem ggL_areHands_X6_trickAt : GoodIn wsL_areHands wsX6_trickAt := goodIn_ca (goodIn_r _ [77, 6, 7, 39, 78, 79, 80, 43, 81, 46, 47, 48, 49, 50, 51, 52, 93, 94, 95, 96, 97, 98, 99, 100, 101, 102, 103, 104, 105, 106, 107, 108, 109, 110, 112, 113, 114, 115] (by decide +kernel) (by decide +kernel)) (goodIn_sub (fun _ h => List.mem_cons_of_mem _ (List.mem_append_right _ h)) (by decide +kernel))
set_option maxRecDepth 20000 in
theorem gL_areHands_X6_trickAt : GoodIn wsL_areHands (wsV RL 48 RX6 yX6_trickAt wsX6_trickAt) := goodIn_app (goodIn_of _ (by decide +kernel)) ggL_areHands_X6_trickAt
set_option maxRecDepth 20000 in
theorem ggL_areHands_L_suit : GoodIn wsL_areHands wsL_suit := goodIn_r _ [84] (by decide +kernel) (by decide +kernel)
set_option maxRecDepth 20000 in
theorem gL_areHands_L_suit : GoodIn wsL_areHands (va_wsS RL 51 yL_suit wsL_suit) := goodIn_app (goodIn_of _ (by decide +kernel)) ggL_areHands_L_suit
set_option maxRecDepth 20000 in
theorem ggL_areHands_L_has : GoodIn wsL_areHands wsL_has := goodIn_r _ [87] (by decide +kernel) (by decide +kernel)
set_option maxRecDepth 20000 in
theorem gL_areHands_L_has : GoodIn wsL_areHands (va_wsS RL 54 yL_has wsL_has) := goodIn_app (goodIn_of _ (by decide +kernel)) ggL_areHands_L_has
set_option maxRecDepth 20000 in
theorem ggL_areHands_X6_tricks : GoodIn wsL_areHands wsX6_tricks := goodIn_r _ [91, 92, 93, 94, 95, 96, 97, 98, 99, 100, 101, 102, 103, 104, 105, 106, 107, 108, 109, 110] (by decide +kernel) (by decide +kernel)
set_option maxRecDepth 20000 in
theorem gL_areHands_X6_tricks : GoodIn wsL_areHands (wsV RL 58 RX6 yX6_tricks wsX6_tricks) := goodIn_app (goodIn_of _ (by decide +kernel)) ggL_areHands_X6_tricks
theorem dL_areHands_0 : decode cL_areHands 0 = .ok (.lconst 0, 1) := by decide +kernel
theorem dL_areHands_1 : decode cL_areHands 1 = .ok (.lstore_n 1, 1) := by decide +kernel
theorem dL_areHands_2 : decode cL_areHands 2 = .ok (.iconst 0, 1) := by decide +kernel
theorem dL_areHands_3 : decode cL_areHands 3 = .ok (.istore_n 3, 1) := by decide +kernel
theorem dL_areHands_4 : decode cL_areHands 4 = .ok (.iconst 0, 1) := by decide +kernel
theorem dL_areHands_5 : decode cL_areHands 5 = .ok (.istore 4, 2) := by decide +kernel
theorem dL_areHands_7 : decode cL_areHands 7 = .ok (.iload 4, 2) := by decide +kernel
theorem dL_areHands_9 : decode cL_areHands 9 = .ok (.iconst 4, 1) := by decide +kernel
theorem dL_areHands_10 : decode cL_areHands 10 = .ok (.if_icmp .ge 30, 3) := by decide +kernel
theorem dL_areHands_13 : decode cL_areHands 13 = .ok (.lload_n 1, 1) := by decide +kernel
theorem dL_areHands_14 : decode cL_areHands 14 = .ok (.aload_n 0, 1) := by decide +kernel
theorem dL_areHands_15 : decode cL_areHands 15 = .ok (.iload 4, 2) := by decide +kernel
theorem dL_areHands_17 : decode cL_areHands 17 = .ok (.invokevirtual 24, 3) := by decide +kernel
theorem dL_areHands_20 : decode cL_areHands 20 = .ok (.lor, 1) := by decide +kernel
theorem dL_areHands_21 : decode cL_areHands 21 = .ok (.lstore_n 1, 1) := by decide +kernel
theorem dL_areHands_22 : decode cL_areHands 22 = .ok (.iload_n 3, 1) := by decide +kernel
theorem dL_areHands_23 : decode cL_areHands 23 = .ok (.aload_n 0, 1) := by decide +kernel
theorem dL_areHands_24 : decode cL_areHands 24 = .ok (.iload 4, 2) := by decide +kernel
theorem dL_areHands_26 : decode cL_areHands 26 = .ok (.invokevirtual 24, 3) := by decide +kernel
theorem dL_areHands_29 : decode cL_areHands 29 = .ok (.invokestatic 28, 3) := by decide +kernel
theorem dL_areHands_32 : decode cL_areHands 32 = .ok (.iadd, 1) := by decide +kernel
theorem dL_areHands_33 : decode cL_areHands 33 = .ok (.istore_n 3, 1) := by decide +kernel
theorem dL_areHands_34 : decode cL_areHands 34 = .ok (.iinc 4 1, 3) := by decide +kernel
theorem dL_areHands_37 : decode cL_areHands 37 = .ok (.goto (-30), 3) := by decide +kernel
theorem dL_areHands_40 : decode cL_areHands 40 = .ok (.lload_n 1, 1) := by decide +kernel
theorem dL_areHands_41 : decode cL_areHands 41 = .ok (.invokestatic 28, 3) := by decide +kernel
theorem dL_areHands_44 : decode cL_areHands 44 = .ok (.iload_n 3, 1) := by decide +kernel
theorem dL_areHands_45 : decode cL_areHands 45 = .ok (.if_icmp .ne 7, 3) := by decide +kernel
theorem dL_areHands_48 : decode cL_areHands 48 = .ok (.iconst 1, 1) := by decide +kernel
theorem dL_areHands_49 : decode cL_areHands 49 = .ok (.goto 4, 3) := by decide +kernel
theorem dL_areHands_52 : decode cL_areHands 52 = .ok (.iconst 0, 1) := by decide +kernel
theorem dL_areHands_53 : decode cL_areHands 53 = .ok (.istore 4, 2) := by decide +kernel
theorem dL_areHands_55 : decode cL_areHands 55 = .ok (.aload_n 0, 1) := by decide +kernel
theorem dL_areHands_56 : decode cL_areHands 56 = .ok (.invokevirtual 34, 3) := by decide +kernel
theorem dL_areHands_59 : decode cL_areHands 59 = .ok (.iconst 5, 1) := by decide +kernel
theorem dL_areHands_60 : decode cL_areHands 60 = .ok (.if_icmp .eq 58, 3) := by decide +kernel
theorem dL_areHands_63 : decode cL_areHands 63 = .ok (.iconst 0, 1) := by decide +kernel
theorem dL_areHands_64 : decode cL_areHands 64 = .ok (.istore 5, 2) := by decide +kernel
theorem dL_areHands_66 : decode cL_areHands 66 = .ok (.iload 5, 2) := by decide +kernel
theorem dL_areHands_68 : decode cL_areHands 68 = .ok (.bipush 54, 2) := by decide +kernel
theorem dL_areHands_70 : decode cL_areHands 70 = .ok (.if_icmp .ge 30, 3) := by decide +kernel
theorem dL_areHands_73 : decode cL_areHands 73 = .ok (.iload 4, 2) := by decide +kernel
theorem dL_areHands_75 : decode cL_areHands 75 = .ok (.ifCond .eq 16, 3) := by decide +kernel
theorem dL_areHands_78 : decode cL_areHands 78 = .ok (.aload_n 0, 1) := by decide +kernel
theorem dL_areHands_79 : decode cL_areHands 79 = .ok (.iload 5, 2) := by decide +kernel
theorem dL_areHands_81 : decode cL_areHands 81 = .ok (.invokevirtual 38, 3) := by decide +kernel
theorem dL_areHands_84 : decode cL_areHands 84 = .ok (.ifCond .ne 7, 3) := by decide +kernel
theorem dL_areHands_87 : decode cL_areHands 87 = .ok (.iconst 1, 1) := by decide +kernel
theorem dL_areHands_88 : decode cL_areHands 88 = .ok (.goto 4, 3) := by decide +kernel
theorem dL_areHands_91 : decode cL_areHands 91 = .ok (.iconst 0, 1) := by decide +kernel
theorem dL_areHands_92 : decode cL_areHands 92 = .ok (.istore 4, 2) := by decide +kernel
theorem dL_areHands_94 : decode cL_areHands 94 = .ok (.iinc 5 1, 3) := by decide +kernel
theorem dL_areHands_97 : decode cL_areHands 97 = .ok (.goto (-31), 3) := by decide +kernel
theorem dL_areHands_100 : decode cL_areHands 100 = .ok (.iload 4, 2) := by decide +kernel
theorem dL_areHands_102 : decode cL_areHands 102 = .ok (.ifCond .eq 14, 3) := by decide +kernel
theorem dL_areHands_105 : decode cL_areHands 105 = .ok (.aload_n 0, 1) := by decide +kernel
theorem dL_areHands_106 : decode cL_areHands 106 = .ok (.invokevirtual 42, 3) := by decide +kernel
theorem dL_areHands_109 : decode cL_areHands 109 = .ok (.ifCond .ne 7, 3) := by decide +kernel
theorem dL_areHands_112 : decode cL_areHands 112 = .ok (.iconst 1, 1) := by decide +kernel
theorem dL_areHands_113 : decode cL_areHands 113 = .ok (.goto 4, 3) := by decide +kernel
theorem dL_areHands_116 : decode cL_areHands 116 = .ok (.iconst 0, 1) := by decide +kernel
theorem dL_areHands_117 : decode cL_areHands 117 = .ok (.ireturn, 1) := by decide +kernel
theorem dL_areHands_118 : decode cL_areHands 118 = .ok (.aload_n 0, 1) := by decide +kernel
theorem dL_areHands_119 : decode cL_areHands 119 = .ok (.aload_n 0, 1) := by decide +kernel
theorem dL_areHands_120 : decode cL_areHands 120 = .ok (.invokevirtual 45, 3) := by decide +kernel
theorem dL_areHands_123 : decode cL_areHands 123 = .ok (.invokevirtual 24, 3) := by decide +kernel
theorem dL_areHands_126 : decode cL_areHands 126 = .ok (.lstore 5, 2) := by decide +kernel
theorem dL_areHands_128 : decode cL_areHands 128 = .ok (.aload_n 0, 1) := by decide +kernel
theorem dL_areHands_129 : decode cL_areHands 129 = .ok (.invokevirtual 42, 3) := by decide +kernel
theorem dL_areHands_132 : decode cL_areHands 132 = .ok (.ifCond .ne 7, 3) := by decide +kernel
theorem dL_areHands_135 : decode cL_areHands 135 = .ok (.iconst (-1), 1) := by decide +kernel
theorem dL_areHands_136 : decode cL_areHands 136 = .ok (.goto 11, 3) := by decide +kernel
theorem dL_areHands_139 : decode cL_areHands 139 = .ok (.aload_n 0, 1) := by decide +kernel
theorem dL_areHands_140 : decode cL_areHands 140 = .ok (.iconst 0, 1) := by decide +kernel
theorem dL_areHands_141 : decode cL_areHands 141 = .ok (.invokevirtual 48, 3) := by decide +kernel
theorem dL_areHands_144 : decode cL_areHands 144 = .ok (.invokestatic 51, 3) := by decide +kernel
theorem dL_areHands_147 : decode cL_areHands 147 = .ok (.istore 7, 2) := by decide +kernel
theorem dL_areHands_149 : decode cL_areHands 149 = .ok (.iconst 0, 1) := by decide +kernel
theorem dL_areHands_150 : decode cL_areHands 150 = .ok (.istore 8, 2) := by decide +kernel
theorem dL_areHands_152 : decode cL_areHands 152 = .ok (.iconst 0, 1) := by decide +kernel
theorem dL_areHands_153 : decode cL_areHands 153 = .ok (.istore 9, 2) := by decide +kernel
theorem dL_areHands_155 : decode cL_areHands 155 = .ok (.iconst 0, 1) := by decide +kernel
theorem dL_areHands_156 : decode cL_areHands 156 = .ok (.istore 10, 2) := by decide +kernel
theorem dL_areHands_158 : decode cL_areHands 158 = .ok (.iconst 0, 1) := by decide +kernel
theorem dL_areHands_159 : decode cL_areHands 159 = .ok (.istore 11, 2) := by decide +kernel
theorem dL_areHands_161 : decode cL_areHands 161 = .ok (.iload 11, 2) := by decide +kernel
theorem dL_areHands_163 : decode cL_areHands 163 = .ok (.bipush 54, 2) := by decide +kernel
theorem dL_areHands_165 : decode cL_areHands 165 = .ok (.if_icmp .ge 118, 3) := by decide +kernel
theorem dL_areHands_168 : decode cL_areHands 168 = .ok (.aload_n 0, 1) := by decide +kernel
theorem dL_areHands_169 : decode cL_areHands 169 = .ok (.iload 11, 2) := by decide +kernel
theorem dL_areHands_171 : decode cL_areHands 171 = .ok (.invokevirtual 38, 3) := by decide +kernel
theorem dL_areHands_174 : decode cL_areHands 174 = .ok (.istore 12, 2) := by decide +kernel
theorem dL_areHands_176 : decode cL_areHands 176 = .ok (.iload 8, 2) := by decide +kernel
theorem dL_areHands_178 : decode cL_areHands 178 = .ok (.iload 12, 2) := by decide +kernel
theorem dL_areHands_180 : decode cL_areHands 180 = .ok (.ifCond .eq 7, 3) := by decide +kernel
theorem dL_areHands_183 : decode cL_areHands 183 = .ok (.iconst 1, 1) := by decide +kernel
theorem dL_areHands_184 : decode cL_areHands 184 = .ok (.goto 4, 3) := by decide +kernel
theorem dL_areHands_187 : decode cL_areHands 187 = .ok (.iconst 0, 1) := by decide +kernel
theorem dL_areHands_188 : decode cL_areHands 188 = .ok (.iadd, 1) := by decide +kernel
theorem dL_areHands_189 : decode cL_areHands 189 = .ok (.istore 8, 2) := by decide +kernel
theorem dL_areHands_191 : decode cL_areHands 191 = .ok (.iload 4, 2) := by decide +kernel
theorem dL_areHands_193 : decode cL_areHands 193 = .ok (.ifCond .eq 22, 3) := by decide +kernel
theorem dL_areHands_196 : decode cL_areHands 196 = .ok (.iload 12, 2) := by decide +kernel
theorem dL_areHands_198 : decode cL_areHands 198 = .ok (.ifCond .eq 13, 3) := by decide +kernel
theorem dL_areHands_201 : decode cL_areHands 201 = .ok (.lload 5, 2) := by decide +kernel
theorem dL_areHands_203 : decode cL_areHands 203 = .ok (.iload 11, 2) := by decide +kernel
theorem dL_areHands_205 : decode cL_areHands 205 = .ok (.invokestatic 54, 3) := by decide +kernel
theorem dL_areHands_208 : decode cL_areHands 208 = .ok (.ifCond .eq 7, 3) := by decide +kernel
theorem dL_areHands_211 : decode cL_areHands 211 = .ok (.iconst 1, 1) := by decide +kernel
theorem dL_areHands_212 : decode cL_areHands 212 = .ok (.goto 4, 3) := by decide +kernel
theorem dL_areHands_215 : decode cL_areHands 215 = .ok (.iconst 0, 1) := by decide +kernel
theorem dL_areHands_216 : decode cL_areHands 216 = .ok (.istore 4, 2) := by decide +kernel
theorem dL_areHands_218 : decode cL_areHands 218 = .ok (.iload 9, 2) := by decide +kernel
theorem dL_areHands_220 : decode cL_areHands 220 = .ok (.ifCond .ne 23, 3) := by decide +kernel
theorem dL_areHands_223 : decode cL_areHands 223 = .ok (.lload 5, 2) := by decide +kernel
theorem dL_areHands_225 : decode cL_areHands 225 = .ok (.iload 11, 2) := by decide +kernel
theorem dL_areHands_227 : decode cL_areHands 227 = .ok (.invokestatic 54, 3) := by decide +kernel
theorem dL_areHands_230 : decode cL_areHands 230 = .ok (.ifCond .eq 17, 3) := by decide +kernel
theorem dL_areHands_233 : decode cL_areHands 233 = .ok (.iload 11, 2) := by decide +kernel
theorem dL_areHands_235 : decode cL_areHands 235 = .ok (.invokestatic 51, 3) := by decide +kernel
theorem dL_areHands_238 : decode cL_areHands 238 = .ok (.iload 7, 2) := by decide +kernel
theorem dL_areHands_240 : decode cL_areHands 240 = .ok (.if_icmp .ne 7, 3) := by decide +kernel
theorem dL_areHands_243 : decode cL_areHands 243 = .ok (.iconst 1, 1) := by decide +kernel
theorem dL_areHands_244 : decode cL_areHands 244 = .ok (.goto 4, 3) := by decide +kernel
theorem dL_areHands_247 : decode cL_areHands 247 = .ok (.iconst 0, 1) := by decide +kernel
theorem dL_areHands_248 : decode cL_areHands 248 = .ok (.istore 9, 2) := by decide +kernel
theorem dL_areHands_250 : decode cL_areHands 250 = .ok (.iload 10, 2) := by decide +kernel
theorem dL_areHands_252 : decode cL_areHands 252 = .ok (.ifCond .ne 18, 3) := by decide +kernel
theorem dL_areHands_255 : decode cL_areHands 255 = .ok (.iload 12, 2) := by decide +kernel
theorem dL_areHands_257 : decode cL_areHands 257 = .ok (.ifCond .eq 17, 3) := by decide +kernel
theorem dL_areHands_260 : decode cL_areHands 260 = .ok (.iload 11, 2) := by decide +kernel
theorem dL_areHands_262 : decode cL_areHands 262 = .ok (.invokestatic 51, 3) := by decide +kernel
theorem dL_areHands_265 : decode cL_areHands 265 = .ok (.iload 7, 2) := by decide +kernel
theorem dL_areHands_267 : decode cL_areHands 267 = .ok (.if_icmp .eq 7, 3) := by decide +kernel
theorem dL_areHands_270 : decode cL_areHands 270 = .ok (.iconst 1, 1) := by decide +kernel
theorem dL_areHands_271 : decode cL_areHands 271 = .ok (.goto 4, 3) := by decide +kernel
theorem dL_areHands_274 : decode cL_areHands 274 = .ok (.iconst 0, 1) := by decide +kernel
theorem dL_areHands_275 : decode cL_areHands 275 = .ok (.istore 10, 2) := by decide +kernel
theorem dL_areHands_277 : decode cL_areHands 277 = .ok (.iinc 11 1, 3) := by decide +kernel
theorem dL_areHands_280 : decode cL_areHands 280 = .ok (.goto (-119), 3) := by decide +kernel
theorem dL_areHands_283 : decode cL_areHands 283 = .ok (.iload 4, 2) := by decide +kernel
theorem dL_areHands_285 : decode cL_areHands 285 = .ok (.ifCond .eq 58, 3) := by decide +kernel
theorem dL_areHands_288 : decode cL_areHands 288 = .ok (.iload 8, 2) := by decide +kernel
theorem dL_areHands_290 : decode cL_areHands 290 = .ok (.ifCond .le 53, 3) := by decide +kernel
theorem dL_areHands_293 : decode cL_areHands 293 = .ok (.iload 7, 2) := by decide +kernel
theorem dL_areHands_295 : decode cL_areHands 295 = .ok (.ifCond .ge 16, 3) := by decide +kernel
theorem dL_areHands_298 : decode cL_areHands 298 = .ok (.iload 8, 2) := by decide +kernel
theorem dL_areHands_300 : decode cL_areHands 300 = .ok (.lload 5, 2) := by decide +kernel
theorem dL_areHands_302 : decode cL_areHands 302 = .ok (.invokestatic 28, 3) := by decide +kernel
theorem dL_areHands_305 : decode cL_areHands 305 = .ok (.if_icmp .ne 38, 3) := by decide +kernel
theorem dL_areHands_308 : decode cL_areHands 308 = .ok (.goto 13, 3) := by decide +kernel
theorem dL_areHands_311 : decode cL_areHands 311 = .ok (.iload 9, 2) := by decide +kernel
theorem dL_areHands_313 : decode cL_areHands 313 = .ok (.ifCond .eq 8, 3) := by decide +kernel
theorem dL_areHands_316 : decode cL_areHands 316 = .ok (.iload 10, 2) := by decide +kernel
theorem dL_areHands_318 : decode cL_areHands 318 = .ok (.ifCond .ne 25, 3) := by decide +kernel
theorem dL_areHands_321 : decode cL_areHands 321 = .ok (.iload_n 3, 1) := by decide +kernel
theorem dL_areHands_322 : decode cL_areHands 322 = .ok (.bipush 48, 2) := by decide +kernel
theorem dL_areHands_324 : decode cL_areHands 324 = .ok (.iconst 4, 1) := by decide +kernel
theorem dL_areHands_325 : decode cL_areHands 325 = .ok (.aload_n 0, 1) := by decide +kernel
theorem dL_areHands_326 : decode cL_areHands 326 = .ok (.invokevirtual 58, 3) := by decide +kernel
theorem dL_areHands_329 : decode cL_areHands 329 = .ok (.imul, 1) := by decide +kernel
theorem dL_areHands_330 : decode cL_areHands 330 = .ok (.isub, 1) := by decide +kernel
theorem dL_areHands_331 : decode cL_areHands 331 = .ok (.aload_n 0, 1) := by decide +kernel
theorem dL_areHands_332 : decode cL_areHands 332 = .ok (.invokevirtual 42, 3) := by decide +kernel
theorem dL_areHands_335 : decode cL_areHands 335 = .ok (.isub, 1) := by decide +kernel
theorem dL_areHands_336 : decode cL_areHands 336 = .ok (.if_icmp .ne 7, 3) := by decide +kernel
theorem dL_areHands_339 : decode cL_areHands 339 = .ok (.iconst 1, 1) := by decide +kernel
theorem dL_areHands_340 : decode cL_areHands 340 = .ok (.goto 4, 3) := by decide +kernel
theorem dL_areHands_343 : decode cL_areHands 343 = .ok (.iconst 0, 1) := by decide +kernel
theorem dL_areHands_344 : decode cL_areHands 344 = .ok (.ireturn, 1) := by decide +kernel
set_option maxRecDepth 20000 in
theorem ggL_areSides_X6_thirds : GoodIn wsL_areSides wsX6_thirds := goodIn_ca (goodIn_r _ [5, 6, 7, 8, 9, 10, 4, 11, 12, 13, 14, 15, 16, 17, 18, 19, 20, 21, 22, 23, 24, 25, 26, 27, 28, 29, 88, 89, 90, 91, 92, 93, 94, 95, 96, 97, 98, 99, 100, 101, 102, 103, 104, 105, 106] (by decide +kernel) (by decide +kernel)) (goodIn_sub (fun _ h => List.mem_cons_of_mem _ (List.mem_append_right _ h)) (by decide +kernel))
set_option maxRecDepth 20000 in
theorem gL_areSides_X6_thirds : GoodIn wsL_areSides (wsV RL 61 RX6 yX6_thirds wsX6_thirds) := goodIn_app (goodIn_of _ (by decide +kernel)) ggL_areSides_X6_thirds
set_option maxRecDepth 20000 in
theorem ggL_areSides_X6_tricks : GoodIn wsL_areSides wsX6_tricks := goodIn_r _ [33, 34, 88, 89, 90, 91, 92, 93, 94, 95, 96, 97, 98, 99, 100, 101, 102, 103, 104, 105] (by decide +kernel) (by decide +kernel)
set_option maxRecDepth 20000 in
theorem gL_areSides_X6_tricks : GoodIn wsL_areSides (wsV RL 58 RX6 yX6_tricks wsX6_tricks) := goodIn_app (goodIn_of _ (by decide +kernel)) ggL_areSides_X6_tricks
set_option maxRecDepth 20000 in
theorem ggL_areSides_X6_byPacks : GoodIn wsL_areSides wsX6_byPacks := goodIn_ca (goodIn_r _ [38, 6, 7, 8, 9, 10, 4, 11, 12, 13, 14, 15, 16, 17, 39, 40, 41, 21, 22, 23, 24, 25, 26, 27, 28, 29, 88, 89, 90, 91, 92, 93, 94, 95, 96, 97, 98, 99, 100, 101, 102, 103, 104, 105, 106] (by decide +kernel) (by decide +kernel)) (goodIn_sub (fun _ h => List.mem_cons_of_mem _ (List.mem_append_right _ h)) (by decide +kernel))
set_option maxRecDepth 20000 in
theorem gL_areSides_X6_byPacks : GoodIn wsL_areSides (wsV RL 64 RX6 yX6_byPacks wsX6_byPacks) := goodIn_app (goodIn_of _ (by decide +kernel)) ggL_areSides_X6_byPacks
set_option maxRecDepth 20000 in
theorem ggL_areSides_X6_knows : GoodIn wsL_areSides wsX6_knows := goodIn_ca (goodIn_r _ [45, 6, 7, 46, 47, 48, 49, 50, 4, 51, 52, 53, 54, 55, 56, 57, 12, 13, 14, 15, 16, 17, 58, 59, 60, 61, 21, 22, 23, 62, 63, 64, 65, 66, 88, 89, 90, 91, 92, 93, 94, 95, 96, 97, 98, 99, 100, 101, 102, 103, 104, 105, 106] (by decide +kernel) (by decide +kernel)) (goodIn_sub (fun _ h => List.mem_cons_of_mem _ (List.mem_append_right _ h)) (by decide +kernel))
set_option maxRecDepth 20000 in
theorem gL_areSides_X6_knows : GoodIn wsL_areSides (wsV RL 67 RX6 yX6_knows wsX6_knows) := goodIn_app (goodIn_of _ (by decide +kernel)) ggL_areSides_X6_knows
set_option maxRecDepth 20000 in
theorem ggL_areSides_X6_declarer : GoodIn wsL_areSides wsX6_declarer := goodIn_r _ [70, 46, 88, 89, 90, 91, 92, 93, 94, 95, 96, 97, 98, 99, 100, 101, 102, 103, 104, 105] (by decide +kernel) (by decide +kernel)
set_option maxRecDepth 20000 in
theorem gL_areSides_X6_declarer : GoodIn wsL_areSides (wsV RL 71 RX6 yX6_declarer wsX6_declarer) := goodIn_app (goodIn_of _ (by decide +kernel)) ggL_areSides_X6_declarer
set_option maxRecDepth 20000 in
theorem ggL_areSides_X6_phase : GoodIn wsL_areSides wsX6_phase := goodIn_r _ [74, 47, 88, 89, 90, 91, 92, 93, 94, 95, 96, 97, 98, 99, 100, 101, 102, 103, 104, 105] (by decide +kernel) (by decide +kernel)
set_option maxRecDepth 20000 in
theorem gL_areSides_X6_phase : GoodIn wsL_areSides (wsV RL 34 RX6 yX6_phase wsX6_phase) := goodIn_app (goodIn_of _ (by decide +kernel)) ggL_areSides_X6_phase
set_option maxRecDepth 20000 in
theorem ggL_areSides_X6_partner : GoodIn wsL_areSides wsX6_partner := goodIn_r _ [78, 66, 88, 89, 90, 91, 92, 93, 94, 95, 96, 97, 98, 99, 100, 101, 102, 103, 104, 105] (by decide +kernel) (by decide +kernel)
set_option maxRecDepth 20000 in
theorem gL_areSides_X6_partner : GoodIn wsL_areSides (wsV RL 74 RX6 yX6_partner wsX6_partner) := goodIn_app (goodIn_of _ (by decide +kernel)) ggL_areSides_X6_partner
set_option maxRecDepth 20000 in
theorem ggL_areSides_X6_called : GoodIn wsL_areSides wsX6_called := goodIn_r _ [82, 56, 88, 89, 90, 91, 92, 93, 94, 95, 96, 97, 98, 99, 100, 101, 102, 103, 104, 105] (by decide +kernel) (by decide +kernel)
set_option maxRecDepth 20000 in
theorem gL_areSides_X6_called : GoodIn wsL_areSides (wsV RL 77 RX6 yX6_called wsX6_called) := goodIn_app (goodIn_of _ (by decide +kernel)) ggL_areSides_X6_called
set_option maxRecDepth 20000 in
theorem ggL_areSides_X6_level : GoodIn wsL_areSides wsX6_level := goodIn_r _ [86, 87, 88, 89, 90, 91, 92, 93, 94, 95, 96, 97, 98, 99, 100, 101, 102, 103, 104, 105, 107, 108, 109] (by decide +kernel) (by decide +kernel)
set_option maxRecDepth 20000 in
theorem gL_areSides_X6_level : GoodIn wsL_areSides (wsV RL 80 RX6 yX6_level wsX6_level) := goodIn_app (goodIn_of _ (by decide +kernel)) ggL_areSides_X6_level
theorem dL_areSides_0 : decode cL_areSides 0 = .ok (.aload_n 0, 1) := by decide +kernel
theorem dL_areSides_1 : decode cL_areSides 1 = .ok (.iconst 0, 1) := by decide +kernel
theorem dL_areSides_2 : decode cL_areSides 2 = .ok (.invokevirtual 61, 3) := by decide +kernel
theorem dL_areSides_5 : decode cL_areSides 5 = .ok (.aload_n 0, 1) := by decide +kernel
theorem dL_areSides_6 : decode cL_areSides 6 = .ok (.iconst 1, 1) := by decide +kernel
theorem dL_areSides_7 : decode cL_areSides 7 = .ok (.invokevirtual 61, 3) := by decide +kernel
theorem dL_areSides_10 : decode cL_areSides 10 = .ok (.iadd, 1) := by decide +kernel
theorem dL_areSides_11 : decode cL_areSides 11 = .ok (.istore_n 1, 1) := by decide +kernel
theorem dL_areSides_12 : decode cL_areSides 12 = .ok (.iload_n 1, 1) := by decide +kernel
theorem dL_areSides_13 : decode cL_areSides 13 = .ok (.ifCond .lt 30, 3) := by decide +kernel
theorem dL_areSides_16 : decode cL_areSides 16 = .ok (.iload_n 1, 1) := by decide +kernel
theorem dL_areSides_17 : decode cL_areSides 17 = .ok (.sipush 210, 3) := by decide +kernel
theorem dL_areSides_20 : decode cL_areSides 20 = .ok (.if_icmp .gt 23, 3) := by decide +kernel
theorem dL_areSides_23 : decode cL_areSides 23 = .ok (.aload_n 0, 1) := by decide +kernel
theorem dL_areSides_24 : decode cL_areSides 24 = .ok (.invokevirtual 58, 3) := by decide +kernel
theorem dL_areSides_27 : decode cL_areSides 27 = .ok (.bipush 12, 2) := by decide +kernel
theorem dL_areSides_29 : decode cL_areSides 29 = .ok (.if_icmp .lt 10, 3) := by decide +kernel
theorem dL_areSides_32 : decode cL_areSides 32 = .ok (.iload_n 1, 1) := by decide +kernel
theorem dL_areSides_33 : decode cL_areSides 33 = .ok (.sipush 210, 3) := by decide +kernel
theorem dL_areSides_36 : decode cL_areSides 36 = .ok (.if_icmp .ne 7, 3) := by decide +kernel
theorem dL_areSides_39 : decode cL_areSides 39 = .ok (.iconst 1, 1) := by decide +kernel
theorem dL_areSides_40 : decode cL_areSides 40 = .ok (.goto 4, 3) := by decide +kernel
theorem dL_areSides_43 : decode cL_areSides 43 = .ok (.iconst 0, 1) := by decide +kernel
theorem dL_areSides_44 : decode cL_areSides 44 = .ok (.istore_n 2, 1) := by decide +kernel
theorem dL_areSides_45 : decode cL_areSides 45 = .ok (.aload_n 0, 1) := by decide +kernel
theorem dL_areSides_46 : decode cL_areSides 46 = .ok (.iconst 0, 1) := by decide +kernel
theorem dL_areSides_47 : decode cL_areSides 47 = .ok (.invokevirtual 64, 3) := by decide +kernel
theorem dL_areSides_50 : decode cL_areSides 50 = .ok (.aload_n 0, 1) := by decide +kernel
theorem dL_areSides_51 : decode cL_areSides 51 = .ok (.iconst 1, 1) := by decide +kernel
theorem dL_areSides_52 : decode cL_areSides 52 = .ok (.invokevirtual 64, 3) := by decide +kernel
theorem dL_areSides_55 : decode cL_areSides 55 = .ok (.iadd, 1) := by decide +kernel
theorem dL_areSides_56 : decode cL_areSides 56 = .ok (.istore_n 3, 1) := by decide +kernel
theorem dL_areSides_57 : decode cL_areSides 57 = .ok (.iload_n 2, 1) := by decide +kernel
theorem dL_areSides_58 : decode cL_areSides 58 = .ok (.ifCond .eq 18, 3) := by decide +kernel
theorem dL_areSides_61 : decode cL_areSides 61 = .ok (.iload_n 3, 1) := by decide +kernel
theorem dL_areSides_62 : decode cL_areSides 62 = .ok (.ifCond .lt 14, 3) := by decide +kernel
theorem dL_areSides_65 : decode cL_areSides 65 = .ok (.iconst 3, 1) := by decide +kernel
theorem dL_areSides_66 : decode cL_areSides 66 = .ok (.iload_n 3, 1) := by decide +kernel
theorem dL_areSides_67 : decode cL_areSides 67 = .ok (.imul, 1) := by decide +kernel
theorem dL_areSides_68 : decode cL_areSides 68 = .ok (.iload_n 1, 1) := by decide +kernel
theorem dL_areSides_69 : decode cL_areSides 69 = .ok (.if_icmp .gt 7, 3) := by decide +kernel
theorem dL_areSides_72 : decode cL_areSides 72 = .ok (.iconst 1, 1) := by decide +kernel
theorem dL_areSides_73 : decode cL_areSides 73 = .ok (.goto 4, 3) := by decide +kernel
theorem dL_areSides_76 : decode cL_areSides 76 = .ok (.iconst 0, 1) := by decide +kernel
theorem dL_areSides_77 : decode cL_areSides 77 = .ok (.istore_n 2, 1) := by decide +kernel
theorem dL_areSides_78 : decode cL_areSides 78 = .ok (.iconst 0, 1) := by decide +kernel
theorem dL_areSides_79 : decode cL_areSides 79 = .ok (.istore 4, 2) := by decide +kernel
theorem dL_areSides_81 : decode cL_areSides 81 = .ok (.iload 4, 2) := by decide +kernel
theorem dL_areSides_83 : decode cL_areSides 83 = .ok (.iconst 4, 1) := by decide +kernel
theorem dL_areSides_84 : decode cL_areSides 84 = .ok (.if_icmp .ge 126, 3) := by decide +kernel
theorem dL_areSides_87 : decode cL_areSides 87 = .ok (.iload_n 2, 1) := by decide +kernel
theorem dL_areSides_88 : decode cL_areSides 88 = .ok (.ifCond .eq 122, 3) := by decide +kernel
theorem dL_areSides_91 : decode cL_areSides 91 = .ok (.aload_n 0, 1) := by decide +kernel
theorem dL_areSides_92 : decode cL_areSides 92 = .ok (.iload 4, 2) := by decide +kernel
theorem dL_areSides_94 : decode cL_areSides 94 = .ok (.iload 4, 2) := by decide +kernel
theorem dL_areSides_96 : decode cL_areSides 96 = .ok (.invokevirtual 67, 3) := by decide +kernel
theorem dL_areSides_99 : decode cL_areSides 99 = .ok (.aload_n 0, 1) := by decide +kernel
theorem dL_areSides_100 : decode cL_areSides 100 = .ok (.invokevirtual 71, 3) := by decide +kernel
theorem dL_areSides_103 : decode cL_areSides 103 = .ok (.ifCond .lt 11, 3) := by decide +kernel
theorem dL_areSides_106 : decode cL_areSides 106 = .ok (.aload_n 0, 1) := by decide +kernel
theorem dL_areSides_107 : decode cL_areSides 107 = .ok (.invokevirtual 34, 3) := by decide +kernel
theorem dL_areSides_110 : decode cL_areSides 110 = .ok (.iconst 2, 1) := by decide +kernel
theorem dL_areSides_111 : decode cL_areSides 111 = .ok (.if_icmp .ne 7, 3) := by decide +kernel
theorem dL_areSides_114 : decode cL_areSides 114 = .ok (.iconst (-1), 1) := by decide +kernel
theorem dL_areSides_115 : decode cL_areSides 115 = .ok (.goto 26, 3) := by decide +kernel
theorem dL_areSides_118 : decode cL_areSides 118 = .ok (.iload 4, 2) := by decide +kernel
theorem dL_areSides_120 : decode cL_areSides 120 = .ok (.aload_n 0, 1) := by decide +kernel
theorem dL_areSides_121 : decode cL_areSides 121 = .ok (.invokevirtual 71, 3) := by decide +kernel
theorem dL_areSides_124 : decode cL_areSides 124 = .ok (.if_icmp .eq 12, 3) := by decide +kernel
theorem dL_areSides_127 : decode cL_areSides 127 = .ok (.iload 4, 2) := by decide +kernel
theorem dL_areSides_129 : decode cL_areSides 129 = .ok (.aload_n 0, 1) := by decide +kernel
theorem dL_areSides_130 : decode cL_areSides 130 = .ok (.invokevirtual 74, 3) := by decide +kernel
theorem dL_areSides_133 : decode cL_areSides 133 = .ok (.if_icmp .ne 7, 3) := by decide +kernel
theorem dL_areSides_136 : decode cL_areSides 136 = .ok (.iconst 0, 1) := by decide +kernel
theorem dL_areSides_137 : decode cL_areSides 137 = .ok (.goto 4, 3) := by decide +kernel
theorem dL_areSides_140 : decode cL_areSides 140 = .ok (.iconst 1, 1) := by decide +kernel
theorem dL_areSides_141 : decode cL_areSides 141 = .ok (.if_icmp .ne 7, 3) := by decide +kernel
theorem dL_areSides_144 : decode cL_areSides 144 = .ok (.iconst 1, 1) := by decide +kernel
theorem dL_areSides_145 : decode cL_areSides 145 = .ok (.goto 4, 3) := by decide +kernel
theorem dL_areSides_148 : decode cL_areSides 148 = .ok (.iconst 0, 1) := by decide +kernel
theorem dL_areSides_149 : decode cL_areSides 149 = .ok (.istore_n 2, 1) := by decide +kernel
theorem dL_areSides_150 : decode cL_areSides 150 = .ok (.iconst 0, 1) := by decide +kernel
theorem dL_areSides_151 : decode cL_areSides 151 = .ok (.istore 5, 2) := by decide +kernel
theorem dL_areSides_153 : decode cL_areSides 153 = .ok (.iload 5, 2) := by decide +kernel
theorem dL_areSides_155 : decode cL_areSides 155 = .ok (.iconst 4, 1) := by decide +kernel
theorem dL_areSides_156 : decode cL_areSides 156 = .ok (.if_icmp .ge 48, 3) := by decide +kernel
theorem dL_areSides_159 : decode cL_areSides 159 = .ok (.iload_n 2, 1) := by decide +kernel
theorem dL_areSides_160 : decode cL_areSides 160 = .ok (.ifCond .eq 44, 3) := by decide +kernel
theorem dL_areSides_163 : decode cL_areSides 163 = .ok (.aload_n 0, 1) := by decide +kernel
theorem dL_areSides_164 : decode cL_areSides 164 = .ok (.iload 4, 2) := by decide +kernel
theorem dL_areSides_166 : decode cL_areSides 166 = .ok (.iload 5, 2) := by decide +kernel
theorem dL_areSides_168 : decode cL_areSides 168 = .ok (.invokevirtual 67, 3) := by decide +kernel
theorem dL_areSides_171 : decode cL_areSides 171 = .ok (.istore 6, 2) := by decide +kernel
theorem dL_areSides_173 : decode cL_areSides 173 = .ok (.iload 6, 2) := by decide +kernel
theorem dL_areSides_175 : decode cL_areSides 175 = .ok (.iconst (-1), 1) := by decide +kernel
theorem dL_areSides_176 : decode cL_areSides 176 = .ok (.if_icmp .eq 16, 3) := by decide +kernel
theorem dL_areSides_179 : decode cL_areSides 179 = .ok (.iload 6, 2) := by decide +kernel
theorem dL_areSides_181 : decode cL_areSides 181 = .ok (.aload_n 0, 1) := by decide +kernel
theorem dL_areSides_182 : decode cL_areSides 182 = .ok (.iload 5, 2) := by decide +kernel
theorem dL_areSides_184 : decode cL_areSides 184 = .ok (.iload 5, 2) := by decide +kernel
theorem dL_areSides_186 : decode cL_areSides 186 = .ok (.invokevirtual 67, 3) := by decide +kernel
theorem dL_areSides_189 : decode cL_areSides 189 = .ok (.if_icmp .ne 7, 3) := by decide +kernel
theorem dL_areSides_192 : decode cL_areSides 192 = .ok (.iconst 1, 1) := by decide +kernel
theorem dL_areSides_193 : decode cL_areSides 193 = .ok (.goto 4, 3) := by decide +kernel
theorem dL_areSides_196 : decode cL_areSides 196 = .ok (.iconst 0, 1) := by decide +kernel
theorem dL_areSides_197 : decode cL_areSides 197 = .ok (.istore_n 2, 1) := by decide +kernel
theorem dL_areSides_198 : decode cL_areSides 198 = .ok (.iinc 5 1, 3) := by decide +kernel
theorem dL_areSides_201 : decode cL_areSides 201 = .ok (.goto (-48), 3) := by decide +kernel
theorem dL_areSides_204 : decode cL_areSides 204 = .ok (.iinc 4 1, 3) := by decide +kernel
theorem dL_areSides_207 : decode cL_areSides 207 = .ok (.goto (-126), 3) := by decide +kernel
theorem dL_areSides_210 : decode cL_areSides 210 = .ok (.iload_n 2, 1) := by decide +kernel
theorem dL_areSides_211 : decode cL_areSides 211 = .ok (.ifCond .eq 61, 3) := by decide +kernel
theorem dL_areSides_214 : decode cL_areSides 214 = .ok (.aload_n 0, 1) := by decide +kernel
theorem dL_areSides_215 : decode cL_areSides 215 = .ok (.invokevirtual 74, 3) := by decide +kernel
theorem dL_areSides_218 : decode cL_areSides 218 = .ok (.ifCond .lt 21, 3) := by decide +kernel
theorem dL_areSides_221 : decode cL_areSides 221 = .ok (.aload_n 0, 1) := by decide +kernel
theorem dL_areSides_222 : decode cL_areSides 222 = .ok (.invokevirtual 77, 3) := by decide +kernel
theorem dL_areSides_225 : decode cL_areSides 225 = .ok (.ifCond .lt 47, 3) := by decide +kernel
theorem dL_areSides_228 : decode cL_areSides 228 = .ok (.aload_n 0, 1) := by decide +kernel
theorem dL_areSides_229 : decode cL_areSides 229 = .ok (.invokevirtual 74, 3) := by decide +kernel
theorem dL_areSides_232 : decode cL_areSides 232 = .ok (.aload_n 0, 1) := by decide +kernel
theorem dL_areSides_233 : decode cL_areSides 233 = .ok (.invokevirtual 71, 3) := by decide +kernel
theorem dL_areSides_236 : decode cL_areSides 236 = .ok (.if_icmp .eq 36, 3) := by decide +kernel
theorem dL_areSides_239 : decode cL_areSides 239 = .ok (.aload_n 0, 1) := by decide +kernel
theorem dL_areSides_240 : decode cL_areSides 240 = .ok (.invokevirtual 71, 3) := by decide +kernel
theorem dL_areSides_243 : decode cL_areSides 243 = .ok (.ifCond .lt 10, 3) := by decide +kernel
theorem dL_areSides_246 : decode cL_areSides 246 = .ok (.aload_n 0, 1) := by decide +kernel
theorem dL_areSides_247 : decode cL_areSides 247 = .ok (.invokevirtual 80, 3) := by decide +kernel
theorem dL_areSides_250 : decode cL_areSides 250 = .ok (.ifCond .le 22, 3) := by decide +kernel
theorem dL_areSides_253 : decode cL_areSides 253 = .ok (.aload_n 0, 1) := by decide +kernel
theorem dL_areSides_254 : decode cL_areSides 254 = .ok (.invokevirtual 77, 3) := by decide +kernel
theorem dL_areSides_257 : decode cL_areSides 257 = .ok (.ifCond .lt 11, 3) := by decide +kernel
theorem dL_areSides_260 : decode cL_areSides 260 = .ok (.aload_n 0, 1) := by decide +kernel
theorem dL_areSides_261 : decode cL_areSides 261 = .ok (.invokevirtual 80, 3) := by decide +kernel
theorem dL_areSides_264 : decode cL_areSides 264 = .ok (.iconst 4, 1) := by decide +kernel
theorem dL_areSides_265 : decode cL_areSides 265 = .ok (.if_icmp .ge 7, 3) := by decide +kernel
theorem dL_areSides_268 : decode cL_areSides 268 = .ok (.iconst 1, 1) := by decide +kernel
theorem dL_areSides_269 : decode cL_areSides 269 = .ok (.goto 4, 3) := by decide +kernel
theorem dL_areSides_272 : decode cL_areSides 272 = .ok (.iconst 0, 1) := by decide +kernel
theorem dL_areSides_273 : decode cL_areSides 273 = .ok (.ireturn, 1) := by decide +kernel
set_option maxRecDepth 20000 in
theorem ggL_wins_L_suit : GoodIn wsL_wins wsL_suit := goodIn_r _ [4] (by decide +kernel) (by decide +kernel)
set_option maxRecDepth 20000 in
theorem gL_wins_L_suit : GoodIn wsL_wins (va_wsS RL 51 yL_suit wsL_suit) := goodIn_app (goodIn_of _ (by decide +kernel)) ggL_wins_L_suit
theorem dL_wins_0 : decode cL_wins 0 = .ok (.iload_n 0, 1) := by decide +kernel
theorem dL_wins_1 : decode cL_wins 1 = .ok (.istore 4, 2) := by decide +kernel
theorem dL_wins_3 : decode cL_wins 3 = .ok (.iconst 0, 1) := by decide +kernel
theorem dL_wins_4 : decode cL_wins 4 = .ok (.istore 5, 2) := by decide +kernel
theorem dL_wins_6 : decode cL_wins 6 = .ok (.iconst 1, 1) := by decide +kernel
theorem dL_wins_7 : decode cL_wins 7 = .ok (.istore 6, 2) := by decide +kernel
theorem dL_wins_9 : decode cL_wins 9 = .ok (.iload 6, 2) := by decide +kernel
theorem dL_wins_11 : decode cL_wins 11 = .ok (.iconst 4, 1) := by decide +kernel
theorem dL_wins_12 : decode cL_wins 12 = .ok (.if_icmp .ge 104, 3) := by decide +kernel
theorem dL_wins_15 : decode cL_wins 15 = .ok (.iload 6, 2) := by decide +kernel
theorem dL_wins_17 : decode cL_wins 17 = .ok (.iconst 1, 1) := by decide +kernel
theorem dL_wins_18 : decode cL_wins 18 = .ok (.if_icmp .ne 7, 3) := by decide +kernel
theorem dL_wins_21 : decode cL_wins 21 = .ok (.iload_n 1, 1) := by decide +kernel
theorem dL_wins_22 : decode cL_wins 22 = .ok (.goto 14, 3) := by decide +kernel
theorem dL_wins_25 : decode cL_wins 25 = .ok (.iload 6, 2) := by decide +kernel
theorem dL_wins_27 : decode cL_wins 27 = .ok (.iconst 2, 1) := by decide +kernel
theorem dL_wins_28 : decode cL_wins 28 = .ok (.if_icmp .ne 7, 3) := by decide +kernel
theorem dL_wins_31 : decode cL_wins 31 = .ok (.iload_n 2, 1) := by decide +kernel
theorem dL_wins_32 : decode cL_wins 32 = .ok (.goto 4, 3) := by decide +kernel
theorem dL_wins_35 : decode cL_wins 35 = .ok (.iload_n 3, 1) := by decide +kernel
theorem dL_wins_36 : decode cL_wins 36 = .ok (.istore 7, 2) := by decide +kernel
theorem dL_wins_38 : decode cL_wins 38 = .ok (.iload 7, 2) := by decide +kernel
theorem dL_wins_40 : decode cL_wins 40 = .ok (.invokestatic 51, 3) := by decide +kernel
theorem dL_wins_43 : decode cL_wins 43 = .ok (.iload 4, 2) := by decide +kernel
theorem dL_wins_45 : decode cL_wins 45 = .ok (.invokestatic 51, 3) := by decide +kernel
theorem dL_wins_48 : decode cL_wins 48 = .ok (.if_icmp .ne 18, 3) := by decide +kernel
theorem dL_wins_51 : decode cL_wins 51 = .ok (.iload 7, 2) := by decide +kernel
theorem dL_wins_53 : decode cL_wins 53 = .ok (.iload 4, 2) := by decide +kernel
theorem dL_wins_55 : decode cL_wins 55 = .ok (.if_icmp .le 7, 3) := by decide +kernel
theorem dL_wins_58 : decode cL_wins 58 = .ok (.iconst 1, 1) := by decide +kernel
theorem dL_wins_59 : decode cL_wins 59 = .ok (.goto 21, 3) := by decide +kernel
theorem dL_wins_62 : decode cL_wins 62 = .ok (.iconst 0, 1) := by decide +kernel
theorem dL_wins_63 : decode cL_wins 63 = .ok (.goto 17, 3) := by decide +kernel
theorem dL_wins_66 : decode cL_wins 66 = .ok (.iload 7, 2) := by decide +kernel
theorem dL_wins_68 : decode cL_wins 68 = .ok (.invokestatic 51, 3) := by decide +kernel
theorem dL_wins_71 : decode cL_wins 71 = .ok (.iconst 4, 1) := by decide +kernel
theorem dL_wins_72 : decode cL_wins 72 = .ok (.if_icmp .ne 7, 3) := by decide +kernel
theorem dL_wins_75 : decode cL_wins 75 = .ok (.iconst 1, 1) := by decide +kernel
theorem dL_wins_76 : decode cL_wins 76 = .ok (.goto 4, 3) := by decide +kernel
theorem dL_wins_79 : decode cL_wins 79 = .ok (.iconst 0, 1) := by decide +kernel
theorem dL_wins_80 : decode cL_wins 80 = .ok (.istore 8, 2) := by decide +kernel
theorem dL_wins_82 : decode cL_wins 82 = .ok (.iload 8, 2) := by decide +kernel
theorem dL_wins_84 : decode cL_wins 84 = .ok (.ifCond .eq 8, 3) := by decide +kernel
theorem dL_wins_87 : decode cL_wins 87 = .ok (.iload 6, 2) := by decide +kernel
theorem dL_wins_89 : decode cL_wins 89 = .ok (.goto 5, 3) := by decide +kernel
theorem dL_wins_92 : decode cL_wins 92 = .ok (.iload 5, 2) := by decide +kernel
theorem dL_wins_94 : decode cL_wins 94 = .ok (.istore 5, 2) := by decide +kernel
theorem dL_wins_96 : decode cL_wins 96 = .ok (.iload 8, 2) := by decide +kernel
theorem dL_wins_98 : decode cL_wins 98 = .ok (.ifCond .eq 8, 3) := by decide +kernel
theorem dL_wins_101 : decode cL_wins 101 = .ok (.iload 7, 2) := by decide +kernel
theorem dL_wins_103 : decode cL_wins 103 = .ok (.goto 5, 3) := by decide +kernel
theorem dL_wins_106 : decode cL_wins 106 = .ok (.iload 4, 2) := by decide +kernel
theorem dL_wins_108 : decode cL_wins 108 = .ok (.istore 4, 2) := by decide +kernel
theorem dL_wins_110 : decode cL_wins 110 = .ok (.iinc 6 1, 3) := by decide +kernel
theorem dL_wins_113 : decode cL_wins 113 = .ok (.goto (-104), 3) := by decide +kernel
theorem dL_wins_116 : decode cL_wins 116 = .ok (.iload 5, 2) := by decide +kernel
theorem dL_wins_118 : decode cL_wins 118 = .ok (.ireturn, 1) := by decide +kernel
set_option maxRecDepth 20000 in
theorem ggL_drawn_L_has : GoodIn wsL_drawn wsL_has := goodIn_r _ [4] (by decide +kernel) (by decide +kernel)
set_option maxRecDepth 20000 in
theorem gL_drawn_L_has : GoodIn wsL_drawn (va_wsS RL 54 yL_has wsL_has) := goodIn_app (goodIn_of _ (by decide +kernel)) ggL_drawn_L_has
theorem dL_drawn_0 : decode cL_drawn 0 = .ok (.iload_n 2, 1) := by decide +kernel
theorem dL_drawn_1 : decode cL_drawn 1 = .ok (.bipush 54, 2) := by decide +kernel
theorem dL_drawn_3 : decode cL_drawn 3 = .ok (.irem, 1) := by decide +kernel
theorem dL_drawn_4 : decode cL_drawn 4 = .ok (.istore_n 3, 1) := by decide +kernel
theorem dL_drawn_5 : decode cL_drawn 5 = .ok (.iconst 0, 1) := by decide +kernel
theorem dL_drawn_6 : decode cL_drawn 6 = .ok (.istore 4, 2) := by decide +kernel
theorem dL_drawn_8 : decode cL_drawn 8 = .ok (.iload 4, 2) := by decide +kernel
theorem dL_drawn_10 : decode cL_drawn 10 = .ok (.bipush 54, 2) := by decide +kernel
theorem dL_drawn_12 : decode cL_drawn 12 = .ok (.if_icmp .ge 24, 3) := by decide +kernel
theorem dL_drawn_15 : decode cL_drawn 15 = .ok (.lload_n 0, 1) := by decide +kernel
theorem dL_drawn_16 : decode cL_drawn 16 = .ok (.iload_n 3, 1) := by decide +kernel
theorem dL_drawn_17 : decode cL_drawn 17 = .ok (.invokestatic 54, 3) := by decide +kernel
theorem dL_drawn_20 : decode cL_drawn 20 = .ok (.ifCond .ne 16, 3) := by decide +kernel
theorem dL_drawn_23 : decode cL_drawn 23 = .ok (.iload_n 3, 1) := by decide +kernel
theorem dL_drawn_24 : decode cL_drawn 24 = .ok (.iconst 1, 1) := by decide +kernel
theorem dL_drawn_25 : decode cL_drawn 25 = .ok (.iadd, 1) := by decide +kernel
theorem dL_drawn_26 : decode cL_drawn 26 = .ok (.bipush 54, 2) := by decide +kernel
theorem dL_drawn_28 : decode cL_drawn 28 = .ok (.irem, 1) := by decide +kernel
theorem dL_drawn_29 : decode cL_drawn 29 = .ok (.istore_n 3, 1) := by decide +kernel
theorem dL_drawn_30 : decode cL_drawn 30 = .ok (.iinc 4 1, 3) := by decide +kernel
theorem dL_drawn_33 : decode cL_drawn 33 = .ok (.goto (-25), 3) := by decide +kernel
theorem dL_drawn_36 : decode cL_drawn 36 = .ok (.iload_n 3, 1) := by decide +kernel
theorem dL_drawn_37 : decode cL_drawn 37 = .ok (.ireturn, 1) := by decide +kernel
set_option maxRecDepth 20000 in
theorem ggL_isPlayed_X6_turn : GoodIn wsL_isPlayed wsX6_turn := goodIn_r _ [5, 6, 237, 238, 239, 240, 241, 242, 243, 244, 245, 246, 247, 248, 249, 250, 251, 252, 253, 254] (by decide +kernel) (by decide +kernel)
set_option maxRecDepth 20000 in
theorem gL_isPlayed_X6_turn : GoodIn wsL_isPlayed (wsV RL 45 RX6 yX6_turn wsX6_turn) := goodIn_app (goodIn_of _ (by decide +kernel)) ggL_isPlayed_X6_turn
set_option maxRecDepth 20000 in
theorem ggL_isPlayed_X6_inTrick : GoodIn wsL_isPlayed wsX6_inTrick := goodIn_r _ [10, 11, 237, 238, 239, 240, 241, 242, 243, 244, 245, 246, 247, 248, 249, 250, 251, 252, 253, 254, 255, 256, 257] (by decide +kernel) (by decide +kernel)
set_option maxRecDepth 20000 in
theorem gL_isPlayed_X6_inTrick : GoodIn wsL_isPlayed (wsV RL 42 RX6 yX6_inTrick wsX6_inTrick) := goodIn_app (goodIn_of _ (by decide +kernel)) ggL_isPlayed_X6_inTrick
set_option maxRecDepth 20000 in
theorem ggL_isPlayed_X6_tricks : GoodIn wsL_isPlayed wsX6_tricks := goodIn_r _ [15, 16, 237, 238, 239, 240, 241, 242, 243, 244, 245, 246, 247, 248, 249, 250, 251, 252, 253, 254] (by decide +kernel) (by decide +kernel)
set_option maxRecDepth 20000 in
theorem gL_isPlayed_X6_tricks : GoodIn wsL_isPlayed (wsV RL 58 RX6 yX6_tricks wsX6_tricks) := goodIn_app (goodIn_of _ (by decide +kernel)) ggL_isPlayed_X6_tricks
set_option maxRecDepth 20000 in
theorem ggL_isPlayed_X6_hand : GoodIn wsL_isPlayed wsX6_hand := goodIn_ca (goodIn_r _ [20, 21, 22, 23, 24, 25, 4, 26, 27, 28, 29, 30, 31, 32, 237, 238, 239, 240, 241, 242, 243, 244, 245, 246, 247, 248, 249, 250, 251, 252, 253, 254, 258] (by decide +kernel) (by decide +kernel)) (goodIn_sub (fun _ h => List.mem_cons_of_mem _ (List.mem_append_left _ (List.mem_append_right _ h))) (by decide +kernel))
set_option maxRecDepth 20000 in
theorem gL_isPlayed_X6_hand : GoodIn wsL_isPlayed (wsV RL 24 RX6 yX6_hand wsX6_hand) := goodIn_app (goodIn_of _ (by decide +kernel)) ggL_isPlayed_X6_hand
set_option maxRecDepth 20000 in
theorem ggL_isPlayed_L_drawn : GoodIn wsL_isPlayed wsL_drawn := goodIn_r _ [36, 37, 38, 35, 39] (by decide +kernel) (by decide +kernel)
set_option maxRecDepth 20000 in
theorem gL_isPlayed_L_drawn : GoodIn wsL_isPlayed (va_wsS RL 83 yL_drawn wsL_drawn) := goodIn_app (goodIn_of _ (by decide +kernel)) ggL_isPlayed_L_drawn
set_option maxRecDepth 20000 in
theorem ggL_isPlayed_X6_canPlay : GoodIn wsL_isPlayed wsX6_canPlay := goodIn_ca (goodIn_r _ [43, 21, 22, 44, 45, 4, 46, 47, 48, 49, 50, 51, 23, 6, 11, 27, 28, 29, 30, 31, 32, 52, 53, 54, 55, 56, 57, 58, 59, 60, 61, 62, 63, 64, 65, 66, 67, 68, 69, 70, 71, 72, 73, 74, 75, 76, 77, 237, 238, 239, 240, 241, 242, 243, 244, 245, 246, 247, 248, 249, 250, 251, 252, 253, 254, 258, 255, 256, 257, 259] (by decide +kernel) (by decide +kernel)) (goodIn_sub (fun _ h => List.mem_cons_of_mem _ (List.mem_append_left _ (List.mem_append_right _ h))) (by decide +kernel))
set_option maxRecDepth 20000 in
theorem gL_isPlayed_X6_canPlay : GoodIn wsL_isPlayed (wsV RL 38 RX6 yX6_canPlay wsX6_canPlay) := goodIn_app (goodIn_of _ (by decide +kernel)) ggL_isPlayed_X6_canPlay
set_option maxRecDepth 20000 in
theorem ggL_isPlayed_X6_trickAt : GoodIn wsL_isPlayed wsX6_trickAt := goodIn_ca (goodIn_r _ [81, 21, 22, 11, 82, 83, 84, 55, 85, 58, 59, 60, 61, 62, 63, 64, 237, 238, 239, 240, 241, 242, 243, 244, 245, 246, 247, 248, 249, 250, 251, 252, 253, 254, 255, 256, 257, 259] (by decide +kernel) (by decide +kernel)) (goodIn_sub (fun _ h => List.mem_cons_of_mem _ (List.mem_append_left _ (List.mem_append_right _ h))) (by decide +kernel))
set_option maxRecDepth 20000 in
theorem gL_isPlayed_X6_trickAt : GoodIn wsL_isPlayed (wsV RL 48 RX6 yX6_trickAt wsX6_trickAt) := goodIn_app (goodIn_of _ (by decide +kernel)) ggL_isPlayed_X6_trickAt
set_option maxRecDepth 20000 in
theorem ggL_isPlayed_X6_thirds : GoodIn wsL_isPlayed wsX6_thirds := goodIn_ca (goodIn_r _ [89, 21, 22, 90, 91, 92, 4, 93, 27, 28, 29, 30, 31, 32, 94, 95, 96, 75, 76, 77, 97, 98, 99, 100, 65, 66, 237, 238, 239, 240, 241, 242, 243, 244, 245, 246, 247, 248, 249, 250, 251, 252, 253, 254, 258] (by decide +kernel) (by decide +kernel)) (goodIn_sub (fun _ h => List.mem_cons_of_mem _ (List.mem_append_left _ (List.mem_append_right _ h))) (by decide +kernel))
set_option maxRecDepth 20000 in
theorem gL_isPlayed_X6_thirds : GoodIn wsL_isPlayed (wsV RL 61 RX6 yX6_thirds wsX6_thirds) := goodIn_app (goodIn_of _ (by decide +kernel)) ggL_isPlayed_X6_thirds
set_option maxRecDepth 20000 in
theorem ggL_isPlayed_L_plays : GoodIn wsL_isPlayed wsL_plays := goodIn_ca (goodIn_ca (goodIn_r _ [103, 104, 105, 106, 107, 4, 108, 21, 22, 109, 110, 44, 45, 46, 47, 48, 49, 50, 51, 23, 6, 11, 27, 28, 29, 30, 31, 32, 52, 53, 54, 55, 56, 57, 58, 59, 60, 61, 62, 63, 64, 65, 66, 67, 68, 69, 70, 71, 72, 73, 74, 75, 76, 77, 111, 112, 113, 114, 115, 116, 117, 118, 119, 120, 121, 122, 123, 124, 125, 126, 127, 128, 129, 130, 131, 132, 133, 134, 135, 136, 137, 138, 139, 140, 141, 142, 143, 144, 145, 146, 147, 148, 149, 90, 16, 150, 151, 152, 153, 154, 155, 156, 157, 158, 159, 160, 161, 162, 163, 164, 165, 94, 95, 96, 97, 98, 99, 100, 166, 167, 168, 169, 170, 171, 172, 173, 174, 175, 176, 177, 178, 179, 180, 181, 182, 183, 184, 185, 186, 187, 188, 189, 190, 191, 192, 193, 194, 195, 196, 197, 198, 199, 200, 201, 202, 203, 204, 205, 206, 207, 208, 209, 210, 211, 212, 213, 214, 215, 216, 217, 218, 219, 220, 221, 222, 223, 224, 225, 226, 237, 238, 239, 240, 241, 242, 243, 244, 245, 246, 247, 248, 249, 250, 251, 252, 253, 254, 258, 255, 256, 257, 259, 260, 261, 262, 263, 264, 265] (by decide +kernel) (by decide +kernel)) (goodIn_sub (fun _ h => List.mem_cons_of_mem _ (List.mem_append_left _ (List.mem_append_right _ h))) (by decide +kernel))) (goodIn_sub (fun _ h => List.mem_cons_of_mem _ (List.mem_append_right _ h)) (by decide +kernel))
set_option maxRecDepth 20000 in
theorem gL_isPlayed_L_plays : GoodIn wsL_isPlayed (va_wsS RL 87 yL_plays wsL_plays) := goodIn_app (goodIn_of _ (by decide +kernel)) ggL_isPlayed_L_plays
set_option maxRecDepth 20000 in
theorem ggL_isPlayed_X6_valueOf : GoodIn wsL_isPlayed wsX6_valueOf := goodIn_ca (goodIn_r _ [230, 21, 22, 44, 45, 4, 46, 97, 98, 99, 100, 65, 66] (by decide +kernel) (by decide +kernel)) (goodIn_sub (fun _ h => List.mem_cons_of_mem _ (List.mem_append_left _ (List.mem_append_right _ h))) (by decide +kernel))
set_option maxRecDepth 20000 in
theorem gL_isPlayed_X6_valueOf : GoodIn wsL_isPlayed (wsV RL 91 RX6 yX6_valueOf wsX6_valueOf) := goodIn_app (goodIn_of _ (by decide +kernel)) ggL_isPlayed_X6_valueOf
set_option maxRecDepth 20000 in
theorem ggL_isPlayed_L_wins : GoodIn wsL_isPlayed wsL_wins := goodIn_r _ [233, 234, 235, 35, 236] (by decide +kernel) (by decide +kernel)
set_option maxRecDepth 20000 in
theorem gL_isPlayed_L_wins : GoodIn wsL_isPlayed (va_wsS RL 94 yL_wins wsL_wins) := goodIn_app (goodIn_of _ (by decide +kernel)) ggL_isPlayed_L_wins
theorem dL_isPlayed_0 : decode cL_isPlayed 0 = .ok (.aload_n 0, 1) := by decide +kernel
theorem dL_isPlayed_1 : decode cL_isPlayed 1 = .ok (.invokevirtual 45, 3) := by decide +kernel
theorem dL_isPlayed_4 : decode cL_isPlayed 4 = .ok (.istore_n 2, 1) := by decide +kernel
theorem dL_isPlayed_5 : decode cL_isPlayed 5 = .ok (.aload_n 0, 1) := by decide +kernel
theorem dL_isPlayed_6 : decode cL_isPlayed 6 = .ok (.invokevirtual 42, 3) := by decide +kernel
theorem dL_isPlayed_9 : decode cL_isPlayed 9 = .ok (.istore_n 3, 1) := by decide +kernel
theorem dL_isPlayed_10 : decode cL_isPlayed 10 = .ok (.aload_n 0, 1) := by decide +kernel
theorem dL_isPlayed_11 : decode cL_isPlayed 11 = .ok (.invokevirtual 58, 3) := by decide +kernel
theorem dL_isPlayed_14 : decode cL_isPlayed 14 = .ok (.istore 4, 2) := by decide +kernel
theorem dL_isPlayed_16 : decode cL_isPlayed 16 = .ok (.aload_n 0, 1) := by decide +kernel
theorem dL_isPlayed_17 : decode cL_isPlayed 17 = .ok (.iload_n 2, 1) := by decide +kernel
theorem dL_isPlayed_18 : decode cL_isPlayed 18 = .ok (.invokevirtual 24, 3) := by decide +kernel
theorem dL_isPlayed_21 : decode cL_isPlayed 21 = .ok (.lstore 5, 2) := by decide +kernel
theorem dL_isPlayed_23 : decode cL_isPlayed 23 = .ok (.lload 5, 2) := by decide +kernel
theorem dL_isPlayed_25 : decode cL_isPlayed 25 = .ok (.iload_n 1, 1) := by decide +kernel
theorem dL_isPlayed_26 : decode cL_isPlayed 26 = .ok (.invokestatic 83, 3) := by decide +kernel
theorem dL_isPlayed_29 : decode cL_isPlayed 29 = .ok (.istore 7, 2) := by decide +kernel
theorem dL_isPlayed_31 : decode cL_isPlayed 31 = .ok (.aload_n 0, 1) := by decide +kernel
theorem dL_isPlayed_32 : decode cL_isPlayed 32 = .ok (.iload 7, 2) := by decide +kernel
theorem dL_isPlayed_34 : decode cL_isPlayed 34 = .ok (.invokevirtual 38, 3) := by decide +kernel
theorem dL_isPlayed_37 : decode cL_isPlayed 37 = .ok (.istore 8, 2) := by decide +kernel
theorem dL_isPlayed_39 : decode cL_isPlayed 39 = .ok (.iload_n 3, 1) := by decide +kernel
theorem dL_isPlayed_40 : decode cL_isPlayed 40 = .ok (.ifCond .le 11, 3) := by decide +kernel
theorem dL_isPlayed_43 : decode cL_isPlayed 43 = .ok (.aload_n 0, 1) := by decide +kernel
theorem dL_isPlayed_44 : decode cL_isPlayed 44 = .ok (.iconst 0, 1) := by decide +kernel
theorem dL_isPlayed_45 : decode cL_isPlayed 45 = .ok (.invokevirtual 48, 3) := by decide +kernel
theorem dL_isPlayed_48 : decode cL_isPlayed 48 = .ok (.goto 5, 3) := by decide +kernel
theorem dL_isPlayed_51 : decode cL_isPlayed 51 = .ok (.iload 7, 2) := by decide +kernel
theorem dL_isPlayed_53 : decode cL_isPlayed 53 = .ok (.istore 9, 2) := by decide +kernel
theorem dL_isPlayed_55 : decode cL_isPlayed 55 = .ok (.iload_n 3, 1) := by decide +kernel
theorem dL_isPlayed_56 : decode cL_isPlayed 56 = .ok (.iconst 1, 1) := by decide +kernel
theorem dL_isPlayed_57 : decode cL_isPlayed 57 = .ok (.if_icmp .le 11, 3) := by decide +kernel
theorem dL_isPlayed_60 : decode cL_isPlayed 60 = .ok (.aload_n 0, 1) := by decide +kernel
theorem dL_isPlayed_61 : decode cL_isPlayed 61 = .ok (.iconst 1, 1) := by decide +kernel
theorem dL_isPlayed_62 : decode cL_isPlayed 62 = .ok (.invokevirtual 48, 3) := by decide +kernel
theorem dL_isPlayed_65 : decode cL_isPlayed 65 = .ok (.goto 5, 3) := by decide +kernel
theorem dL_isPlayed_68 : decode cL_isPlayed 68 = .ok (.iload 7, 2) := by decide +kernel
theorem dL_isPlayed_70 : decode cL_isPlayed 70 = .ok (.istore 10, 2) := by decide +kernel
theorem dL_isPlayed_72 : decode cL_isPlayed 72 = .ok (.iload_n 3, 1) := by decide +kernel
theorem dL_isPlayed_73 : decode cL_isPlayed 73 = .ok (.iconst 2, 1) := by decide +kernel
theorem dL_isPlayed_74 : decode cL_isPlayed 74 = .ok (.if_icmp .le 11, 3) := by decide +kernel
theorem dL_isPlayed_77 : decode cL_isPlayed 77 = .ok (.aload_n 0, 1) := by decide +kernel
theorem dL_isPlayed_78 : decode cL_isPlayed 78 = .ok (.iconst 2, 1) := by decide +kernel
theorem dL_isPlayed_79 : decode cL_isPlayed 79 = .ok (.invokevirtual 48, 3) := by decide +kernel
theorem dL_isPlayed_82 : decode cL_isPlayed 82 = .ok (.goto 5, 3) := by decide +kernel
theorem dL_isPlayed_85 : decode cL_isPlayed 85 = .ok (.iload 7, 2) := by decide +kernel
theorem dL_isPlayed_87 : decode cL_isPlayed 87 = .ok (.istore 11, 2) := by decide +kernel
theorem dL_isPlayed_89 : decode cL_isPlayed 89 = .ok (.aload_n 0, 1) := by decide +kernel
theorem dL_isPlayed_90 : decode cL_isPlayed 90 = .ok (.iconst 0, 1) := by decide +kernel
theorem dL_isPlayed_91 : decode cL_isPlayed 91 = .ok (.invokevirtual 61, 3) := by decide +kernel
theorem dL_isPlayed_94 : decode cL_isPlayed 94 = .ok (.aload_n 0, 1) := by decide +kernel
theorem dL_isPlayed_95 : decode cL_isPlayed 95 = .ok (.iconst 1, 1) := by decide +kernel
theorem dL_isPlayed_96 : decode cL_isPlayed 96 = .ok (.invokevirtual 61, 3) := by decide +kernel
theorem dL_isPlayed_99 : decode cL_isPlayed 99 = .ok (.iadd, 1) := by decide +kernel
theorem dL_isPlayed_100 : decode cL_isPlayed 100 = .ok (.istore 12, 2) := by decide +kernel
theorem dL_isPlayed_102 : decode cL_isPlayed 102 = .ok (.aload_n 0, 1) := by decide +kernel
theorem dL_isPlayed_103 : decode cL_isPlayed 103 = .ok (.iload 7, 2) := by decide +kernel
theorem dL_isPlayed_105 : decode cL_isPlayed 105 = .ok (.invokestatic 87, 3) := by decide +kernel
theorem dL_isPlayed_108 : decode cL_isPlayed 108 = .ok (.istore 13, 2) := by decide +kernel
theorem dL_isPlayed_110 : decode cL_isPlayed 110 = .ok (.iload 8, 2) := by decide +kernel
theorem dL_isPlayed_112 : decode cL_isPlayed 112 = .ok (.ifCond .ne 35, 3) := by decide +kernel
theorem dL_isPlayed_115 : decode cL_isPlayed 115 = .ok (.iload 13, 2) := by decide +kernel
theorem dL_isPlayed_117 : decode cL_isPlayed 117 = .ok (.bipush (-9), 2) := by decide +kernel
theorem dL_isPlayed_119 : decode cL_isPlayed 119 = .ok (.if_icmp .ne 26, 3) := by decide +kernel
theorem dL_isPlayed_122 : decode cL_isPlayed 122 = .ok (.aload_n 0, 1) := by decide +kernel
theorem dL_isPlayed_123 : decode cL_isPlayed 123 = .ok (.iload_n 2, 1) := by decide +kernel
theorem dL_isPlayed_124 : decode cL_isPlayed 124 = .ok (.invokevirtual 24, 3) := by decide +kernel
theorem dL_isPlayed_127 : decode cL_isPlayed 127 = .ok (.lload 5, 2) := by decide +kernel
theorem dL_isPlayed_129 : decode cL_isPlayed 129 = .ok (.lcmp, 1) := by decide +kernel
theorem dL_isPlayed_130 : decode cL_isPlayed 130 = .ok (.ifCond .ne 15, 3) := by decide +kernel
theorem dL_isPlayed_133 : decode cL_isPlayed 133 = .ok (.aload_n 0, 1) := by decide +kernel
theorem dL_isPlayed_134 : decode cL_isPlayed 134 = .ok (.invokevirtual 45, 3) := by decide +kernel
theorem dL_isPlayed_137 : decode cL_isPlayed 137 = .ok (.iload_n 2, 1) := by decide +kernel
theorem dL_isPlayed_138 : decode cL_isPlayed 138 = .ok (.if_icmp .ne 7, 3) := by decide +kernel
theorem dL_isPlayed_141 : decode cL_isPlayed 141 = .ok (.iconst 1, 1) := by decide +kernel
theorem dL_isPlayed_142 : decode cL_isPlayed 142 = .ok (.goto 4, 3) := by decide +kernel
theorem dL_isPlayed_145 : decode cL_isPlayed 145 = .ok (.iconst 0, 1) := by decide +kernel
theorem dL_isPlayed_146 : decode cL_isPlayed 146 = .ok (.ireturn, 1) := by decide +kernel
theorem dL_isPlayed_147 : decode cL_isPlayed 147 = .ok (.aload_n 0, 1) := by decide +kernel
theorem dL_isPlayed_148 : decode cL_isPlayed 148 = .ok (.iload_n 2, 1) := by decide +kernel
theorem dL_isPlayed_149 : decode cL_isPlayed 149 = .ok (.invokevirtual 24, 3) := by decide +kernel
theorem dL_isPlayed_152 : decode cL_isPlayed 152 = .ok (.lload 5, 2) := by decide +kernel
theorem dL_isPlayed_154 : decode cL_isPlayed 154 = .ok (.lconst 1, 1) := by decide +kernel
theorem dL_isPlayed_155 : decode cL_isPlayed 155 = .ok (.iload 7, 2) := by decide +kernel
theorem dL_isPlayed_157 : decode cL_isPlayed 157 = .ok (.lshl, 1) := by decide +kernel
theorem dL_isPlayed_158 : decode cL_isPlayed 158 = .ok (.lsub, 1) := by decide +kernel
theorem dL_isPlayed_159 : decode cL_isPlayed 159 = .ok (.lcmp, 1) := by decide +kernel
theorem dL_isPlayed_160 : decode cL_isPlayed 160 = .ok (.ifCond .ne 7, 3) := by decide +kernel
theorem dL_isPlayed_163 : decode cL_isPlayed 163 = .ok (.iconst 1, 1) := by decide +kernel
theorem dL_isPlayed_164 : decode cL_isPlayed 164 = .ok (.goto 4, 3) := by decide +kernel
theorem dL_isPlayed_167 : decode cL_isPlayed 167 = .ok (.iconst 0, 1) := by decide +kernel
theorem dL_isPlayed_168 : decode cL_isPlayed 168 = .ok (.istore 14, 2) := by decide +kernel
theorem dL_isPlayed_170 : decode cL_isPlayed 170 = .ok (.iload_n 3, 1) := by decide +kernel
theorem dL_isPlayed_171 : decode cL_isPlayed 171 = .ok (.iconst 3, 1) := by decide +kernel
theorem dL_isPlayed_172 : decode cL_isPlayed 172 = .ok (.if_icmp .ge 52, 3) := by decide +kernel
theorem dL_isPlayed_175 : decode cL_isPlayed 175 = .ok (.iload 14, 2) := by decide +kernel
theorem dL_isPlayed_177 : decode cL_isPlayed 177 = .ok (.ifCond .eq 45, 3) := by decide +kernel
theorem dL_isPlayed_180 : decode cL_isPlayed 180 = .ok (.iload 13, 2) := by decide +kernel
theorem dL_isPlayed_182 : decode cL_isPlayed 182 = .ok (.iconst (-1), 1) := by decide +kernel
theorem dL_isPlayed_183 : decode cL_isPlayed 183 = .ok (.if_icmp .ne 39, 3) := by decide +kernel
theorem dL_isPlayed_186 : decode cL_isPlayed 186 = .ok (.aload_n 0, 1) := by decide +kernel
theorem dL_isPlayed_187 : decode cL_isPlayed 187 = .ok (.invokevirtual 42, 3) := by decide +kernel
theorem dL_isPlayed_190 : decode cL_isPlayed 190 = .ok (.iload_n 3, 1) := by decide +kernel
theorem dL_isPlayed_191 : decode cL_isPlayed 191 = .ok (.iconst 1, 1) := by decide +kernel
theorem dL_isPlayed_192 : decode cL_isPlayed 192 = .ok (.iadd, 1) := by decide +kernel
theorem dL_isPlayed_193 : decode cL_isPlayed 193 = .ok (.if_icmp .ne 29, 3) := by decide +kernel
theorem dL_isPlayed_196 : decode cL_isPlayed 196 = .ok (.aload_n 0, 1) := by decide +kernel
theorem dL_isPlayed_197 : decode cL_isPlayed 197 = .ok (.iload_n 3, 1) := by decide +kernel
theorem dL_isPlayed_198 : decode cL_isPlayed 198 = .ok (.invokevirtual 48, 3) := by decide +kernel
theorem dL_isPlayed_201 : decode cL_isPlayed 201 = .ok (.iload 7, 2) := by decide +kernel
theorem dL_isPlayed_203 : decode cL_isPlayed 203 = .ok (.if_icmp .ne 19, 3) := by decide +kernel
theorem dL_isPlayed_206 : decode cL_isPlayed 206 = .ok (.aload_n 0, 1) := by decide +kernel
theorem dL_isPlayed_207 : decode cL_isPlayed 207 = .ok (.invokevirtual 45, 3) := by decide +kernel
theorem dL_isPlayed_210 : decode cL_isPlayed 210 = .ok (.iload_n 2, 1) := by decide +kernel
theorem dL_isPlayed_211 : decode cL_isPlayed 211 = .ok (.iconst 1, 1) := by decide +kernel
theorem dL_isPlayed_212 : decode cL_isPlayed 212 = .ok (.iadd, 1) := by decide +kernel
theorem dL_isPlayed_213 : decode cL_isPlayed 213 = .ok (.iconst 4, 1) := by decide +kernel
theorem dL_isPlayed_214 : decode cL_isPlayed 214 = .ok (.irem, 1) := by decide +kernel
theorem dL_isPlayed_215 : decode cL_isPlayed 215 = .ok (.if_icmp .ne 7, 3) := by decide +kernel
theorem dL_isPlayed_218 : decode cL_isPlayed 218 = .ok (.iconst 1, 1) := by decide +kernel
theorem dL_isPlayed_219 : decode cL_isPlayed 219 = .ok (.goto 4, 3) := by decide +kernel
theorem dL_isPlayed_222 : decode cL_isPlayed 222 = .ok (.iconst 0, 1) := by decide +kernel
theorem dL_isPlayed_223 : decode cL_isPlayed 223 = .ok (.ireturn, 1) := by decide +kernel
theorem dL_isPlayed_224 : decode cL_isPlayed 224 = .ok (.iconst 3, 1) := by decide +kernel
theorem dL_isPlayed_225 : decode cL_isPlayed 225 = .ok (.aload_n 0, 1) := by decide +kernel
theorem dL_isPlayed_226 : decode cL_isPlayed 226 = .ok (.iload 9, 2) := by decide +kernel
theorem dL_isPlayed_228 : decode cL_isPlayed 228 = .ok (.invokevirtual 91, 3) := by decide +kernel
theorem dL_isPlayed_231 : decode cL_isPlayed 231 = .ok (.aload_n 0, 1) := by decide +kernel
theorem dL_isPlayed_232 : decode cL_isPlayed 232 = .ok (.iload 10, 2) := by decide +kernel
theorem dL_isPlayed_234 : decode cL_isPlayed 234 = .ok (.invokevirtual 91, 3) := by decide +kernel
theorem dL_isPlayed_237 : decode cL_isPlayed 237 = .ok (.iadd, 1) := by decide +kernel
theorem dL_isPlayed_238 : decode cL_isPlayed 238 = .ok (.aload_n 0, 1) := by decide +kernel
theorem dL_isPlayed_239 : decode cL_isPlayed 239 = .ok (.iload 11, 2) := by decide +kernel
theorem dL_isPlayed_241 : decode cL_isPlayed 241 = .ok (.invokevirtual 91, 3) := by decide +kernel
theorem dL_isPlayed_244 : decode cL_isPlayed 244 = .ok (.iadd, 1) := by decide +kernel
theorem dL_isPlayed_245 : decode cL_isPlayed 245 = .ok (.aload_n 0, 1) := by decide +kernel
theorem dL_isPlayed_246 : decode cL_isPlayed 246 = .ok (.iload 7, 2) := by decide +kernel
theorem dL_isPlayed_248 : decode cL_isPlayed 248 = .ok (.invokevirtual 91, 3) := by decide +kernel
theorem dL_isPlayed_251 : decode cL_isPlayed 251 = .ok (.iadd, 1) := by decide +kernel
theorem dL_isPlayed_252 : decode cL_isPlayed 252 = .ok (.imul, 1) := by decide +kernel
theorem dL_isPlayed_253 : decode cL_isPlayed 253 = .ok (.bipush 8, 2) := by decide +kernel
theorem dL_isPlayed_255 : decode cL_isPlayed 255 = .ok (.isub, 1) := by decide +kernel
theorem dL_isPlayed_256 : decode cL_isPlayed 256 = .ok (.istore 15, 2) := by decide +kernel
theorem dL_isPlayed_258 : decode cL_isPlayed 258 = .ok (.iload 14, 2) := by decide +kernel
theorem dL_isPlayed_260 : decode cL_isPlayed 260 = .ok (.ifCond .eq 86, 3) := by decide +kernel
theorem dL_isPlayed_263 : decode cL_isPlayed 263 = .ok (.iload 13, 2) := by decide +kernel
theorem dL_isPlayed_265 : decode cL_isPlayed 265 = .ok (.iload_n 2, 1) := by decide +kernel
theorem dL_isPlayed_266 : decode cL_isPlayed 266 = .ok (.iconst 1, 1) := by decide +kernel
theorem dL_isPlayed_267 : decode cL_isPlayed 267 = .ok (.iadd, 1) := by decide +kernel
theorem dL_isPlayed_268 : decode cL_isPlayed 268 = .ok (.iload 9, 2) := by decide +kernel
theorem dL_isPlayed_270 : decode cL_isPlayed 270 = .ok (.iload 10, 2) := by decide +kernel
theorem dL_isPlayed_272 : decode cL_isPlayed 272 = .ok (.iload 11, 2) := by decide +kernel
theorem dL_isPlayed_274 : decode cL_isPlayed 274 = .ok (.iload 7, 2) := by decide +kernel
theorem dL_isPlayed_276 : decode cL_isPlayed 276 = .ok (.invokestatic 94, 3) := by decide +kernel
theorem dL_isPlayed_279 : decode cL_isPlayed 279 = .ok (.iadd, 1) := by decide +kernel
theorem dL_isPlayed_280 : decode cL_isPlayed 280 = .ok (.iconst 4, 1) := by decide +kernel
theorem dL_isPlayed_281 : decode cL_isPlayed 281 = .ok (.irem, 1) := by decide +kernel
theorem dL_isPlayed_282 : decode cL_isPlayed 282 = .ok (.if_icmp .ne 64, 3) := by decide +kernel
theorem dL_isPlayed_285 : decode cL_isPlayed 285 = .ok (.aload_n 0, 1) := by decide +kernel
theorem dL_isPlayed_286 : decode cL_isPlayed 286 = .ok (.invokevirtual 58, 3) := by decide +kernel
theorem dL_isPlayed_289 : decode cL_isPlayed 289 = .ok (.iload 4, 2) := by decide +kernel
theorem dL_isPlayed_291 : decode cL_isPlayed 291 = .ok (.iconst 1, 1) := by decide +kernel
theorem dL_isPlayed_292 : decode cL_isPlayed 292 = .ok (.iadd, 1) := by decide +kernel
theorem dL_isPlayed_293 : decode cL_isPlayed 293 = .ok (.if_icmp .ne 53, 3) := by decide +kernel
theorem dL_isPlayed_296 : decode cL_isPlayed 296 = .ok (.aload_n 0, 1) := by decide +kernel
theorem dL_isPlayed_297 : decode cL_isPlayed 297 = .ok (.invokevirtual 42, 3) := by decide +kernel
theorem dL_isPlayed_300 : decode cL_isPlayed 300 = .ok (.ifCond .ne 46, 3) := by decide +kernel
theorem dL_isPlayed_303 : decode cL_isPlayed 303 = .ok (.aload_n 0, 1) := by decide +kernel
theorem dL_isPlayed_304 : decode cL_isPlayed 304 = .ok (.invokevirtual 45, 3) := by decide +kernel
theorem dL_isPlayed_307 : decode cL_isPlayed 307 = .ok (.iload 4, 2) := by decide +kernel
theorem dL_isPlayed_309 : decode cL_isPlayed 309 = .ok (.bipush 11, 2) := by decide +kernel
theorem dL_isPlayed_311 : decode cL_isPlayed 311 = .ok (.if_icmp .ne 7, 3) := by decide +kernel
theorem dL_isPlayed_314 : decode cL_isPlayed 314 = .ok (.iconst (-1), 1) := by decide +kernel
theorem dL_isPlayed_315 : decode cL_isPlayed 315 = .ok (.goto 5, 3) := by decide +kernel
theorem dL_isPlayed_318 : decode cL_isPlayed 318 = .ok (.iload 13, 2) := by decide +kernel
theorem dL_isPlayed_320 : decode cL_isPlayed 320 = .ok (.if_icmp .ne 26, 3) := by decide +kernel
theorem dL_isPlayed_323 : decode cL_isPlayed 323 = .ok (.aload_n 0, 1) := by decide +kernel
theorem dL_isPlayed_324 : decode cL_isPlayed 324 = .ok (.iconst 0, 1) := by decide +kernel
theorem dL_isPlayed_325 : decode cL_isPlayed 325 = .ok (.invokevirtual 61, 3) := by decide +kernel
theorem dL_isPlayed_328 : decode cL_isPlayed 328 = .ok (.aload_n 0, 1) := by decide +kernel
theorem dL_isPlayed_329 : decode cL_isPlayed 329 = .ok (.iconst 1, 1) := by decide +kernel
theorem dL_isPlayed_330 : decode cL_isPlayed 330 = .ok (.invokevirtual 61, 3) := by decide +kernel
theorem dL_isPlayed_333 : decode cL_isPlayed 333 = .ok (.iadd, 1) := by decide +kernel
theorem dL_isPlayed_334 : decode cL_isPlayed 334 = .ok (.iload 12, 2) := by decide +kernel
theorem dL_isPlayed_336 : decode cL_isPlayed 336 = .ok (.iload 15, 2) := by decide +kernel
theorem dL_isPlayed_338 : decode cL_isPlayed 338 = .ok (.iadd, 1) := by decide +kernel
theorem dL_isPlayed_339 : decode cL_isPlayed 339 = .ok (.if_icmp .ne 7, 3) := by decide +kernel
theorem dL_isPlayed_342 : decode cL_isPlayed 342 = .ok (.iconst 1, 1) := by decide +kernel
theorem dL_isPlayed_343 : decode cL_isPlayed 343 = .ok (.goto 4, 3) := by decide +kernel
theorem dL_isPlayed_346 : decode cL_isPlayed 346 = .ok (.iconst 0, 1) := by decide +kernel
theorem dL_isPlayed_347 : decode cL_isPlayed 347 = .ok (.ireturn, 1) := by decide +kernel
set_option maxRecDepth 20000 in
theorem ggL_isScored_X6_result : GoodIn wsL_isScored wsX6_result := goodIn_r _ [5, 6, 67, 68, 69, 70, 71, 72, 73, 74, 75, 76, 77, 78, 79, 80, 81, 82, 83, 84, 85, 86, 87] (by decide +kernel) (by decide +kernel)
set_option maxRecDepth 20000 in
theorem gL_isScored_X6_result : GoodIn wsL_isScored (wsV RL 98 RX6 yX6_result wsX6_result) := goodIn_app (goodIn_of _ (by decide +kernel)) ggL_isScored_X6_result
set_option maxRecDepth 20000 in
theorem ggL_isScored_X6_declarer : GoodIn wsL_isScored wsX6_declarer := goodIn_r _ [10, 11, 67, 68, 69, 70, 71, 72, 73, 74, 75, 76, 77, 78, 79, 80, 81, 82, 83, 84] (by decide +kernel) (by decide +kernel)
set_option maxRecDepth 20000 in
theorem gL_isScored_X6_declarer : GoodIn wsL_isScored (wsV RL 71 RX6 yX6_declarer wsX6_declarer) := goodIn_app (goodIn_of _ (by decide +kernel)) ggL_isScored_X6_declarer
set_option maxRecDepth 20000 in
theorem ggL_isScored_X6_partner : GoodIn wsL_isScored wsX6_partner := goodIn_r _ [15, 16, 67, 68, 69, 70, 71, 72, 73, 74, 75, 76, 77, 78, 79, 80, 81, 82, 83, 84] (by decide +kernel) (by decide +kernel)
set_option maxRecDepth 20000 in
theorem gL_isScored_X6_partner : GoodIn wsL_isScored (wsV RL 74 RX6 yX6_partner wsX6_partner) := goodIn_app (goodIn_of _ (by decide +kernel)) ggL_isScored_X6_partner
set_option maxRecDepth 20000 in
theorem ggL_isScored_X6_score : GoodIn wsL_isScored wsX6_score := goodIn_ca (goodIn_r _ [20, 21, 22, 6, 23, 24, 4, 25, 26, 27, 28, 29, 30, 31, 67, 68, 69, 70, 71, 72, 73, 74, 75, 76, 77, 78, 79, 80, 81, 82, 83, 84, 85, 86, 87, 88] (by decide +kernel) (by decide +kernel)) (goodIn_sub (fun _ h => List.mem_cons_of_mem _ (List.mem_append_right _ h)) (by decide +kernel))
set_option maxRecDepth 20000 in
theorem gL_isScored_X6_score : GoodIn wsL_isScored (wsV RL 101 RX6 yX6_score wsX6_score) := goodIn_app (goodIn_of _ (by decide +kernel)) ggL_isScored_X6_score
set_option maxRecDepth 20000 in
theorem ggL_isScored_X6_thirds : GoodIn wsL_isScored wsX6_thirds := goodIn_ca (goodIn_r _ [35, 21, 22, 36, 37, 38, 4, 39, 40, 41, 42, 43, 44, 45, 46, 47, 48, 49, 50, 51, 52, 53, 54, 55, 56, 57, 67, 68, 69, 70, 71, 72, 73, 74, 75, 76, 77, 78, 79, 80, 81, 82, 83, 84, 89] (by decide +kernel) (by decide +kernel)) (goodIn_sub (fun _ h => List.mem_cons_of_mem _ (List.mem_append_right _ h)) (by decide +kernel))
set_option maxRecDepth 20000 in
theorem gL_isScored_X6_thirds : GoodIn wsL_isScored (wsV RL 61 RX6 yX6_thirds wsX6_thirds) := goodIn_app (goodIn_of _ (by decide +kernel)) ggL_isScored_X6_thirds
set_option maxRecDepth 20000 in
theorem ggL_isScored_X6_level : GoodIn wsL_isScored wsX6_level := goodIn_r _ [61, 62, 67, 68, 69, 70, 71, 72, 73, 74, 75, 76, 77, 78, 79, 80, 81, 82, 83, 84, 90, 91, 92] (by decide +kernel) (by decide +kernel)
set_option maxRecDepth 20000 in
theorem gL_isScored_X6_level : GoodIn wsL_isScored (wsV RL 80 RX6 yX6_level wsX6_level) := goodIn_app (goodIn_of _ (by decide +kernel)) ggL_isScored_X6_level
set_option maxRecDepth 20000 in
theorem ggL_isScored_X6_radli : GoodIn wsL_isScored wsX6_radli := goodIn_ca (goodIn_r _ [66, 21, 22, 6, 23, 24, 4, 25, 26, 27, 28, 29, 30, 31, 67, 68, 69, 70, 71, 72, 73, 74, 75, 76, 77, 78, 79, 80, 81, 82, 83, 84, 85, 86, 87, 88] (by decide +kernel) (by decide +kernel)) (goodIn_sub (fun _ h => List.mem_cons_of_mem _ (List.mem_append_right _ h)) (by decide +kernel))
set_option maxRecDepth 20000 in
theorem gL_isScored_X6_radli : GoodIn wsL_isScored (wsV RL 104 RX6 yX6_radli wsX6_radli) := goodIn_app (goodIn_of _ (by decide +kernel)) ggL_isScored_X6_radli
theorem dL_isScored_0 : decode cL_isScored 0 = .ok (.aload_n 0, 1) := by decide +kernel
theorem dL_isScored_1 : decode cL_isScored 1 = .ok (.invokevirtual 98, 3) := by decide +kernel
theorem dL_isScored_4 : decode cL_isScored 4 = .ok (.istore_n 2, 1) := by decide +kernel
theorem dL_isScored_5 : decode cL_isScored 5 = .ok (.iconst 1, 1) := by decide +kernel
theorem dL_isScored_6 : decode cL_isScored 6 = .ok (.istore_n 3, 1) := by decide +kernel
theorem dL_isScored_7 : decode cL_isScored 7 = .ok (.iconst 0, 1) := by decide +kernel
theorem dL_isScored_8 : decode cL_isScored 8 = .ok (.istore 4, 2) := by decide +kernel
theorem dL_isScored_10 : decode cL_isScored 10 = .ok (.iload 4, 2) := by decide +kernel
theorem dL_isScored_12 : decode cL_isScored 12 = .ok (.iconst 4, 1) := by decide +kernel
theorem dL_isScored_13 : decode cL_isScored 13 = .ok (.if_icmp .ge 60, 3) := by decide +kernel
theorem dL_isScored_16 : decode cL_isScored 16 = .ok (.iload 4, 2) := by decide +kernel
theorem dL_isScored_18 : decode cL_isScored 18 = .ok (.aload_n 0, 1) := by decide +kernel
theorem dL_isScored_19 : decode cL_isScored 19 = .ok (.invokevirtual 71, 3) := by decide +kernel
theorem dL_isScored_22 : decode cL_isScored 22 = .ok (.if_icmp .eq 12, 3) := by decide +kernel
theorem dL_isScored_25 : decode cL_isScored 25 = .ok (.iload 4, 2) := by decide +kernel
theorem dL_isScored_27 : decode cL_isScored 27 = .ok (.aload_n 0, 1) := by decide +kernel
theorem dL_isScored_28 : decode cL_isScored 28 = .ok (.invokevirtual 74, 3) := by decide +kernel
theorem dL_isScored_31 : decode cL_isScored 31 = .ok (.if_icmp .ne 7, 3) := by decide +kernel
theorem dL_isScored_34 : decode cL_isScored 34 = .ok (.iload_n 2, 1) := by decide +kernel
theorem dL_isScored_35 : decode cL_isScored 35 = .ok (.goto 4, 3) := by decide +kernel
theorem dL_isScored_38 : decode cL_isScored 38 = .ok (.iconst 0, 1) := by decide +kernel
theorem dL_isScored_39 : decode cL_isScored 39 = .ok (.istore 5, 2) := by decide +kernel
theorem dL_isScored_41 : decode cL_isScored 41 = .ok (.iload_n 3, 1) := by decide +kernel
theorem dL_isScored_42 : decode cL_isScored 42 = .ok (.ifCond .eq 23, 3) := by decide +kernel
theorem dL_isScored_45 : decode cL_isScored 45 = .ok (.aload_n 0, 1) := by decide +kernel
theorem dL_isScored_46 : decode cL_isScored 46 = .ok (.iload 4, 2) := by decide +kernel
theorem dL_isScored_48 : decode cL_isScored 48 = .ok (.invokevirtual 101, 3) := by decide +kernel
theorem dL_isScored_51 : decode cL_isScored 51 = .ok (.aload_n 1, 1) := by decide +kernel
theorem dL_isScored_52 : decode cL_isScored 52 = .ok (.iload 4, 2) := by decide +kernel
theorem dL_isScored_54 : decode cL_isScored 54 = .ok (.iaload, 1) := by decide +kernel
theorem dL_isScored_55 : decode cL_isScored 55 = .ok (.iload 5, 2) := by decide +kernel
theorem dL_isScored_57 : decode cL_isScored 57 = .ok (.iadd, 1) := by decide +kernel
theorem dL_isScored_58 : decode cL_isScored 58 = .ok (.if_icmp .ne 7, 3) := by decide +kernel
theorem dL_isScored_61 : decode cL_isScored 61 = .ok (.iconst 1, 1) := by decide +kernel
theorem dL_isScored_62 : decode cL_isScored 62 = .ok (.goto 4, 3) := by decide +kernel
theorem dL_isScored_65 : decode cL_isScored 65 = .ok (.iconst 0, 1) := by decide +kernel
theorem dL_isScored_66 : decode cL_isScored 66 = .ok (.istore_n 3, 1) := by decide +kernel
theorem dL_isScored_67 : decode cL_isScored 67 = .ok (.iinc 4 1, 3) := by decide +kernel
theorem dL_isScored_70 : decode cL_isScored 70 = .ok (.goto (-60), 3) := by decide +kernel
theorem dL_isScored_73 : decode cL_isScored 73 = .ok (.aload_n 0, 1) := by decide +kernel
theorem dL_isScored_74 : decode cL_isScored 74 = .ok (.iconst 0, 1) := by decide +kernel
theorem dL_isScored_75 : decode cL_isScored 75 = .ok (.invokevirtual 61, 3) := by decide +kernel
theorem dL_isScored_78 : decode cL_isScored 78 = .ok (.istore 4, 2) := by decide +kernel
theorem dL_isScored_80 : decode cL_isScored 80 = .ok (.iload 4, 2) := by decide +kernel
theorem dL_isScored_82 : decode cL_isScored 82 = .ok (.bipush 105, 2) := by decide +kernel
theorem dL_isScored_84 : decode cL_isScored 84 = .ok (.if_icmp .le 7, 3) := by decide +kernel
theorem dL_isScored_87 : decode cL_isScored 87 = .ok (.iconst 1, 1) := by decide +kernel
theorem dL_isScored_88 : decode cL_isScored 88 = .ok (.goto 4, 3) := by decide +kernel
theorem dL_isScored_91 : decode cL_isScored 91 = .ok (.iconst 0, 1) := by decide +kernel
theorem dL_isScored_92 : decode cL_isScored 92 = .ok (.istore 5, 2) := by decide +kernel
theorem dL_isScored_94 : decode cL_isScored 94 = .ok (.aload_n 0, 1) := by decide +kernel
theorem dL_isScored_95 : decode cL_isScored 95 = .ok (.invokevirtual 80, 3) := by decide +kernel
theorem dL_isScored_98 : decode cL_isScored 98 = .ok (.iconst 5, 1) := by decide +kernel
theorem dL_isScored_99 : decode cL_isScored 99 = .ok (.if_icmp .ne 7, 3) := by decide +kernel
theorem dL_isScored_102 : decode cL_isScored 102 = .ok (.iconst 0, 1) := by decide +kernel
theorem dL_isScored_103 : decode cL_isScored 103 = .ok (.goto 23, 3) := by decide +kernel
theorem dL_isScored_106 : decode cL_isScored 106 = .ok (.iload 5, 2) := by decide +kernel
theorem dL_isScored_108 : decode cL_isScored 108 = .ok (.ifCond .eq 11, 3) := by decide +kernel
theorem dL_isScored_111 : decode cL_isScored 111 = .ok (.iload 4, 2) := by decide +kernel
theorem dL_isScored_113 : decode cL_isScored 113 = .ok (.bipush 105, 2) := by decide +kernel
theorem dL_isScored_115 : decode cL_isScored 115 = .ok (.isub, 1) := by decide +kernel
theorem dL_isScored_116 : decode cL_isScored 116 = .ok (.goto 8, 3) := by decide +kernel
theorem dL_isScored_119 : decode cL_isScored 119 = .ok (.bipush 105, 2) := by decide +kernel
theorem dL_isScored_121 : decode cL_isScored 121 = .ok (.iload 4, 2) := by decide +kernel
theorem dL_isScored_123 : decode cL_isScored 123 = .ok (.isub, 1) := by decide +kernel
theorem dL_isScored_124 : decode cL_isScored 124 = .ok (.iconst 3, 1) := by decide +kernel
theorem dL_isScored_125 : decode cL_isScored 125 = .ok (.idiv, 1) := by decide +kernel
theorem dL_isScored_126 : decode cL_isScored 126 = .ok (.istore 6, 2) := by decide +kernel
theorem dL_isScored_128 : decode cL_isScored 128 = .ok (.iload 6, 2) := by decide +kernel
theorem dL_isScored_130 : decode cL_isScored 130 = .ok (.aload_n 0, 1) := by decide +kernel
theorem dL_isScored_131 : decode cL_isScored 131 = .ok (.invokevirtual 80, 3) := by decide +kernel
theorem dL_isScored_134 : decode cL_isScored 134 = .ok (.iconst 4, 1) := by decide +kernel
theorem dL_isScored_135 : decode cL_isScored 135 = .ok (.if_icmp .ne 8, 3) := by decide +kernel
theorem dL_isScored_138 : decode cL_isScored 138 = .ok (.bipush 50, 2) := by decide +kernel
theorem dL_isScored_140 : decode cL_isScored 140 = .ok (.goto 23, 3) := by decide +kernel
theorem dL_isScored_143 : decode cL_isScored 143 = .ok (.aload_n 0, 1) := by decide +kernel
theorem dL_isScored_144 : decode cL_isScored 144 = .ok (.invokevirtual 80, 3) := by decide +kernel
theorem dL_isScored_147 : decode cL_isScored 147 = .ok (.iconst 5, 1) := by decide +kernel
theorem dL_isScored_148 : decode cL_isScored 148 = .ok (.if_icmp .ne 8, 3) := by decide +kernel
theorem dL_isScored_151 : decode cL_isScored 151 = .ok (.bipush 80, 2) := by decide +kernel
theorem dL_isScored_153 : decode cL_isScored 153 = .ok (.goto 10, 3) := by decide +kernel
theorem dL_isScored_156 : decode cL_isScored 156 = .ok (.bipush 10, 2) := by decide +kernel
theorem dL_isScored_158 : decode cL_isScored 158 = .ok (.aload_n 0, 1) := by decide +kernel
theorem dL_isScored_159 : decode cL_isScored 159 = .ok (.invokevirtual 80, 3) := by decide +kernel
theorem dL_isScored_162 : decode cL_isScored 162 = .ok (.imul, 1) := by decide +kernel
theorem dL_isScored_163 : decode cL_isScored 163 = .ok (.iadd, 1) := by decide +kernel
theorem dL_isScored_164 : decode cL_isScored 164 = .ok (.istore 7, 2) := by decide +kernel
theorem dL_isScored_166 : decode cL_isScored 166 = .ok (.iload 5, 2) := by decide +kernel
theorem dL_isScored_168 : decode cL_isScored 168 = .ok (.ifCond .eq 8, 3) := by decide +kernel
theorem dL_isScored_171 : decode cL_isScored 171 = .ok (.iload 7, 2) := by decide +kernel
theorem dL_isScored_173 : decode cL_isScored 173 = .ok (.goto 6, 3) := by decide +kernel
theorem dL_isScored_176 : decode cL_isScored 176 = .ok (.iload 7, 2) := by decide +kernel
theorem dL_isScored_178 : decode cL_isScored 178 = .ok (.ineg, 1) := by decide +kernel
theorem dL_isScored_179 : decode cL_isScored 179 = .ok (.istore 7, 2) := by decide +kernel
theorem dL_isScored_181 : decode cL_isScored 181 = .ok (.aload_n 1, 1) := by decide +kernel
theorem dL_isScored_182 : decode cL_isScored 182 = .ok (.iconst 4, 1) := by decide +kernel
theorem dL_isScored_183 : decode cL_isScored 183 = .ok (.aload_n 0, 1) := by decide +kernel
theorem dL_isScored_184 : decode cL_isScored 184 = .ok (.invokevirtual 71, 3) := by decide +kernel
theorem dL_isScored_187 : decode cL_isScored 187 = .ok (.iadd, 1) := by decide +kernel
theorem dL_isScored_188 : decode cL_isScored 188 = .ok (.iaload, 1) := by decide +kernel
theorem dL_isScored_189 : decode cL_isScored 189 = .ok (.istore 8, 2) := by decide +kernel
theorem dL_isScored_191 : decode cL_isScored 191 = .ok (.iload 8, 2) := by decide +kernel
theorem dL_isScored_193 : decode cL_isScored 193 = .ok (.ifCond .le 9, 3) := by decide +kernel
theorem dL_isScored_196 : decode cL_isScored 196 = .ok (.iload_n 2, 1) := by decide +kernel
theorem dL_isScored_197 : decode cL_isScored 197 = .ok (.iconst 2, 1) := by decide +kernel
theorem dL_isScored_198 : decode cL_isScored 198 = .ok (.idiv, 1) := by decide +kernel
theorem dL_isScored_199 : decode cL_isScored 199 = .ok (.goto 4, 3) := by decide +kernel
theorem dL_isScored_202 : decode cL_isScored 202 = .ok (.iload_n 2, 1) := by decide +kernel
theorem dL_isScored_203 : decode cL_isScored 203 = .ok (.iload 7, 2) := by decide +kernel
theorem dL_isScored_205 : decode cL_isScored 205 = .ok (.isub, 1) := by decide +kernel
theorem dL_isScored_206 : decode cL_isScored 206 = .ok (.istore 9, 2) := by decide +kernel
theorem dL_isScored_208 : decode cL_isScored 208 = .ok (.iload_n 3, 1) := by decide +kernel
theorem dL_isScored_209 : decode cL_isScored 209 = .ok (.ifCond .eq 39, 3) := by decide +kernel
theorem dL_isScored_212 : decode cL_isScored 212 = .ok (.iload 8, 2) := by decide +kernel
theorem dL_isScored_214 : decode cL_isScored 214 = .ok (.ifCond .eq 9, 3) := by decide +kernel
theorem dL_isScored_217 : decode cL_isScored 217 = .ok (.iload_n 2, 1) := by decide +kernel
theorem dL_isScored_218 : decode cL_isScored 218 = .ok (.iconst 2, 1) := by decide +kernel
theorem dL_isScored_219 : decode cL_isScored 219 = .ok (.irem, 1) := by decide +kernel
theorem dL_isScored_220 : decode cL_isScored 220 = .ok (.ifCond .ne 28, 3) := by decide +kernel
theorem dL_isScored_223 : decode cL_isScored 223 = .ok (.iload 9, 2) := by decide +kernel
theorem dL_isScored_225 : decode cL_isScored 225 = .ok (.bipush (-70), 2) := by decide +kernel
theorem dL_isScored_227 : decode cL_isScored 227 = .ok (.if_icmp .lt 21, 3) := by decide +kernel
theorem dL_isScored_230 : decode cL_isScored 230 = .ok (.iload 9, 2) := by decide +kernel
theorem dL_isScored_232 : decode cL_isScored 232 = .ok (.bipush 70, 2) := by decide +kernel
theorem dL_isScored_234 : decode cL_isScored 234 = .ok (.if_icmp .gt 14, 3) := by decide +kernel
theorem dL_isScored_237 : decode cL_isScored 237 = .ok (.iload 9, 2) := by decide +kernel
theorem dL_isScored_239 : decode cL_isScored 239 = .ok (.iconst 5, 1) := by decide +kernel
theorem dL_isScored_240 : decode cL_isScored 240 = .ok (.irem, 1) := by decide +kernel
theorem dL_isScored_241 : decode cL_isScored 241 = .ok (.ifCond .ne 7, 3) := by decide +kernel
theorem dL_isScored_244 : decode cL_isScored 244 = .ok (.iconst 1, 1) := by decide +kernel
theorem dL_isScored_245 : decode cL_isScored 245 = .ok (.goto 4, 3) := by decide +kernel
theorem dL_isScored_248 : decode cL_isScored 248 = .ok (.iconst 0, 1) := by decide +kernel
theorem dL_isScored_249 : decode cL_isScored 249 = .ok (.istore_n 3, 1) := by decide +kernel
theorem dL_isScored_250 : decode cL_isScored 250 = .ok (.iconst 0, 1) := by decide +kernel
theorem dL_isScored_251 : decode cL_isScored 251 = .ok (.istore 10, 2) := by decide +kernel
theorem dL_isScored_253 : decode cL_isScored 253 = .ok (.iload 10, 2) := by decide +kernel
theorem dL_isScored_255 : decode cL_isScored 255 = .ok (.iconst 4, 1) := by decide +kernel
theorem dL_isScored_256 : decode cL_isScored 256 = .ok (.if_icmp .ge 77, 3) := by decide +kernel
theorem dL_isScored_259 : decode cL_isScored 259 = .ok (.iload 10, 2) := by decide +kernel
theorem dL_isScored_261 : decode cL_isScored 261 = .ok (.aload_n 0, 1) := by decide +kernel
theorem dL_isScored_262 : decode cL_isScored 262 = .ok (.invokevirtual 71, 3) := by decide +kernel
theorem dL_isScored_265 : decode cL_isScored 265 = .ok (.if_icmp .ne 17, 3) := by decide +kernel
theorem dL_isScored_268 : decode cL_isScored 268 = .ok (.iload 8, 2) := by decide +kernel
theorem dL_isScored_270 : decode cL_isScored 270 = .ok (.ifCond .le 12, 3) := by decide +kernel
theorem dL_isScored_273 : decode cL_isScored 273 = .ok (.iload 5, 2) := by decide +kernel
theorem dL_isScored_275 : decode cL_isScored 275 = .ok (.ifCond .eq 7, 3) := by decide +kernel
theorem dL_isScored_278 : decode cL_isScored 278 = .ok (.iconst 1, 1) := by decide +kernel
theorem dL_isScored_279 : decode cL_isScored 279 = .ok (.goto 4, 3) := by decide +kernel
theorem dL_isScored_282 : decode cL_isScored 282 = .ok (.iconst 0, 1) := by decide +kernel
theorem dL_isScored_283 : decode cL_isScored 283 = .ok (.istore 11, 2) := by decide +kernel
theorem dL_isScored_285 : decode cL_isScored 285 = .ok (.iload_n 3, 1) := by decide +kernel
theorem dL_isScored_286 : decode cL_isScored 286 = .ok (.ifCond .eq 39, 3) := by decide +kernel
theorem dL_isScored_289 : decode cL_isScored 289 = .ok (.aload_n 0, 1) := by decide +kernel
theorem dL_isScored_290 : decode cL_isScored 290 = .ok (.iload 10, 2) := by decide +kernel
theorem dL_isScored_292 : decode cL_isScored 292 = .ok (.invokevirtual 104, 3) := by decide +kernel
theorem dL_isScored_295 : decode cL_isScored 295 = .ok (.aload_n 1, 1) := by decide +kernel
theorem dL_isScored_296 : decode cL_isScored 296 = .ok (.iconst 4, 1) := by decide +kernel
theorem dL_isScored_297 : decode cL_isScored 297 = .ok (.iload 10, 2) := by decide +kernel
theorem dL_isScored_299 : decode cL_isScored 299 = .ok (.iadd, 1) := by decide +kernel
theorem dL_isScored_300 : decode cL_isScored 300 = .ok (.iaload, 1) := by decide +kernel
theorem dL_isScored_301 : decode cL_isScored 301 = .ok (.iload 11, 2) := by decide +kernel
theorem dL_isScored_303 : decode cL_isScored 303 = .ok (.isub, 1) := by decide +kernel
theorem dL_isScored_304 : decode cL_isScored 304 = .ok (.aload_n 0, 1) := by decide +kernel
theorem dL_isScored_305 : decode cL_isScored 305 = .ok (.invokevirtual 80, 3) := by decide +kernel
theorem dL_isScored_308 : decode cL_isScored 308 = .ok (.iconst 3, 1) := by decide +kernel
theorem dL_isScored_309 : decode cL_isScored 309 = .ok (.if_icmp .le 7, 3) := by decide +kernel
theorem dL_isScored_312 : decode cL_isScored 312 = .ok (.iconst 1, 1) := by decide +kernel
theorem dL_isScored_313 : decode cL_isScored 313 = .ok (.goto 4, 3) := by decide +kernel
theorem dL_isScored_316 : decode cL_isScored 316 = .ok (.iconst 0, 1) := by decide +kernel
theorem dL_isScored_317 : decode cL_isScored 317 = .ok (.iadd, 1) := by decide +kernel
theorem dL_isScored_318 : decode cL_isScored 318 = .ok (.if_icmp .ne 7, 3) := by decide +kernel
theorem dL_isScored_321 : decode cL_isScored 321 = .ok (.iconst 1, 1) := by decide +kernel
theorem dL_isScored_322 : decode cL_isScored 322 = .ok (.goto 4, 3) := by decide +kernel
theorem dL_isScored_325 : decode cL_isScored 325 = .ok (.iconst 0, 1) := by decide +kernel
theorem dL_isScored_326 : decode cL_isScored 326 = .ok (.istore_n 3, 1) := by decide +kernel
theorem dL_isScored_327 : decode cL_isScored 327 = .ok (.iinc 10 1, 3) := by decide +kernel
theorem dL_isScored_330 : decode cL_isScored 330 = .ok (.goto (-77), 3) := by decide +kernel
theorem dL_isScored_333 : decode cL_isScored 333 = .ok (.iload_n 3, 1) := by decide +kernel
theorem dL_isScored_334 : decode cL_isScored 334 = .ok (.ireturn, 1) := by decide +kernel
set_option maxRecDepth 20000 in
theorem ggL_law_X6_init : GoodIn wsL_law wsX6_init := goodIn_r _ [9, 10, 11, 12, 13, 14, 15, 16, 17, 18, 19, 20, 21, 22, 23, 24, 25, 26, 27, 28, 29, 30, 31, 32, 33, 34, 35, 36, 37, 38, 39, 40, 41, 42, 43, 44, 45, 46, 47, 48, 49, 50, 51, 52, 53, 54, 55, 56, 3, 57, 58, 59, 60, 61, 62, 63, 64, 65, 66, 67, 68, 69, 70, 71, 72, 73, 74, 75, 76, 77, 78, 79, 80, 81, 82, 83, 84, 517, 499, 500, 501, 502, 503, 504, 505, 506, 507, 508, 509, 510, 511, 512, 513, 514, 515, 516, 518, 519, 520, 521, 522, 523, 524, 525, 526, 527, 528] (by decide +kernel) (by decide +kernel)
set_option maxRecDepth 20000 in
theorem gL_law_X6_init : GoodIn wsL_law (wsX6_init) := ggL_law_X6_init
set_option maxRecDepth 20000 in
theorem ggL_law_L_areHands : GoodIn wsL_law wsL_areHands := goodIn_ca (goodIn_r _ [88, 89, 90, 91, 2, 92, 93, 94, 32, 95, 96, 97, 98, 99, 100, 31, 101, 84, 102, 103, 87, 104, 105, 106, 107, 108, 35, 109, 110, 111, 112, 113, 114, 115, 116, 117, 118, 119, 36, 24, 120, 121, 122, 23, 123, 124, 68, 125, 126, 127, 47, 128, 57, 129, 130, 131, 132, 133, 134, 135, 136, 137, 138, 139, 140, 141, 142, 143, 144, 145, 146, 147, 148, 149, 150, 151, 152, 153, 154, 155, 156, 157, 158, 159, 160, 161, 162, 163, 164, 165, 166, 167, 168, 499, 500, 501, 502, 503, 504, 505, 506, 507, 508, 509, 510, 511, 512, 513, 514, 515, 516, 527, 521, 522, 523, 528] (by decide +kernel) (by decide +kernel)) (goodIn_sub (fun _ h => List.mem_append_left _ (List.mem_append_left _ (List.mem_append_right _ h))) (by decide +kernel))
set_option maxRecDepth 20000 in
theorem gL_law_L_areHands : GoodIn wsL_law (va_wsS RL 108 yL_areHands wsL_areHands) := goodIn_app (goodIn_of _ (by decide +kernel)) ggL_law_L_areHands
set_option maxRecDepth 20000 in
theorem ggL_law_L_areSides : GoodIn wsL_law wsL_areSides := goodIn_ca (goodIn_r _ [171, 172, 173, 174, 2, 175, 93, 94, 33, 176, 177, 178, 98, 99, 100, 31, 101, 84, 179, 180, 181, 139, 140, 141, 182, 183, 184, 185, 129, 130, 164, 165, 166, 167, 168, 186, 187, 188, 189, 190, 191, 192, 193, 194, 195, 196, 37, 35, 39, 95, 96, 97, 197, 198, 199, 200, 38, 32, 201, 202, 203, 204, 205, 206, 207, 208, 40, 209, 210, 211, 212, 105, 106, 107, 108, 213, 214, 215, 216, 217, 218, 219, 220, 221, 222, 223, 224, 20, 499, 500, 501, 502, 503, 504, 505, 506, 507, 508, 509, 510, 511, 512, 513, 514, 515, 516, 527, 518, 519, 520] (by decide +kernel) (by decide +kernel)) (goodIn_sub (fun _ h => List.mem_append_left _ (List.mem_append_left _ (List.mem_append_right _ h))) (by decide +kernel))
set_option maxRecDepth 20000 in
theorem gL_law_L_areSides : GoodIn wsL_law (va_wsS RL 112 yL_areSides wsL_areSides) := goodIn_app (goodIn_of _ (by decide +kernel)) ggL_law_L_areSides
set_option maxRecDepth 20000 in
theorem ggL_law_X6_phase : GoodIn wsL_law wsX6_phase := goodIn_r _ [108, 35, 499, 500, 501, 502, 503, 504, 505, 506, 507, 508, 509, 510, 511, 512, 513, 514, 515, 516] (by decide +kernel) (by decide +kernel)
set_option maxRecDepth 20000 in
theorem gL_law_X6_phase : GoodIn wsL_law (wsV RL 34 RX6 yX6_phase wsX6_phase) := goodIn_app (goodIn_of _ (by decide +kernel)) ggL_law_X6_phase
set_option maxRecDepth 20000 in
theorem ggL_law_X6_score : GoodIn wsL_law wsX6_score := goodIn_ca (goodIn_r _ [228, 93, 94, 28, 95, 96, 2, 97, 229, 126, 127, 47, 128, 57, 499, 500, 501, 502, 503, 504, 505, 506, 507, 508, 509, 510, 511, 512, 513, 514, 515, 516, 524, 525, 526, 528] (by decide +kernel) (by decide +kernel)) (goodIn_sub (fun _ h => List.mem_append_left _ (List.mem_append_left _ (List.mem_append_right _ h))) (by decide +kernel))
set_option maxRecDepth 20000 in
theorem gL_law_X6_score : GoodIn wsL_law (wsV RL 101 RX6 yX6_score wsX6_score) := goodIn_app (goodIn_of _ (by decide +kernel)) ggL_law_X6_score
set_option maxRecDepth 20000 in
theorem ggL_law_X6_radli : GoodIn wsL_law wsX6_radli := goodIn_ca (goodIn_r _ [233, 93, 94, 28, 95, 96, 2, 97, 229, 126, 127, 47, 128, 57, 499, 500, 501, 502, 503, 504, 505, 506, 507, 508, 509, 510, 511, 512, 513, 514, 515, 516, 524, 525, 526, 528] (by decide +kernel) (by decide +kernel)) (goodIn_sub (fun _ h => List.mem_append_left _ (List.mem_append_left _ (List.mem_append_right _ h))) (by decide +kernel))
set_option maxRecDepth 20000 in
theorem gL_law_X6_radli : GoodIn wsL_law (wsV RL 104 RX6 yX6_radli wsX6_radli) := goodIn_app (goodIn_of _ (by decide +kernel)) ggL_law_X6_radli
set_option maxRecDepth 20000 in
theorem ggL_law_X6_deal : GoodIn wsL_law wsX6_deal := goodIn_ca (goodIn_ca (goodIn_r _ [237, 238, 239, 240, 241, 242, 35, 34, 16, 36, 243, 244, 2, 245, 246, 247, 248, 249, 20, 24, 37, 38, 39, 40, 250, 251, 252, 168, 33, 253, 254, 255, 19, 256, 257, 258, 62, 259, 260, 261, 23, 262, 263, 124, 264, 265, 266, 31, 267, 84, 268, 269, 270, 15, 271, 48, 272, 273, 274, 275, 47, 276, 57, 277, 278, 279, 280, 281, 126, 127, 128, 282, 283, 284, 285, 32, 286, 287, 288, 289, 290, 291, 292, 499, 500, 501, 502, 503, 504, 505, 506, 507, 508, 509, 510, 511, 512, 513, 514, 515, 516, 518, 519, 520, 521, 522, 523, 527, 517, 528] (by decide +kernel) (by decide +kernel)) (goodIn_sub (fun _ h => List.mem_append_left _ (List.mem_append_right _ h)) (by decide +kernel))) (goodIn_sub (fun _ h => List.mem_append_right _ h) (by decide +kernel))
set_option maxRecDepth 20000 in
theorem gL_law_X6_deal : GoodIn wsL_law (wsV RL 118 RX6 yX6_deal wsX6_deal) := goodIn_app (goodIn_of _ (by decide +kernel)) ggL_law_X6_deal
set_option maxRecDepth 20000 in
theorem ggL_law_X6_talonAt : GoodIn wsL_law wsX6_talonAt := goodIn_ca (goodIn_ca (goodIn_r _ [296, 93, 94, 240, 241, 34, 16, 297, 298, 299, 15, 300, 48, 281, 126, 127, 47, 128, 57, 499, 500, 501, 502, 503, 504, 505, 506, 507, 508, 509, 510, 511, 512, 513, 514, 515, 516, 517, 528] (by decide +kernel) (by decide +kernel)) (goodIn_sub (fun _ h => List.mem_append_left _ (List.mem_append_left _ (List.mem_append_right _ h))) (by decide +kernel))) (goodIn_sub (fun _ h => List.mem_append_right _ h) (by decide +kernel))
set_option maxRecDepth 20000 in
theorem gL_law_X6_talonAt : GoodIn wsL_law (wsV RL 121 RX6 yX6_talonAt wsX6_talonAt) := goodIn_app (goodIn_of _ (by decide +kernel)) ggL_law_X6_talonAt
set_option maxRecDepth 20000 in
theorem ggL_law_X6_turn : GoodIn wsL_law wsX6_turn := goodIn_r _ [149, 36, 499, 500, 501, 502, 503, 504, 505, 506, 507, 508, 509, 510, 511, 512, 513, 514, 515, 516] (by decide +kernel) (by decide +kernel)
set_option maxRecDepth 20000 in
theorem gL_law_X6_turn : GoodIn wsL_law (wsV RL 45 RX6 yX6_turn wsX6_turn) := goodIn_app (goodIn_of _ (by decide +kernel)) ggL_law_X6_turn
set_option maxRecDepth 20000 in
theorem ggL_law_X6_hand : GoodIn wsL_law wsX6_hand := goodIn_ca (goodIn_r _ [92, 93, 94, 32, 95, 96, 2, 97, 98, 99, 100, 31, 101, 84, 499, 500, 501, 502, 503, 504, 505, 506, 507, 508, 509, 510, 511, 512, 513, 514, 515, 516, 527] (by decide +kernel) (by decide +kernel)) (goodIn_sub (fun _ h => List.mem_append_left _ (List.mem_append_left _ (List.mem_append_right _ h))) (by decide +kernel))
set_option maxRecDepth 20000 in
theorem gL_law_X6_hand : GoodIn wsL_law (wsV RL 24 RX6 yX6_hand wsX6_hand) := goodIn_app (goodIn_of _ (by decide +kernel)) ggL_law_X6_hand
set_option maxRecDepth 20000 in
theorem ggL_law_L_bits : GoodIn wsL_law wsL_bits := goodIn_r _ [104] (by decide +kernel) (by decide +kernel)
set_option maxRecDepth 20000 in
theorem gL_law_L_bits : GoodIn wsL_law (va_wsS RL 28 yL_bits wsL_bits) := goodIn_app (goodIn_of _ (by decide +kernel)) ggL_law_L_bits
set_option maxRecDepth 20000 in
theorem ggL_law_X6_level : GoodIn wsL_law wsX6_level := goodIn_r _ [224, 20, 499, 500, 501, 502, 503, 504, 505, 506, 507, 508, 509, 510, 511, 512, 513, 514, 515, 516, 518, 519, 520] (by decide +kernel) (by decide +kernel)
set_option maxRecDepth 20000 in
theorem gL_law_X6_level : GoodIn wsL_law (wsV RL 80 RX6 yX6_level wsX6_level) := goodIn_app (goodIn_of _ (by decide +kernel)) ggL_law_X6_level
set_option maxRecDepth 20000 in
theorem ggL_law_X6_tricks : GoodIn wsL_law wsX6_tricks := goodIn_r _ [167, 168, 499, 500, 501, 502, 503, 504, 505, 506, 507, 508, 509, 510, 511, 512, 513, 514, 515, 516] (by decide +kernel) (by decide +kernel)
set_option maxRecDepth 20000 in
theorem gL_law_X6_tricks : GoodIn wsL_law (wsV RL 58 RX6 yX6_tricks wsX6_tricks) := goodIn_app (goodIn_of _ (by decide +kernel)) ggL_law_X6_tricks
set_option maxRecDepth 20000 in
theorem ggL_law_L_bids : GoodIn wsL_law wsL_bids := goodIn_ca (goodIn_ca (goodIn_r _ [303, 304, 305, 306, 307, 2, 308, 238, 239, 240, 241, 35, 20, 36, 309, 310, 311, 19, 312, 257, 258, 62, 313, 314, 315, 316, 317, 318, 319, 320, 321, 322, 323, 324, 325, 326, 327, 328, 329, 330, 331, 332, 333, 334, 335, 37, 336, 337, 338, 339, 33, 251, 286, 34, 264, 265, 266, 31, 267, 84, 340, 341, 342, 343, 244, 245, 344, 345, 346, 347, 499, 500, 501, 502, 503, 504, 505, 506, 507, 508, 509, 510, 511, 512, 513, 514, 515, 516, 518, 519, 520, 527] (by decide +kernel) (by decide +kernel)) (goodIn_sub (fun _ h => List.mem_append_left _ (List.mem_append_right _ h)) (by decide +kernel))) (goodIn_sub (fun _ h => List.mem_append_right _ h) (by decide +kernel))
set_option maxRecDepth 20000 in
theorem gL_law_L_bids : GoodIn wsL_law (va_wsS RL 124 yL_bids wsL_bids) := goodIn_app (goodIn_of _ (by decide +kernel)) ggL_law_L_bids
set_option maxRecDepth 20000 in
theorem ggL_law_X6_declarer : GoodIn wsL_law wsX6_declarer := goodIn_r _ [212, 37, 499, 500, 501, 502, 503, 504, 505, 506, 507, 508, 509, 510, 511, 512, 513, 514, 515, 516] (by decide +kernel) (by decide +kernel)
set_option maxRecDepth 20000 in
theorem gL_law_X6_declarer : GoodIn wsL_law (wsV RL 71 RX6 yX6_declarer wsX6_declarer) := goodIn_app (goodIn_of _ (by decide +kernel)) ggL_law_X6_declarer
set_option maxRecDepth 20000 in
theorem ggL_law_X6_call : GoodIn wsL_law wsX6_call := goodIn_ca (goodIn_ca (goodIn_r _ [351, 93, 94, 240, 241, 35, 38, 39, 37, 40, 201, 202, 203, 2, 204, 352, 353, 354, 355, 32, 98, 99, 100, 31, 101, 84, 139, 140, 141, 499, 500, 501, 502, 503, 504, 505, 506, 507, 508, 509, 510, 511, 512, 513, 514, 515, 516, 527] (by decide +kernel) (by decide +kernel)) (goodIn_sub (fun _ h => List.mem_append_left _ (List.mem_append_left _ (List.mem_append_right _ h))) (by decide +kernel))) (goodIn_sub (fun _ h => List.mem_append_right _ h) (by decide +kernel))
set_option maxRecDepth 20000 in
theorem gL_law_X6_call : GoodIn wsL_law (wsV RL 127 RX6 yX6_call wsX6_call) := goodIn_app (goodIn_of _ (by decide +kernel)) ggL_law_X6_call
set_option maxRecDepth 20000 in
theorem ggL_law_X6_called : GoodIn wsL_law wsX6_called := goodIn_r _ [220, 38, 499, 500, 501, 502, 503, 504, 505, 506, 507, 508, 509, 510, 511, 512, 513, 514, 515, 516] (by decide +kernel) (by decide +kernel)
set_option maxRecDepth 20000 in
theorem gL_law_X6_called : GoodIn wsL_law (wsV RL 77 RX6 yX6_called wsX6_called) := goodIn_app (goodIn_of _ (by decide +kernel)) ggL_law_X6_called
set_option maxRecDepth 20000 in
theorem ggL_law_X6_partner : GoodIn wsL_law wsX6_partner := goodIn_r _ [216, 40, 499, 500, 501, 502, 503, 504, 505, 506, 507, 508, 509, 510, 511, 512, 513, 514, 515, 516] (by decide +kernel) (by decide +kernel)
set_option maxRecDepth 20000 in
theorem gL_law_X6_partner : GoodIn wsL_law (wsV RL 74 RX6 yX6_partner wsX6_partner) := goodIn_app (goodIn_of _ (by decide +kernel)) ggL_law_X6_partner
set_option maxRecDepth 20000 in
theorem ggL_law_L_has : GoodIn wsL_law wsL_has := goodIn_r _ [163] (by decide +kernel) (by decide +kernel)
set_option maxRecDepth 20000 in
theorem gL_law_L_has : GoodIn wsL_law (va_wsS RL 54 yL_has wsL_has) := goodIn_app (goodIn_of _ (by decide +kernel)) ggL_law_L_has
set_option maxRecDepth 20000 in
theorem ggL_law_X6_take : GoodIn wsL_law wsX6_take := goodIn_ca (goodIn_ca (goodIn_r _ [359, 93, 94, 240, 241, 35, 20, 16, 32, 37, 286, 360, 250, 361, 362, 363, 2, 364, 365, 366, 367, 368, 369, 370, 287, 288, 289, 15, 290, 48, 281, 126, 127, 47, 128, 57, 291, 292, 98, 99, 100, 31, 101, 84, 264, 265, 266, 267, 499, 500, 501, 502, 503, 504, 505, 506, 507, 508, 509, 510, 511, 512, 513, 514, 515, 516, 518, 519, 520, 517, 528, 527] (by decide +kernel) (by decide +kernel)) (goodIn_sub (fun _ h => List.mem_append_left _ (List.mem_append_left _ (List.mem_append_right _ h))) (by decide +kernel))) (goodIn_sub (fun _ h => List.mem_append_right _ h) (by decide +kernel))
set_option maxRecDepth 20000 in
theorem gL_law_X6_take : GoodIn wsL_law (wsV RL 130 RX6 yX6_take wsX6_take) := goodIn_app (goodIn_of _ (by decide +kernel)) ggL_law_X6_take
set_option maxRecDepth 20000 in
theorem ggL_law_L_drawn : GoodIn wsL_law wsL_drawn := goodIn_r _ [373, 161, 162, 87, 163] (by decide +kernel) (by decide +kernel)
set_option maxRecDepth 20000 in
theorem gL_law_L_drawn : GoodIn wsL_law (va_wsS RL 83 yL_drawn wsL_drawn) := goodIn_app (goodIn_of _ (by decide +kernel)) ggL_law_L_drawn
set_option maxRecDepth 20000 in
theorem ggL_law_L_lays : GoodIn wsL_law wsL_lays := goodIn_ca (goodIn_ca (goodIn_r _ [376, 304, 377, 378, 379, 2, 380, 93, 94, 240, 241, 35, 32, 37, 360, 251, 250, 113, 114, 115, 98, 99, 100, 31, 101, 84, 139, 140, 141, 381, 382, 383, 182, 183, 184, 185, 129, 130, 384, 291, 292, 264, 265, 266, 267, 336, 337, 338, 339, 33, 286, 34, 36, 499, 500, 501, 502, 503, 504, 505, 506, 507, 508, 509, 510, 511, 512, 513, 514, 515, 516, 527] (by decide +kernel) (by decide +kernel)) (goodIn_sub (fun _ h => List.mem_append_left _ (List.mem_append_left _ (List.mem_append_right _ h))) (by decide +kernel))) (goodIn_sub (fun _ h => List.mem_append_right _ h) (by decide +kernel))
set_option maxRecDepth 20000 in
theorem gL_law_L_lays : GoodIn wsL_law (va_wsS RL 133 yL_lays wsL_lays) := goodIn_app (goodIn_of _ (by decide +kernel)) ggL_law_L_lays
set_option maxRecDepth 20000 in
theorem ggL_law_X6_valueOf : GoodIn wsL_law wsX6_valueOf := goodIn_ca (goodIn_r _ [388, 93, 94, 113, 114, 2, 115, 182, 183, 184, 185, 129, 130] (by decide +kernel) (by decide +kernel)) (goodIn_sub (fun _ h => List.mem_append_left _ (List.mem_append_left _ (List.mem_append_right _ h))) (by decide +kernel))
set_option maxRecDepth 20000 in
theorem gL_law_X6_valueOf : GoodIn wsL_law (wsV RL 91 RX6 yX6_valueOf wsX6_valueOf) := goodIn_app (goodIn_of _ (by decide +kernel)) ggL_law_X6_valueOf
set_option maxRecDepth 20000 in
theorem ggL_law_X6_thirds : GoodIn wsL_law wsX6_thirds := goodIn_ca (goodIn_r _ [175, 93, 94, 33, 176, 177, 2, 178, 98, 99, 100, 31, 101, 84, 179, 180, 181, 139, 140, 141, 182, 183, 184, 185, 129, 130, 499, 500, 501, 502, 503, 504, 505, 506, 507, 508, 509, 510, 511, 512, 513, 514, 515, 516, 527] (by decide +kernel) (by decide +kernel)) (goodIn_sub (fun _ h => List.mem_append_left _ (List.mem_append_left _ (List.mem_append_right _ h))) (by decide +kernel))
set_option maxRecDepth 20000 in
theorem gL_law_X6_thirds : GoodIn wsL_law (wsV RL 61 RX6 yX6_thirds wsX6_thirds) := goodIn_app (goodIn_of _ (by decide +kernel)) ggL_law_X6_thirds
set_option maxRecDepth 20000 in
theorem ggL_law_X6_inTrick : GoodIn wsL_law wsX6_inTrick := goodIn_r _ [145, 24, 499, 500, 501, 502, 503, 504, 505, 506, 507, 508, 509, 510, 511, 512, 513, 514, 515, 516, 521, 522, 523] (by decide +kernel) (by decide +kernel)
set_option maxRecDepth 20000 in
theorem gL_law_X6_inTrick : GoodIn wsL_law (wsV RL 42 RX6 yX6_inTrick wsX6_inTrick) := goodIn_app (goodIn_of _ (by decide +kernel)) ggL_law_X6_inTrick
set_option maxRecDepth 20000 in
theorem ggL_law_L_announces : GoodIn wsL_law wsL_announces := goodIn_ca (goodIn_ca (goodIn_r _ [391, 304, 392, 393, 394, 2, 395, 93, 94, 240, 241, 35, 168, 24, 20, 252, 396, 397, 398, 399, 400, 318, 319, 320, 321, 322, 323, 499, 500, 501, 502, 503, 504, 505, 506, 507, 508, 509, 510, 511, 512, 513, 514, 515, 516, 521, 522, 523, 518, 519, 520] (by decide +kernel) (by decide +kernel)) (goodIn_sub (fun _ h => List.mem_append_left _ (List.mem_append_left _ (List.mem_append_right _ h))) (by decide +kernel))) (goodIn_sub (fun _ h => List.mem_append_right _ h) (by decide +kernel))
set_option maxRecDepth 20000 in
theorem gL_law_L_announces : GoodIn wsL_law (va_wsS RL 136 yL_announces wsL_announces) := goodIn_app (goodIn_of _ (by decide +kernel)) ggL_law_L_announces
set_option maxRecDepth 20000 in
theorem ggL_law_X6_playLowest : GoodIn wsL_law wsX6_playLowest := goodIn_ca (goodIn_ca (goodIn_r _ [404, 238, 239, 240, 241, 35, 116, 117, 118, 2, 119, 32, 36, 24, 98, 99, 100, 31, 101, 84, 120, 121, 122, 23, 123, 124, 68, 125, 126, 127, 47, 128, 57, 129, 130, 131, 132, 133, 134, 135, 136, 137, 138, 405, 406, 407, 139, 140, 141, 408, 409, 410, 411, 360, 384, 291, 292, 264, 265, 266, 267, 412, 413, 414, 415, 416, 274, 275, 276, 243, 244, 245, 417, 418, 419, 420, 421, 422, 423, 424, 425, 426, 427, 263, 428, 429, 430, 431, 33, 168, 205, 206, 207, 208, 37, 40, 432, 433, 434, 435, 436, 437, 438, 439, 20, 28, 179, 180, 181, 182, 183, 184, 185, 440, 441, 442, 443, 444, 55, 445, 446, 447, 448, 449, 450, 451, 452, 453, 454, 455, 456, 457, 458, 459, 396, 397, 398, 399, 252, 460, 461, 462, 463, 38, 201, 202, 203, 204, 464, 465, 466, 27, 467, 76, 468, 469, 470, 471, 472, 473, 474, 75, 475, 476, 477, 478, 324, 325, 326, 327, 259, 260, 261, 262, 499, 500, 501, 502, 503, 504, 505, 506, 507, 508, 509, 510, 511, 512, 513, 514, 515, 516, 527, 521, 522, 523, 528, 518, 519, 520, 524, 525, 526] (by decide +kernel) (by decide +kernel)) (goodIn_sub (fun _ h => List.mem_append_left _ (List.mem_append_right _ h)) (by decide +kernel))) (goodIn_sub (fun _ h => List.mem_append_right _ h) (by decide +kernel))
set_option maxRecDepth 20000 in
theorem gL_law_X6_playLowest : GoodIn wsL_law (wsV RL 139 RX6 yX6_playLowest wsX6_playLowest) := goodIn_app (goodIn_of _ (by decide +kernel)) ggL_law_X6_playLowest
set_option maxRecDepth 20000 in
theorem ggL_law_L_isPlayed : GoodIn wsL_law wsL_isPlayed := goodIn_ca (goodIn_ca (goodIn_r _ [481, 146, 147, 148, 2, 149, 36, 142, 143, 144, 145, 24, 164, 165, 166, 167, 168, 89, 90, 91, 92, 93, 94, 32, 95, 96, 97, 98, 99, 100, 31, 101, 84, 371, 372, 87, 373, 161, 162, 163, 109, 110, 111, 112, 113, 114, 115, 116, 117, 118, 119, 35, 120, 121, 122, 23, 123, 124, 68, 125, 126, 127, 47, 128, 57, 129, 130, 131, 132, 133, 134, 135, 136, 137, 138, 139, 140, 141, 150, 151, 152, 153, 154, 155, 156, 157, 172, 173, 174, 175, 33, 176, 177, 178, 179, 180, 181, 182, 183, 184, 185, 482, 483, 484, 304, 485, 486, 487, 488, 240, 241, 408, 409, 410, 411, 360, 384, 291, 292, 264, 265, 266, 267, 412, 413, 414, 415, 416, 274, 275, 276, 243, 244, 245, 417, 418, 419, 420, 421, 422, 423, 424, 425, 426, 427, 263, 428, 429, 430, 431, 205, 206, 207, 208, 37, 40, 432, 433, 434, 435, 436, 437, 438, 439, 20, 28, 440, 441, 442, 443, 444, 55, 445, 446, 447, 448, 449, 450, 451, 452, 453, 454, 455, 456, 457, 458, 459, 396, 397, 398, 399, 252, 460, 461, 462, 463, 38, 201, 202, 203, 204, 464, 465, 466, 27, 467, 76, 468, 469, 470, 471, 472, 473, 474, 75, 475, 476, 477, 478, 324, 325, 326, 327, 259, 260, 261, 262, 385, 386, 387, 388, 489, 490, 491, 158, 159, 160, 499, 500, 501, 502, 503, 504, 505, 506, 507, 508, 509, 510, 511, 512, 513, 514, 515, 516, 521, 522, 523, 527, 528, 518, 519, 520, 524, 525, 526] (by decide +kernel) (by decide +kernel)) (goodIn_sub (fun _ h => List.mem_append_left _ (List.mem_append_left _ (List.mem_append_right _ h))) (by decide +kernel))) (goodIn_sub (fun _ h => List.mem_append_right _ h) (by decide +kernel))
set_option maxRecDepth 20000 in
theorem gL_law_L_isPlayed : GoodIn wsL_law (va_wsS RL 142 yL_isPlayed wsL_isPlayed) := goodIn_app (goodIn_of _ (by decide +kernel)) ggL_law_L_isPlayed
set_option maxRecDepth 20000 in
theorem ggL_law_L_isScored : GoodIn wsL_law wsL_isScored := goodIn_ca (goodIn_r _ [494, 495, 496, 497, 2, 498, 28, 209, 210, 211, 212, 37, 213, 214, 215, 216, 40, 225, 226, 227, 228, 93, 94, 95, 96, 97, 229, 126, 127, 47, 128, 57, 172, 173, 174, 175, 33, 176, 177, 178, 98, 99, 100, 31, 101, 84, 179, 180, 181, 139, 140, 141, 182, 183, 184, 185, 129, 130, 221, 222, 223, 224, 20, 230, 231, 232, 233, 499, 500, 501, 502, 503, 504, 505, 506, 507, 508, 509, 510, 511, 512, 513, 514, 515, 516, 524, 525, 526, 528, 527, 518, 519, 520] (by decide +kernel) (by decide +kernel)) (goodIn_sub (fun _ h => List.mem_append_left _ (List.mem_append_left _ (List.mem_append_right _ h))) (by decide +kernel))
set_option maxRecDepth 20000 in
theorem gL_law_L_isScored : GoodIn wsL_law (va_wsS RL 146 yL_isScored wsL_isScored) := goodIn_app (goodIn_of _ (by decide +kernel)) ggL_law_L_isScored
theorem dL_law_0 : decode cL_law 0 = .ok (.new 8, 3) := by decide +kernel
theorem dL_law_3 : decode cL_law 3 = .ok (.dup, 1) := by decide +kernel
theorem dL_law_4 : decode cL_law 4 = .ok (.invokespecial 107, 3) := by decide +kernel
theorem dL_law_7 : decode cL_law 7 = .ok (.astore_n 1, 1) := by decide +kernel
theorem dL_law_8 : decode cL_law 8 = .ok (.bipush 8, 2) := by decide +kernel
theorem dL_law_10 : decode cL_law 10 = .ok (.newarray .int, 2) := by decide +kernel
theorem dL_law_12 : decode cL_law 12 = .ok (.astore_n 2, 1) := by decide +kernel
theorem dL_law_13 : decode cL_law 13 = .ok (.iconst 0, 1) := by decide +kernel
theorem dL_law_14 : decode cL_law 14 = .ok (.istore_n 3, 1) := by decide +kernel
theorem dL_law_15 : decode cL_law 15 = .ok (.aload_n 1, 1) := by decide +kernel
theorem dL_law_16 : decode cL_law 16 = .ok (.invokestatic 108, 3) := by decide +kernel
theorem dL_law_19 : decode cL_law 19 = .ok (.ifCond .eq 14, 3) := by decide +kernel
theorem dL_law_22 : decode cL_law 22 = .ok (.aload_n 1, 1) := by decide +kernel
theorem dL_law_23 : decode cL_law 23 = .ok (.invokestatic 112, 3) := by decide +kernel
theorem dL_law_26 : decode cL_law 26 = .ok (.ifCond .eq 7, 3) := by decide +kernel
theorem dL_law_29 : decode cL_law 29 = .ok (.iconst 1, 1) := by decide +kernel
theorem dL_law_30 : decode cL_law 30 = .ok (.goto 4, 3) := by decide +kernel
theorem dL_law_33 : decode cL_law 33 = .ok (.iconst 0, 1) := by decide +kernel
theorem dL_law_34 : decode cL_law 34 = .ok (.istore 4, 2) := by decide +kernel
theorem dL_law_36 : decode cL_law 36 = .ok (.aload_n 0, 1) := by decide +kernel
theorem dL_law_37 : decode cL_law 37 = .ok (.arraylength, 1) := by decide +kernel
theorem dL_law_38 : decode cL_law 38 = .ok (.bipush 60, 2) := by decide +kernel
theorem dL_law_40 : decode cL_law 40 = .ok (.if_icmp .ge 9, 3) := by decide +kernel
theorem dL_law_43 : decode cL_law 43 = .ok (.sipush 240, 3) := by decide +kernel
theorem dL_law_46 : decode cL_law 46 = .ok (.goto 20, 3) := by decide +kernel
theorem dL_law_49 : decode cL_law 49 = .ok (.aload_n 0, 1) := by decide +kernel
theorem dL_law_50 : decode cL_law 50 = .ok (.arraylength, 1) := by decide +kernel
theorem dL_law_51 : decode cL_law 51 = .ok (.bipush 120, 2) := by decide +kernel
theorem dL_law_53 : decode cL_law 53 = .ok (.if_icmp .ge 10, 3) := by decide +kernel
theorem dL_law_56 : decode cL_law 56 = .ok (.iconst 4, 1) := by decide +kernel
theorem dL_law_57 : decode cL_law 57 = .ok (.aload_n 0, 1) := by decide +kernel
theorem dL_law_58 : decode cL_law 58 = .ok (.arraylength, 1) := by decide +kernel
theorem dL_law_59 : decode cL_law 59 = .ok (.imul, 1) := by decide +kernel
theorem dL_law_60 : decode cL_law 60 = .ok (.goto 6, 3) := by decide +kernel
theorem dL_law_63 : decode cL_law 63 = .ok (.sipush 480, 3) := by decide +kernel
theorem dL_law_66 : decode cL_law 66 = .ok (.istore 5, 2) := by decide +kernel
theorem dL_law_68 : decode cL_law 68 = .ok (.iconst 0, 1) := by decide +kernel
theorem dL_law_69 : decode cL_law 69 = .ok (.istore 6, 2) := by decide +kernel
theorem dL_law_71 : decode cL_law 71 = .ok (.iload 6, 2) := by decide +kernel
theorem dL_law_73 : decode cL_law 73 = .ok (.iload 5, 2) := by decide +kernel
theorem dL_law_75 : decode cL_law 75 = .ok (.if_icmp .ge 1021, 3) := by decide +kernel
theorem dL_law_78 : decode cL_law 78 = .ok (.iload 4, 2) := by decide +kernel
theorem dL_law_80 : decode cL_law 80 = .ok (.ifCond .eq 1016, 3) := by decide +kernel
theorem dL_law_83 : decode cL_law 83 = .ok (.iload 6, 2) := by decide +kernel
theorem dL_law_85 : decode cL_law 85 = .ok (.aload_n 0, 1) := by decide +kernel
theorem dL_law_86 : decode cL_law 86 = .ok (.arraylength, 1) := by decide +kernel
theorem dL_law_87 : decode cL_law 87 = .ok (.if_icmp .ge 10, 3) := by decide +kernel
theorem dL_law_90 : decode cL_law 90 = .ok (.aload_n 0, 1) := by decide +kernel
theorem dL_law_91 : decode cL_law 91 = .ok (.iload 6, 2) := by decide +kernel
theorem dL_law_93 : decode cL_law 93 = .ok (.iaload, 1) := by decide +kernel
theorem dL_law_94 : decode cL_law 94 = .ok (.goto 21, 3) := by decide +kernel
theorem dL_law_97 : decode cL_law 97 = .ok (.ldc 115, 2) := by decide +kernel
theorem dL_law_99 : decode cL_law 99 = .ok (.iload 6, 2) := by decide +kernel
theorem dL_law_101 : decode cL_law 101 = .ok (.imul, 1) := by decide +kernel
theorem dL_law_102 : decode cL_law 102 = .ok (.iload 6, 2) := by decide +kernel
theorem dL_law_104 : decode cL_law 104 = .ok (.imul, 1) := by decide +kernel
theorem dL_law_105 : decode cL_law 105 = .ok (.sipush 27011, 3) := by decide +kernel
theorem dL_law_108 : decode cL_law 108 = .ok (.iload 6, 2) := by decide +kernel
theorem dL_law_110 : decode cL_law 110 = .ok (.imul, 1) := by decide +kernel
theorem dL_law_111 : decode cL_law 111 = .ok (.iadd, 1) := by decide +kernel
theorem dL_law_112 : decode cL_law 112 = .ok (.bipush 28, 2) := by decide +kernel
theorem dL_law_114 : decode cL_law 114 = .ok (.iadd, 1) := by decide +kernel
theorem dL_law_115 : decode cL_law 115 = .ok (.istore 7, 2) := by decide +kernel
theorem dL_law_117 : decode cL_law 117 = .ok (.iload 7, 2) := by decide +kernel
theorem dL_law_119 : decode cL_law 119 = .ok (.iconst 4, 1) := by decide +kernel
theorem dL_law_120 : decode cL_law 120 = .ok (.ishr, 1) := by decide +kernel
theorem dL_law_121 : decode cL_law 121 = .ok (.ldc 116, 2) := by decide +kernel
theorem dL_law_123 : decode cL_law 123 = .ok (.iand, 1) := by decide +kernel
theorem dL_law_124 : decode cL_law 124 = .ok (.istore 8, 2) := by decide +kernel
theorem dL_law_126 : decode cL_law 126 = .ok (.aload_n 1, 1) := by decide +kernel
theorem dL_law_127 : decode cL_law 127 = .ok (.invokevirtual 34, 3) := by decide +kernel
theorem dL_law_130 : decode cL_law 130 = .ok (.istore 9, 2) := by decide +kernel
theorem dL_law_132 : decode cL_law 132 = .ok (.iload 9, 2) := by decide +kernel
theorem dL_law_134 : decode cL_law 134 = .ok (.ifCond .ne 161, 3) := by decide +kernel
theorem dL_law_137 : decode cL_law 137 = .ok (.iconst 0, 1) := by decide +kernel
theorem dL_law_138 : decode cL_law 138 = .ok (.istore 10, 2) := by decide +kernel
theorem dL_law_140 : decode cL_law 140 = .ok (.iload 10, 2) := by decide +kernel
theorem dL_law_142 : decode cL_law 142 = .ok (.iconst 4, 1) := by decide +kernel
theorem dL_law_143 : decode cL_law 143 = .ok (.if_icmp .ge 31, 3) := by decide +kernel
theorem dL_law_146 : decode cL_law 146 = .ok (.aload_n 2, 1) := by decide +kernel
theorem dL_law_147 : decode cL_law 147 = .ok (.iload 10, 2) := by decide +kernel
theorem dL_law_149 : decode cL_law 149 = .ok (.aload_n 1, 1) := by decide +kernel
theorem dL_law_150 : decode cL_law 150 = .ok (.iload 10, 2) := by decide +kernel
theorem dL_law_152 : decode cL_law 152 = .ok (.invokevirtual 101, 3) := by decide +kernel
theorem dL_law_155 : decode cL_law 155 = .ok (.iastore, 1) := by decide +kernel
theorem dL_law_156 : decode cL_law 156 = .ok (.aload_n 2, 1) := by decide +kernel
theorem dL_law_157 : decode cL_law 157 = .ok (.iconst 4, 1) := by decide +kernel
theorem dL_law_158 : decode cL_law 158 = .ok (.iload 10, 2) := by decide +kernel
theorem dL_law_160 : decode cL_law 160 = .ok (.iadd, 1) := by decide +kernel
theorem dL_law_161 : decode cL_law 161 = .ok (.aload_n 1, 1) := by decide +kernel
theorem dL_law_162 : decode cL_law 162 = .ok (.iload 10, 2) := by decide +kernel
theorem dL_law_164 : decode cL_law 164 = .ok (.invokevirtual 104, 3) := by decide +kernel
theorem dL_law_167 : decode cL_law 167 = .ok (.iastore, 1) := by decide +kernel
theorem dL_law_168 : decode cL_law 168 = .ok (.iinc 10 1, 3) := by decide +kernel
theorem dL_law_171 : decode cL_law 171 = .ok (.goto (-31), 3) := by decide +kernel
theorem dL_law_174 : decode cL_law 174 = .ok (.aload_n 1, 1) := by decide +kernel
theorem dL_law_175 : decode cL_law 175 = .ok (.iload 8, 2) := by decide +kernel
theorem dL_law_177 : decode cL_law 177 = .ok (.ldc 117, 2) := by decide +kernel
theorem dL_law_179 : decode cL_law 179 = .ok (.iand, 1) := by decide +kernel
theorem dL_law_180 : decode cL_law 180 = .ok (.invokevirtual 118, 3) := by decide +kernel
theorem dL_law_183 : decode cL_law 183 = .ok (.istore 10, 2) := by decide +kernel
theorem dL_law_185 : decode cL_law 185 = .ok (.lconst 0, 1) := by decide +kernel
theorem dL_law_186 : decode cL_law 186 = .ok (.lstore 11, 2) := by decide +kernel
theorem dL_law_188 : decode cL_law 188 = .ok (.iconst 0, 1) := by decide +kernel
theorem dL_law_189 : decode cL_law 189 = .ok (.istore 13, 2) := by decide +kernel
theorem dL_law_191 : decode cL_law 191 = .ok (.iload 13, 2) := by decide +kernel
theorem dL_law_193 : decode cL_law 193 = .ok (.bipush 6, 2) := by decide +kernel
theorem dL_law_195 : decode cL_law 195 = .ok (.if_icmp .ge 22, 3) := by decide +kernel
theorem dL_law_198 : decode cL_law 198 = .ok (.lload 11, 2) := by decide +kernel
theorem dL_law_200 : decode cL_law 200 = .ok (.lconst 1, 1) := by decide +kernel
theorem dL_law_201 : decode cL_law 201 = .ok (.aload_n 1, 1) := by decide +kernel
theorem dL_law_202 : decode cL_law 202 = .ok (.iload 13, 2) := by decide +kernel
theorem dL_law_204 : decode cL_law 204 = .ok (.invokevirtual 121, 3) := by decide +kernel
theorem dL_law_207 : decode cL_law 207 = .ok (.lshl, 1) := by decide +kernel
theorem dL_law_208 : decode cL_law 208 = .ok (.lor, 1) := by decide +kernel
theorem dL_law_209 : decode cL_law 209 = .ok (.lstore 11, 2) := by decide +kernel
theorem dL_law_211 : decode cL_law 211 = .ok (.iinc 13 1, 3) := by decide +kernel
theorem dL_law_214 : decode cL_law 214 = .ok (.goto (-23), 3) := by decide +kernel
theorem dL_law_217 : decode cL_law 217 = .ok (.iload 10, 2) := by decide +kernel
theorem dL_law_219 : decode cL_law 219 = .ok (.iload_n 3, 1) := by decide +kernel
theorem dL_law_220 : decode cL_law 220 = .ok (.iconst 4, 1) := by decide +kernel
theorem dL_law_221 : decode cL_law 221 = .ok (.irem, 1) := by decide +kernel
theorem dL_law_222 : decode cL_law 222 = .ok (.if_icmp .ne 64, 3) := by decide +kernel
theorem dL_law_225 : decode cL_law 225 = .ok (.aload_n 1, 1) := by decide +kernel
theorem dL_law_226 : decode cL_law 226 = .ok (.invokevirtual 45, 3) := by decide +kernel
theorem dL_law_229 : decode cL_law 229 = .ok (.iload 10, 2) := by decide +kernel
theorem dL_law_231 : decode cL_law 231 = .ok (.if_icmp .ne 55, 3) := by decide +kernel
theorem dL_law_234 : decode cL_law 234 = .ok (.lload 11, 2) := by decide +kernel
theorem dL_law_236 : decode cL_law 236 = .ok (.aload_n 1, 1) := by decide +kernel
theorem dL_law_237 : decode cL_law 237 = .ok (.iconst 0, 1) := by decide +kernel
theorem dL_law_238 : decode cL_law 238 = .ok (.invokevirtual 24, 3) := by decide +kernel
theorem dL_law_241 : decode cL_law 241 = .ok (.lor, 1) := by decide +kernel
theorem dL_law_242 : decode cL_law 242 = .ok (.aload_n 1, 1) := by decide +kernel
theorem dL_law_243 : decode cL_law 243 = .ok (.iconst 1, 1) := by decide +kernel
theorem dL_law_244 : decode cL_law 244 = .ok (.invokevirtual 24, 3) := by decide +kernel
theorem dL_law_247 : decode cL_law 247 = .ok (.lor, 1) := by decide +kernel
theorem dL_law_248 : decode cL_law 248 = .ok (.aload_n 1, 1) := by decide +kernel
theorem dL_law_249 : decode cL_law 249 = .ok (.iconst 2, 1) := by decide +kernel
theorem dL_law_250 : decode cL_law 250 = .ok (.invokevirtual 24, 3) := by decide +kernel
theorem dL_law_253 : decode cL_law 253 = .ok (.lor, 1) := by decide +kernel
theorem dL_law_254 : decode cL_law 254 = .ok (.aload_n 1, 1) := by decide +kernel
theorem dL_law_255 : decode cL_law 255 = .ok (.iconst 3, 1) := by decide +kernel
theorem dL_law_256 : decode cL_law 256 = .ok (.invokevirtual 24, 3) := by decide +kernel
theorem dL_law_259 : decode cL_law 259 = .ok (.lor, 1) := by decide +kernel
theorem dL_law_260 : decode cL_law 260 = .ok (.invokestatic 28, 3) := by decide +kernel
theorem dL_law_263 : decode cL_law 263 = .ok (.bipush 54, 2) := by decide +kernel
theorem dL_law_265 : decode cL_law 265 = .ok (.if_icmp .ne 21, 3) := by decide +kernel
theorem dL_law_268 : decode cL_law 268 = .ok (.aload_n 1, 1) := by decide +kernel
theorem dL_law_269 : decode cL_law 269 = .ok (.invokevirtual 80, 3) := by decide +kernel
theorem dL_law_272 : decode cL_law 272 = .ok (.ifCond .ne 14, 3) := by decide +kernel
theorem dL_law_275 : decode cL_law 275 = .ok (.aload_n 1, 1) := by decide +kernel
theorem dL_law_276 : decode cL_law 276 = .ok (.invokevirtual 58, 3) := by decide +kernel
theorem dL_law_279 : decode cL_law 279 = .ok (.ifCond .ne 7, 3) := by decide +kernel
theorem dL_law_282 : decode cL_law 282 = .ok (.iconst 1, 1) := by decide +kernel
theorem dL_law_283 : decode cL_law 283 = .ok (.goto 4, 3) := by decide +kernel
theorem dL_law_286 : decode cL_law 286 = .ok (.iconst 0, 1) := by decide +kernel
theorem dL_law_287 : decode cL_law 287 = .ok (.istore 4, 2) := by decide +kernel
theorem dL_law_289 : decode cL_law 289 = .ok (.iinc 3 1, 3) := by decide +kernel
theorem dL_law_292 : decode cL_law 292 = .ok (.goto 751, 3) := by decide +kernel
theorem dL_law_295 : decode cL_law 295 = .ok (.iload 9, 2) := by decide +kernel
theorem dL_law_297 : decode cL_law 297 = .ok (.iconst 1, 1) := by decide +kernel
theorem dL_law_298 : decode cL_law 298 = .ok (.if_icmp .ne 195, 3) := by decide +kernel
theorem dL_law_301 : decode cL_law 301 = .ok (.iload 7, 2) := by decide +kernel
theorem dL_law_303 : decode cL_law 303 = .ok (.bipush 15, 2) := by decide +kernel
theorem dL_law_305 : decode cL_law 305 = .ok (.iand, 1) := by decide +kernel
theorem dL_law_306 : decode cL_law 306 = .ok (.bipush 6, 2) := by decide +kernel
theorem dL_law_308 : decode cL_law 308 = .ok (.if_icmp .ge 7, 3) := by decide +kernel
theorem dL_law_311 : decode cL_law 311 = .ok (.iconst 0, 1) := by decide +kernel
theorem dL_law_312 : decode cL_law 312 = .ok (.goto 8, 3) := by decide +kernel
theorem dL_law_315 : decode cL_law 315 = .ok (.iload 8, 2) := by decide +kernel
theorem dL_law_317 : decode cL_law 317 = .ok (.bipush 6, 2) := by decide +kernel
theorem dL_law_319 : decode cL_law 319 = .ok (.irem, 1) := by decide +kernel
theorem dL_law_320 : decode cL_law 320 = .ok (.istore 10, 2) := by decide +kernel
theorem dL_law_322 : decode cL_law 322 = .ok (.aload_n 1, 1) := by decide +kernel
theorem dL_law_323 : decode cL_law 323 = .ok (.invokevirtual 80, 3) := by decide +kernel
theorem dL_law_326 : decode cL_law 326 = .ok (.istore 11, 2) := by decide +kernel
theorem dL_law_328 : decode cL_law 328 = .ok (.aload_n 1, 1) := by decide +kernel
theorem dL_law_329 : decode cL_law 329 = .ok (.invokevirtual 45, 3) := by decide +kernel
theorem dL_law_332 : decode cL_law 332 = .ok (.istore 12, 2) := by decide +kernel
theorem dL_law_334 : decode cL_law 334 = .ok (.aload_n 1, 1) := by decide +kernel
theorem dL_law_335 : decode cL_law 335 = .ok (.iload 10, 2) := by decide +kernel
theorem dL_law_337 : decode cL_law 337 = .ok (.invokestatic 124, 3) := by decide +kernel
theorem dL_law_340 : decode cL_law 340 = .ok (.istore 13, 2) := by decide +kernel
theorem dL_law_342 : decode cL_law 342 = .ok (.iload 10, 2) := by decide +kernel
theorem dL_law_344 : decode cL_law 344 = .ok (.ifCond .le 34, 3) := by decide +kernel
theorem dL_law_347 : decode cL_law 347 = .ok (.iload 10, 2) := by decide +kernel
theorem dL_law_349 : decode cL_law 349 = .ok (.iload 11, 2) := by decide +kernel
theorem dL_law_351 : decode cL_law 351 = .ok (.if_icmp .gt 27, 3) := by decide +kernel
theorem dL_law_354 : decode cL_law 354 = .ok (.iload 13, 2) := by decide +kernel
theorem dL_law_356 : decode cL_law 356 = .ok (.bipush (-3), 2) := by decide +kernel
theorem dL_law_358 : decode cL_law 358 = .ok (.if_icmp .ne 16, 3) := by decide +kernel
theorem dL_law_361 : decode cL_law 361 = .ok (.aload_n 1, 1) := by decide +kernel
theorem dL_law_362 : decode cL_law 362 = .ok (.invokevirtual 45, 3) := by decide +kernel
theorem dL_law_365 : decode cL_law 365 = .ok (.iload 12, 2) := by decide +kernel
theorem dL_law_367 : decode cL_law 367 = .ok (.if_icmp .ne 7, 3) := by decide +kernel
theorem dL_law_370 : decode cL_law 370 = .ok (.iconst 1, 1) := by decide +kernel
theorem dL_law_371 : decode cL_law 371 = .ok (.goto 117, 3) := by decide +kernel
theorem dL_law_374 : decode cL_law 374 = .ok (.iconst 0, 1) := by decide +kernel
theorem dL_law_375 : decode cL_law 375 = .ok (.goto 113, 3) := by decide +kernel
theorem dL_law_378 : decode cL_law 378 = .ok (.aload_n 1, 1) := by decide +kernel
theorem dL_law_379 : decode cL_law 379 = .ok (.invokevirtual 80, 3) := by decide +kernel
theorem dL_law_382 : decode cL_law 382 = .ok (.iload 10, 2) := by decide +kernel
theorem dL_law_384 : decode cL_law 384 = .ok (.ifCond .le 8, 3) := by decide +kernel
theorem dL_law_387 : decode cL_law 387 = .ok (.iload 10, 2) := by decide +kernel
theorem dL_law_389 : decode cL_law 389 = .ok (.goto 5, 3) := by decide +kernel
theorem dL_law_392 : decode cL_law 392 = .ok (.iload 11, 2) := by decide +kernel
theorem dL_law_394 : decode cL_law 394 = .ok (.if_icmp .ne 93, 3) := by decide +kernel
theorem dL_law_397 : decode cL_law 397 = .ok (.iload 13, 2) := by decide +kernel
theorem dL_law_399 : decode cL_law 399 = .ok (.aload_n 1, 1) := by decide +kernel
theorem dL_law_400 : decode cL_law 400 = .ok (.invokevirtual 34, 3) := by decide +kernel
theorem dL_law_403 : decode cL_law 403 = .ok (.if_icmp .ne 84, 3) := by decide +kernel
theorem dL_law_406 : decode cL_law 406 = .ok (.iload 13, 2) := by decide +kernel
theorem dL_law_408 : decode cL_law 408 = .ok (.iconst 1, 1) := by decide +kernel
theorem dL_law_409 : decode cL_law 409 = .ok (.if_icmp .ne 22, 3) := by decide +kernel
theorem dL_law_412 : decode cL_law 412 = .ok (.aload_n 1, 1) := by decide +kernel
theorem dL_law_413 : decode cL_law 413 = .ok (.invokevirtual 45, 3) := by decide +kernel
theorem dL_law_416 : decode cL_law 416 = .ok (.iload 12, 2) := by decide +kernel
theorem dL_law_418 : decode cL_law 418 = .ok (.if_icmp .eq 69, 3) := by decide +kernel
theorem dL_law_421 : decode cL_law 421 = .ok (.aload_n 1, 1) := by decide +kernel
theorem dL_law_422 : decode cL_law 422 = .ok (.invokevirtual 71, 3) := by decide +kernel
theorem dL_law_425 : decode cL_law 425 = .ok (.ifCond .ge 62, 3) := by decide +kernel
theorem dL_law_428 : decode cL_law 428 = .ok (.goto 55, 3) := by decide +kernel
theorem dL_law_431 : decode cL_law 431 = .ok (.iload 13, 2) := by decide +kernel
theorem dL_law_433 : decode cL_law 433 = .ok (.ifCond .ne 13, 3) := by decide +kernel
theorem dL_law_436 : decode cL_law 436 = .ok (.aload_n 1, 1) := by decide +kernel
theorem dL_law_437 : decode cL_law 437 = .ok (.invokevirtual 80, 3) := by decide +kernel
theorem dL_law_440 : decode cL_law 440 = .ok (.ifCond .ne 47, 3) := by decide +kernel
theorem dL_law_443 : decode cL_law 443 = .ok (.goto 40, 3) := by decide +kernel
theorem dL_law_446 : decode cL_law 446 = .ok (.aload_n 1, 1) := by decide +kernel
theorem dL_law_447 : decode cL_law 447 = .ok (.invokevirtual 71, 3) := by decide +kernel
theorem dL_law_450 : decode cL_law 450 = .ok (.ifCond .lt 37, 3) := by decide +kernel
theorem dL_law_453 : decode cL_law 453 = .ok (.iload 13, 2) := by decide +kernel
theorem dL_law_455 : decode cL_law 455 = .ok (.aload_n 1, 1) := by decide +kernel
theorem dL_law_456 : decode cL_law 456 = .ok (.invokevirtual 80, 3) := by decide +kernel
theorem dL_law_459 : decode cL_law 459 = .ok (.iconst 4, 1) := by decide +kernel
theorem dL_law_460 : decode cL_law 460 = .ok (.if_icmp .ge 7, 3) := by decide +kernel
theorem dL_law_463 : decode cL_law 463 = .ok (.iconst 2, 1) := by decide +kernel
theorem dL_law_464 : decode cL_law 464 = .ok (.goto 16, 3) := by decide +kernel
theorem dL_law_467 : decode cL_law 467 = .ok (.aload_n 1, 1) := by decide +kernel
theorem dL_law_468 : decode cL_law 468 = .ok (.invokevirtual 80, 3) := by decide +kernel
theorem dL_law_471 : decode cL_law 471 = .ok (.iconst 4, 1) := by decide +kernel
theorem dL_law_472 : decode cL_law 472 = .ok (.if_icmp .ne 7, 3) := by decide +kernel
theorem dL_law_475 : decode cL_law 475 = .ok (.iconst 3, 1) := by decide +kernel
theorem dL_law_476 : decode cL_law 476 = .ok (.goto 4, 3) := by decide +kernel
theorem dL_law_479 : decode cL_law 479 = .ok (.iconst 5, 1) := by decide +kernel
theorem dL_law_480 : decode cL_law 480 = .ok (.if_icmp .ne 7, 3) := by decide +kernel
theorem dL_law_483 : decode cL_law 483 = .ok (.iconst 1, 1) := by decide +kernel
theorem dL_law_484 : decode cL_law 484 = .ok (.goto 4, 3) := by decide +kernel
theorem dL_law_487 : decode cL_law 487 = .ok (.iconst 0, 1) := by decide +kernel
theorem dL_law_488 : decode cL_law 488 = .ok (.istore 4, 2) := by decide +kernel
theorem dL_law_490 : decode cL_law 490 = .ok (.goto 553, 3) := by decide +kernel
theorem dL_law_493 : decode cL_law 493 = .ok (.iload 9, 2) := by decide +kernel
theorem dL_law_495 : decode cL_law 495 = .ok (.iconst 2, 1) := by decide +kernel
theorem dL_law_496 : decode cL_law 496 = .ok (.if_icmp .ne 130, 3) := by decide +kernel
theorem dL_law_499 : decode cL_law 499 = .ok (.iload 8, 2) := by decide +kernel
theorem dL_law_501 : decode cL_law 501 = .ok (.iconst 3, 1) := by decide +kernel
theorem dL_law_502 : decode cL_law 502 = .ok (.iand, 1) := by decide +kernel
theorem dL_law_503 : decode cL_law 503 = .ok (.istore 10, 2) := by decide +kernel
theorem dL_law_505 : decode cL_law 505 = .ok (.bipush 8, 2) := by decide +kernel
theorem dL_law_507 : decode cL_law 507 = .ok (.iload 10, 2) := by decide +kernel
theorem dL_law_509 : decode cL_law 509 = .ok (.imul, 1) := by decide +kernel
theorem dL_law_510 : decode cL_law 510 = .ok (.bipush 7, 2) := by decide +kernel
theorem dL_law_512 : decode cL_law 512 = .ok (.iadd, 1) := by decide +kernel
theorem dL_law_513 : decode cL_law 513 = .ok (.istore 11, 2) := by decide +kernel
theorem dL_law_515 : decode cL_law 515 = .ok (.aload_n 1, 1) := by decide +kernel
theorem dL_law_516 : decode cL_law 516 = .ok (.iload 10, 2) := by decide +kernel
theorem dL_law_518 : decode cL_law 518 = .ok (.invokevirtual 127, 3) := by decide +kernel
theorem dL_law_521 : decode cL_law 521 = .ok (.iconst 3, 1) := by decide +kernel
theorem dL_law_522 : decode cL_law 522 = .ok (.if_icmp .ne 39, 3) := by decide +kernel
theorem dL_law_525 : decode cL_law 525 = .ok (.aload_n 1, 1) := by decide +kernel
theorem dL_law_526 : decode cL_law 526 = .ok (.invokevirtual 77, 3) := by decide +kernel
theorem dL_law_529 : decode cL_law 529 = .ok (.iload 10, 2) := by decide +kernel
theorem dL_law_531 : decode cL_law 531 = .ok (.if_icmp .ne 30, 3) := by decide +kernel
theorem dL_law_534 : decode cL_law 534 = .ok (.aload_n 1, 1) := by decide +kernel
theorem dL_law_535 : decode cL_law 535 = .ok (.invokevirtual 74, 3) := by decide +kernel
theorem dL_law_538 : decode cL_law 538 = .ok (.ifCond .lt 19, 3) := by decide +kernel
theorem dL_law_541 : decode cL_law 541 = .ok (.aload_n 1, 1) := by decide +kernel
theorem dL_law_542 : decode cL_law 542 = .ok (.aload_n 1, 1) := by decide +kernel
theorem dL_law_543 : decode cL_law 543 = .ok (.invokevirtual 74, 3) := by decide +kernel
theorem dL_law_546 : decode cL_law 546 = .ok (.invokevirtual 24, 3) := by decide +kernel
theorem dL_law_549 : decode cL_law 549 = .ok (.iload 11, 2) := by decide +kernel
theorem dL_law_551 : decode cL_law 551 = .ok (.invokestatic 54, 3) := by decide +kernel
theorem dL_law_554 : decode cL_law 554 = .ok (.ifCond .eq 7, 3) := by decide +kernel
theorem dL_law_557 : decode cL_law 557 = .ok (.iconst 1, 1) := by decide +kernel
theorem dL_law_558 : decode cL_law 558 = .ok (.goto 4, 3) := by decide +kernel
theorem dL_law_561 : decode cL_law 561 = .ok (.iconst 0, 1) := by decide +kernel
theorem dL_law_562 : decode cL_law 562 = .ok (.istore 4, 2) := by decide +kernel
theorem dL_law_564 : decode cL_law 564 = .ok (.iconst 0, 1) := by decide +kernel
theorem dL_law_565 : decode cL_law 565 = .ok (.istore 12, 2) := by decide +kernel
theorem dL_law_567 : decode cL_law 567 = .ok (.iload 12, 2) := by decide +kernel
theorem dL_law_569 : decode cL_law 569 = .ok (.iconst 4, 1) := by decide +kernel
theorem dL_law_570 : decode cL_law 570 = .ok (.if_icmp .ge 53, 3) := by decide +kernel
theorem dL_law_573 : decode cL_law 573 = .ok (.iload 4, 2) := by decide +kernel
theorem dL_law_575 : decode cL_law 575 = .ok (.ifCond .eq 39, 3) := by decide +kernel
theorem dL_law_578 : decode cL_law 578 = .ok (.aload_n 1, 1) := by decide +kernel
theorem dL_law_579 : decode cL_law 579 = .ok (.iload 12, 2) := by decide +kernel
theorem dL_law_581 : decode cL_law 581 = .ok (.invokevirtual 24, 3) := by decide +kernel
theorem dL_law_584 : decode cL_law 584 = .ok (.iload 11, 2) := by decide +kernel
theorem dL_law_586 : decode cL_law 586 = .ok (.invokestatic 54, 3) := by decide +kernel
theorem dL_law_589 : decode cL_law 589 = .ok (.ifCond .eq 21, 3) := by decide +kernel
theorem dL_law_592 : decode cL_law 592 = .ok (.iload 12, 2) := by decide +kernel
theorem dL_law_594 : decode cL_law 594 = .ok (.aload_n 1, 1) := by decide +kernel
theorem dL_law_595 : decode cL_law 595 = .ok (.invokevirtual 71, 3) := by decide +kernel
theorem dL_law_598 : decode cL_law 598 = .ok (.if_icmp .eq 12, 3) := by decide +kernel
theorem dL_law_601 : decode cL_law 601 = .ok (.iload 12, 2) := by decide +kernel
theorem dL_law_603 : decode cL_law 603 = .ok (.aload_n 1, 1) := by decide +kernel
theorem dL_law_604 : decode cL_law 604 = .ok (.invokevirtual 74, 3) := by decide +kernel
theorem dL_law_607 : decode cL_law 607 = .ok (.if_icmp .ne 7, 3) := by decide +kernel
theorem dL_law_610 : decode cL_law 610 = .ok (.iconst 1, 1) := by decide +kernel
theorem dL_law_611 : decode cL_law 611 = .ok (.goto 4, 3) := by decide +kernel
theorem dL_law_614 : decode cL_law 614 = .ok (.iconst 0, 1) := by decide +kernel
theorem dL_law_615 : decode cL_law 615 = .ok (.istore 4, 2) := by decide +kernel
theorem dL_law_617 : decode cL_law 617 = .ok (.iinc 12 1, 3) := by decide +kernel
theorem dL_law_620 : decode cL_law 620 = .ok (.goto (-53), 3) := by decide +kernel
theorem dL_law_623 : decode cL_law 623 = .ok (.goto 420, 3) := by decide +kernel
theorem dL_law_626 : decode cL_law 626 = .ok (.iload 9, 2) := by decide +kernel
theorem dL_law_628 : decode cL_law 628 = .ok (.iconst 3, 1) := by decide +kernel
theorem dL_law_629 : decode cL_law 629 = .ok (.if_icmp .ne 98, 3) := by decide +kernel
theorem dL_law_632 : decode cL_law 632 = .ok (.aload_n 1, 1) := by decide +kernel
theorem dL_law_633 : decode cL_law 633 = .ok (.invokevirtual 80, 3) := by decide +kernel
theorem dL_law_636 : decode cL_law 636 = .ok (.iconst 3, 1) := by decide +kernel
theorem dL_law_637 : decode cL_law 637 = .ok (.if_icmp .ge 12, 3) := by decide +kernel
theorem dL_law_640 : decode cL_law 640 = .ok (.iconst 4, 1) := by decide +kernel
theorem dL_law_641 : decode cL_law 641 = .ok (.aload_n 1, 1) := by decide +kernel
theorem dL_law_642 : decode cL_law 642 = .ok (.invokevirtual 80, 3) := by decide +kernel
theorem dL_law_645 : decode cL_law 645 = .ok (.isub, 1) := by decide +kernel
theorem dL_law_646 : decode cL_law 646 = .ok (.goto 4, 3) := by decide +kernel
theorem dL_law_649 : decode cL_law 649 = .ok (.iconst 1, 1) := by decide +kernel
theorem dL_law_650 : decode cL_law 650 = .ok (.istore 10, 2) := by decide +kernel
theorem dL_law_652 : decode cL_law 652 = .ok (.aload_n 1, 1) := by decide +kernel
theorem dL_law_653 : decode cL_law 653 = .ok (.iload 8, 2) := by decide +kernel
theorem dL_law_655 : decode cL_law 655 = .ok (.bipush 6, 2) := by decide +kernel
theorem dL_law_657 : decode cL_law 657 = .ok (.iload 10, 2) := by decide +kernel
theorem dL_law_659 : decode cL_law 659 = .ok (.idiv, 1) := by decide +kernel
theorem dL_law_660 : decode cL_law 660 = .ok (.irem, 1) := by decide +kernel
theorem dL_law_661 : decode cL_law 661 = .ok (.invokevirtual 130, 3) := by decide +kernel
theorem dL_law_664 : decode cL_law 664 = .ok (.iload 10, 2) := by decide +kernel
theorem dL_law_666 : decode cL_law 666 = .ok (.if_icmp .ne 55, 3) := by decide +kernel
theorem dL_law_669 : decode cL_law 669 = .ok (.aload_n 1, 1) := by decide +kernel
theorem dL_law_670 : decode cL_law 670 = .ok (.aload_n 1, 1) := by decide +kernel
theorem dL_law_671 : decode cL_law 671 = .ok (.invokevirtual 71, 3) := by decide +kernel
theorem dL_law_674 : decode cL_law 674 = .ok (.invokevirtual 24, 3) := by decide +kernel
theorem dL_law_677 : decode cL_law 677 = .ok (.invokestatic 28, 3) := by decide +kernel
theorem dL_law_680 : decode cL_law 680 = .ok (.bipush 12, 2) := by decide +kernel
theorem dL_law_682 : decode cL_law 682 = .ok (.iload 10, 2) := by decide +kernel
theorem dL_law_684 : decode cL_law 684 = .ok (.iadd, 1) := by decide +kernel
theorem dL_law_685 : decode cL_law 685 = .ok (.if_icmp .ne 36, 3) := by decide +kernel
theorem dL_law_688 : decode cL_law 688 = .ok (.aload_n 1, 1) := by decide +kernel
theorem dL_law_689 : decode cL_law 689 = .ok (.aload_n 1, 1) := by decide +kernel
theorem dL_law_690 : decode cL_law 690 = .ok (.invokevirtual 71, 3) := by decide +kernel
theorem dL_law_693 : decode cL_law 693 = .ok (.invokevirtual 24, 3) := by decide +kernel
theorem dL_law_696 : decode cL_law 696 = .ok (.aload_n 1, 1) := by decide +kernel
theorem dL_law_697 : decode cL_law 697 = .ok (.iload 8, 2) := by decide +kernel
theorem dL_law_699 : decode cL_law 699 = .ok (.bipush 6, 2) := by decide +kernel
theorem dL_law_701 : decode cL_law 701 = .ok (.iload 10, 2) := by decide +kernel
theorem dL_law_703 : decode cL_law 703 = .ok (.idiv, 1) := by decide +kernel
theorem dL_law_704 : decode cL_law 704 = .ok (.irem, 1) := by decide +kernel
theorem dL_law_705 : decode cL_law 705 = .ok (.iload 10, 2) := by decide +kernel
theorem dL_law_707 : decode cL_law 707 = .ok (.imul, 1) := by decide +kernel
theorem dL_law_708 : decode cL_law 708 = .ok (.invokevirtual 121, 3) := by decide +kernel
theorem dL_law_711 : decode cL_law 711 = .ok (.invokestatic 54, 3) := by decide +kernel
theorem dL_law_714 : decode cL_law 714 = .ok (.ifCond .eq 7, 3) := by decide +kernel
theorem dL_law_717 : decode cL_law 717 = .ok (.iconst 1, 1) := by decide +kernel
theorem dL_law_718 : decode cL_law 718 = .ok (.goto 4, 3) := by decide +kernel
theorem dL_law_721 : decode cL_law 721 = .ok (.iconst 0, 1) := by decide +kernel
theorem dL_law_722 : decode cL_law 722 = .ok (.istore 4, 2) := by decide +kernel
theorem dL_law_724 : decode cL_law 724 = .ok (.goto 319, 3) := by decide +kernel
theorem dL_law_727 : decode cL_law 727 = .ok (.iload 9, 2) := by decide +kernel
theorem dL_law_729 : decode cL_law 729 = .ok (.iconst 4, 1) := by decide +kernel
theorem dL_law_730 : decode cL_law 730 = .ok (.if_icmp .ne 143, 3) := by decide +kernel
theorem dL_law_733 : decode cL_law 733 = .ok (.aload_n 1, 1) := by decide +kernel
theorem dL_law_734 : decode cL_law 734 = .ok (.aload_n 1, 1) := by decide +kernel
theorem dL_law_735 : decode cL_law 735 = .ok (.invokevirtual 71, 3) := by decide +kernel
theorem dL_law_738 : decode cL_law 738 = .ok (.invokevirtual 24, 3) := by decide +kernel
theorem dL_law_741 : decode cL_law 741 = .ok (.lstore 10, 2) := by decide +kernel
theorem dL_law_743 : decode cL_law 743 = .ok (.lload 10, 2) := by decide +kernel
theorem dL_law_745 : decode cL_law 745 = .ok (.iload 8, 2) := by decide +kernel
theorem dL_law_747 : decode cL_law 747 = .ok (.invokestatic 83, 3) := by decide +kernel
theorem dL_law_750 : decode cL_law 750 = .ok (.istore 12, 2) := by decide +kernel
theorem dL_law_752 : decode cL_law 752 = .ok (.aload_n 1, 1) := by decide +kernel
theorem dL_law_753 : decode cL_law 753 = .ok (.iload 12, 2) := by decide +kernel
theorem dL_law_755 : decode cL_law 755 = .ok (.invokestatic 133, 3) := by decide +kernel
theorem dL_law_758 : decode cL_law 758 = .ok (.istore 13, 2) := by decide +kernel
theorem dL_law_760 : decode cL_law 760 = .ok (.aload_n 1, 1) := by decide +kernel
theorem dL_law_761 : decode cL_law 761 = .ok (.iload 12, 2) := by decide +kernel
theorem dL_law_763 : decode cL_law 763 = .ok (.invokevirtual 91, 3) := by decide +kernel
theorem dL_law_766 : decode cL_law 766 = .ok (.iconst 5, 1) := by decide +kernel
theorem dL_law_767 : decode cL_law 767 = .ok (.if_icmp .ne 32, 3) := by decide +kernel
theorem dL_law_770 : decode cL_law 770 = .ok (.iload 13, 2) := by decide +kernel
theorem dL_law_772 : decode cL_law 772 = .ok (.bipush (-3), 2) := by decide +kernel
theorem dL_law_774 : decode cL_law 774 = .ok (.if_icmp .ne 21, 3) := by decide +kernel
theorem dL_law_777 : decode cL_law 777 = .ok (.aload_n 1, 1) := by decide +kernel
theorem dL_law_778 : decode cL_law 778 = .ok (.aload_n 1, 1) := by decide +kernel
theorem dL_law_779 : decode cL_law 779 = .ok (.invokevirtual 71, 3) := by decide +kernel
theorem dL_law_782 : decode cL_law 782 = .ok (.invokevirtual 24, 3) := by decide +kernel
theorem dL_law_785 : decode cL_law 785 = .ok (.lload 10, 2) := by decide +kernel
theorem dL_law_787 : decode cL_law 787 = .ok (.lcmp, 1) := by decide +kernel
theorem dL_law_788 : decode cL_law 788 = .ok (.ifCond .ne 7, 3) := by decide +kernel
theorem dL_law_791 : decode cL_law 791 = .ok (.iconst 1, 1) := by decide +kernel
theorem dL_law_792 : decode cL_law 792 = .ok (.goto 76, 3) := by decide +kernel
theorem dL_law_795 : decode cL_law 795 = .ok (.iconst 0, 1) := by decide +kernel
theorem dL_law_796 : decode cL_law 796 = .ok (.goto 72, 3) := by decide +kernel
theorem dL_law_799 : decode cL_law 799 = .ok (.iload 13, 2) := by decide +kernel
theorem dL_law_801 : decode cL_law 801 = .ok (.lload 10, 2) := by decide +kernel
theorem dL_law_803 : decode cL_law 803 = .ok (.invokestatic 28, 3) := by decide +kernel
theorem dL_law_806 : decode cL_law 806 = .ok (.bipush 13, 2) := by decide +kernel
theorem dL_law_808 : decode cL_law 808 = .ok (.isub, 1) := by decide +kernel
theorem dL_law_809 : decode cL_law 809 = .ok (.if_icmp .ne 58, 3) := by decide +kernel
theorem dL_law_812 : decode cL_law 812 = .ok (.aload_n 1, 1) := by decide +kernel
theorem dL_law_813 : decode cL_law 813 = .ok (.aload_n 1, 1) := by decide +kernel
theorem dL_law_814 : decode cL_law 814 = .ok (.invokevirtual 71, 3) := by decide +kernel
theorem dL_law_817 : decode cL_law 817 = .ok (.invokevirtual 24, 3) := by decide +kernel
theorem dL_law_820 : decode cL_law 820 = .ok (.lload 10, 2) := by decide +kernel
theorem dL_law_822 : decode cL_law 822 = .ok (.lconst 1, 1) := by decide +kernel
theorem dL_law_823 : decode cL_law 823 = .ok (.iload 12, 2) := by decide +kernel
theorem dL_law_825 : decode cL_law 825 = .ok (.lshl, 1) := by decide +kernel
theorem dL_law_826 : decode cL_law 826 = .ok (.lsub, 1) := by decide +kernel
theorem dL_law_827 : decode cL_law 827 = .ok (.lcmp, 1) := by decide +kernel
theorem dL_law_828 : decode cL_law 828 = .ok (.ifCond .ne 39, 3) := by decide +kernel
theorem dL_law_831 : decode cL_law 831 = .ok (.iload 13, 2) := by decide +kernel
theorem dL_law_833 : decode cL_law 833 = .ok (.ifCond .le 14, 3) := by decide +kernel
theorem dL_law_836 : decode cL_law 836 = .ok (.aload_n 1, 1) := by decide +kernel
theorem dL_law_837 : decode cL_law 837 = .ok (.invokevirtual 34, 3) := by decide +kernel
theorem dL_law_840 : decode cL_law 840 = .ok (.iconst 4, 1) := by decide +kernel
theorem dL_law_841 : decode cL_law 841 = .ok (.if_icmp .ne 26, 3) := by decide +kernel
theorem dL_law_844 : decode cL_law 844 = .ok (.goto 19, 3) := by decide +kernel
theorem dL_law_847 : decode cL_law 847 = .ok (.aload_n 1, 1) := by decide +kernel
theorem dL_law_848 : decode cL_law 848 = .ok (.invokevirtual 34, 3) := by decide +kernel
theorem dL_law_851 : decode cL_law 851 = .ok (.iconst 5, 1) := by decide +kernel
theorem dL_law_852 : decode cL_law 852 = .ok (.if_icmp .ne 15, 3) := by decide +kernel
theorem dL_law_855 : decode cL_law 855 = .ok (.aload_n 1, 1) := by decide +kernel
theorem dL_law_856 : decode cL_law 856 = .ok (.iconst 0, 1) := by decide +kernel
theorem dL_law_857 : decode cL_law 857 = .ok (.invokevirtual 61, 3) := by decide +kernel
theorem dL_law_860 : decode cL_law 860 = .ok (.ifCond .le 7, 3) := by decide +kernel
theorem dL_law_863 : decode cL_law 863 = .ok (.iconst 1, 1) := by decide +kernel
theorem dL_law_864 : decode cL_law 864 = .ok (.goto 4, 3) := by decide +kernel
theorem dL_law_867 : decode cL_law 867 = .ok (.iconst 0, 1) := by decide +kernel
theorem dL_law_868 : decode cL_law 868 = .ok (.istore 4, 2) := by decide +kernel
theorem dL_law_870 : decode cL_law 870 = .ok (.goto 173, 3) := by decide +kernel
theorem dL_law_873 : decode cL_law 873 = .ok (.iload 7, 2) := by decide +kernel
theorem dL_law_875 : decode cL_law 875 = .ok (.bipush 15, 2) := by decide +kernel
theorem dL_law_877 : decode cL_law 877 = .ok (.iand, 1) := by decide +kernel
theorem dL_law_878 : decode cL_law 878 = .ok (.ifCond .ne 90, 3) := by decide +kernel
theorem dL_law_881 : decode cL_law 881 = .ok (.iload 8, 2) := by decide +kernel
theorem dL_law_883 : decode cL_law 883 = .ok (.iconst 1, 1) := by decide +kernel
theorem dL_law_884 : decode cL_law 884 = .ok (.iand, 1) := by decide +kernel
theorem dL_law_885 : decode cL_law 885 = .ok (.istore 10, 2) := by decide +kernel
theorem dL_law_887 : decode cL_law 887 = .ok (.aload_n 1, 1) := by decide +kernel
theorem dL_law_888 : decode cL_law 888 = .ok (.invokevirtual 58, 3) := by decide +kernel
theorem dL_law_891 : decode cL_law 891 = .ok (.ifCond .ne 27, 3) := by decide +kernel
theorem dL_law_894 : decode cL_law 894 = .ok (.aload_n 1, 1) := by decide +kernel
theorem dL_law_895 : decode cL_law 895 = .ok (.invokevirtual 42, 3) := by decide +kernel
theorem dL_law_898 : decode cL_law 898 = .ok (.ifCond .ne 20, 3) := by decide +kernel
theorem dL_law_901 : decode cL_law 901 = .ok (.iload 10, 2) := by decide +kernel
theorem dL_law_903 : decode cL_law 903 = .ok (.ifCond .eq 11, 3) := by decide +kernel
theorem dL_law_906 : decode cL_law 906 = .ok (.aload_n 1, 1) := by decide +kernel
theorem dL_law_907 : decode cL_law 907 = .ok (.invokevirtual 80, 3) := by decide +kernel
theorem dL_law_910 : decode cL_law 910 = .ok (.iconst 4, 1) := by decide +kernel
theorem dL_law_911 : decode cL_law 911 = .ok (.if_icmp .ge 7, 3) := by decide +kernel
theorem dL_law_914 : decode cL_law 914 = .ok (.iconst 1, 1) := by decide +kernel
theorem dL_law_915 : decode cL_law 915 = .ok (.goto 4, 3) := by decide +kernel
theorem dL_law_918 : decode cL_law 918 = .ok (.iconst 0, 1) := by decide +kernel
theorem dL_law_919 : decode cL_law 919 = .ok (.istore 11, 2) := by decide +kernel
theorem dL_law_921 : decode cL_law 921 = .ok (.aload_n 1, 1) := by decide +kernel
theorem dL_law_922 : decode cL_law 922 = .ok (.iload 10, 2) := by decide +kernel
theorem dL_law_924 : decode cL_law 924 = .ok (.invokestatic 136, 3) := by decide +kernel
theorem dL_law_927 : decode cL_law 927 = .ok (.istore 12, 2) := by decide +kernel
theorem dL_law_929 : decode cL_law 929 = .ok (.iload 12, 2) := by decide +kernel
theorem dL_law_931 : decode cL_law 931 = .ok (.bipush (-3), 2) := by decide +kernel
theorem dL_law_933 : decode cL_law 933 = .ok (.if_icmp .eq 25, 3) := by decide +kernel
theorem dL_law_936 : decode cL_law 936 = .ok (.iload 11, 2) := by decide +kernel
theorem dL_law_938 : decode cL_law 938 = .ok (.ifCond .eq 24, 3) := by decide +kernel
theorem dL_law_941 : decode cL_law 941 = .ok (.iload 12, 2) := by decide +kernel
theorem dL_law_943 : decode cL_law 943 = .ok (.iconst 2, 1) := by decide +kernel
theorem dL_law_944 : decode cL_law 944 = .ok (.if_icmp .gt 18, 3) := by decide +kernel
theorem dL_law_947 : decode cL_law 947 = .ok (.aload_n 1, 1) := by decide +kernel
theorem dL_law_948 : decode cL_law 948 = .ok (.iload 10, 2) := by decide +kernel
theorem dL_law_950 : decode cL_law 950 = .ok (.invokestatic 136, 3) := by decide +kernel
theorem dL_law_953 : decode cL_law 953 = .ok (.bipush (-3), 2) := by decide +kernel
theorem dL_law_955 : decode cL_law 955 = .ok (.if_icmp .ne 7, 3) := by decide +kernel
theorem dL_law_958 : decode cL_law 958 = .ok (.iconst 1, 1) := by decide +kernel
theorem dL_law_959 : decode cL_law 959 = .ok (.goto 4, 3) := by decide +kernel
theorem dL_law_962 : decode cL_law 962 = .ok (.iconst 0, 1) := by decide +kernel
theorem dL_law_963 : decode cL_law 963 = .ok (.istore 4, 2) := by decide +kernel
theorem dL_law_965 : decode cL_law 965 = .ok (.goto 78, 3) := by decide +kernel
theorem dL_law_968 : decode cL_law 968 = .ok (.iload 7, 2) := by decide +kernel
theorem dL_law_970 : decode cL_law 970 = .ok (.bipush 15, 2) := by decide +kernel
theorem dL_law_972 : decode cL_law 972 = .ok (.iand, 1) := by decide +kernel
theorem dL_law_973 : decode cL_law 973 = .ok (.iconst 1, 1) := by decide +kernel
theorem dL_law_974 : decode cL_law 974 = .ok (.if_icmp .ne 61, 3) := by decide +kernel
theorem dL_law_977 : decode cL_law 977 = .ok (.bipush 48, 2) := by decide +kernel
theorem dL_law_979 : decode cL_law 979 = .ok (.iconst 4, 1) := by decide +kernel
theorem dL_law_980 : decode cL_law 980 = .ok (.aload_n 1, 1) := by decide +kernel
theorem dL_law_981 : decode cL_law 981 = .ok (.invokevirtual 58, 3) := by decide +kernel
theorem dL_law_984 : decode cL_law 984 = .ok (.imul, 1) := by decide +kernel
theorem dL_law_985 : decode cL_law 985 = .ok (.isub, 1) := by decide +kernel
theorem dL_law_986 : decode cL_law 986 = .ok (.aload_n 1, 1) := by decide +kernel
theorem dL_law_987 : decode cL_law 987 = .ok (.invokevirtual 42, 3) := by decide +kernel
theorem dL_law_990 : decode cL_law 990 = .ok (.isub, 1) := by decide +kernel
theorem dL_law_991 : decode cL_law 991 = .ok (.istore 10, 2) := by decide +kernel
theorem dL_law_993 : decode cL_law 993 = .ok (.iconst 1, 1) := by decide +kernel
theorem dL_law_994 : decode cL_law 994 = .ok (.iload 8, 2) := by decide +kernel
theorem dL_law_996 : decode cL_law 996 = .ok (.bipush 15, 2) := by decide +kernel
theorem dL_law_998 : decode cL_law 998 = .ok (.iand, 1) := by decide +kernel
theorem dL_law_999 : decode cL_law 999 = .ok (.iadd, 1) := by decide +kernel
theorem dL_law_1000 : decode cL_law 1000 = .ok (.istore 11, 2) := by decide +kernel
theorem dL_law_1002 : decode cL_law 1002 = .ok (.aload_n 1, 1) := by decide +kernel
theorem dL_law_1003 : decode cL_law 1003 = .ok (.iload 11, 2) := by decide +kernel
theorem dL_law_1005 : decode cL_law 1005 = .ok (.invokevirtual 139, 3) := by decide +kernel
theorem dL_law_1008 : decode cL_law 1008 = .ok (.iload 11, 2) := by decide +kernel
theorem dL_law_1010 : decode cL_law 1010 = .ok (.iload 10, 2) := by decide +kernel
theorem dL_law_1012 : decode cL_law 1012 = .ok (.if_icmp .ge 8, 3) := by decide +kernel
theorem dL_law_1015 : decode cL_law 1015 = .ok (.iload 11, 2) := by decide +kernel
theorem dL_law_1017 : decode cL_law 1017 = .ok (.goto 5, 3) := by decide +kernel
theorem dL_law_1020 : decode cL_law 1020 = .ok (.iload 10, 2) := by decide +kernel
theorem dL_law_1022 : decode cL_law 1022 = .ok (.if_icmp .ne 7, 3) := by decide +kernel
theorem dL_law_1025 : decode cL_law 1025 = .ok (.iconst 1, 1) := by decide +kernel
theorem dL_law_1026 : decode cL_law 1026 = .ok (.goto 4, 3) := by decide +kernel
theorem dL_law_1029 : decode cL_law 1029 = .ok (.iconst 0, 1) := by decide +kernel
theorem dL_law_1030 : decode cL_law 1030 = .ok (.istore 4, 2) := by decide +kernel
theorem dL_law_1032 : decode cL_law 1032 = .ok (.goto 11, 3) := by decide +kernel
theorem dL_law_1035 : decode cL_law 1035 = .ok (.aload_n 1, 1) := by decide +kernel
theorem dL_law_1036 : decode cL_law 1036 = .ok (.iload 8, 2) := by decide +kernel
theorem dL_law_1038 : decode cL_law 1038 = .ok (.invokestatic 142, 3) := by decide +kernel
theorem dL_law_1041 : decode cL_law 1041 = .ok (.istore 4, 2) := by decide +kernel
theorem dL_law_1043 : decode cL_law 1043 = .ok (.iload 4, 2) := by decide +kernel
theorem dL_law_1045 : decode cL_law 1045 = .ok (.ifCond .eq 42, 3) := by decide +kernel
theorem dL_law_1048 : decode cL_law 1048 = .ok (.aload_n 1, 1) := by decide +kernel
theorem dL_law_1049 : decode cL_law 1049 = .ok (.invokestatic 108, 3) := by decide +kernel
theorem dL_law_1052 : decode cL_law 1052 = .ok (.ifCond .eq 35, 3) := by decide +kernel
theorem dL_law_1055 : decode cL_law 1055 = .ok (.aload_n 1, 1) := by decide +kernel
theorem dL_law_1056 : decode cL_law 1056 = .ok (.invokestatic 112, 3) := by decide +kernel
theorem dL_law_1059 : decode cL_law 1059 = .ok (.ifCond .eq 28, 3) := by decide +kernel
theorem dL_law_1062 : decode cL_law 1062 = .ok (.iload 9, 2) := by decide +kernel
theorem dL_law_1064 : decode cL_law 1064 = .ok (.iconst 5, 1) := by decide +kernel
theorem dL_law_1065 : decode cL_law 1065 = .ok (.if_icmp .ne 18, 3) := by decide +kernel
theorem dL_law_1068 : decode cL_law 1068 = .ok (.aload_n 1, 1) := by decide +kernel
theorem dL_law_1069 : decode cL_law 1069 = .ok (.invokevirtual 34, 3) := by decide +kernel
theorem dL_law_1072 : decode cL_law 1072 = .ok (.ifCond .ne 11, 3) := by decide +kernel
theorem dL_law_1075 : decode cL_law 1075 = .ok (.aload_n 1, 1) := by decide +kernel
theorem dL_law_1076 : decode cL_law 1076 = .ok (.aload_n 2, 1) := by decide +kernel
theorem dL_law_1077 : decode cL_law 1077 = .ok (.invokestatic 146, 3) := by decide +kernel
theorem dL_law_1080 : decode cL_law 1080 = .ok (.ifCond .eq 7, 3) := by decide +kernel
theorem dL_law_1083 : decode cL_law 1083 = .ok (.iconst 1, 1) := by decide +kernel
theorem dL_law_1084 : decode cL_law 1084 = .ok (.goto 4, 3) := by decide +kernel
theorem dL_law_1087 : decode cL_law 1087 = .ok (.iconst 0, 1) := by decide +kernel
theorem dL_law_1088 : decode cL_law 1088 = .ok (.istore 4, 2) := by decide +kernel
theorem dL_law_1090 : decode cL_law 1090 = .ok (.iinc 6 1, 3) := by decide +kernel
theorem dL_law_1093 : decode cL_law 1093 = .ok (.goto (-1022), 3) := by decide +kernel
theorem dL_law_1096 : decode cL_law 1096 = .ok (.iload 4, 2) := by decide +kernel
theorem dL_law_1098 : decode cL_law 1098 = .ok (.ireturn, 1) := by decide +kernel
