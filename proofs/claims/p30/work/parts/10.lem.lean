def tk_H (c : ClassId × ClassId × ClassId) (q : Nat → Nat) (S : tk_ST) : va_W := [(q 0, .inr (6, [.ref (q 1), .ref (q 4), .ref (q 5), .ref (q 8), .ref (q 13), .ref (q 15), .int (S.1 0), .int (S.1 1), .int (S.1 2), .int (S.1 3), .int (S.1 4), .int (S.1 5), .int (S.1 6), .int (S.1 7), .long (S.2.1 0), .long (S.2.1 1), .int (S.1 8), .int (S.1 9)])),
  (q 1, .inr (1, [.ref (q 2)])),
  (q 2, .inr (2, [.ref (q 3)])),
  (q 3, .inl (c.1, 54, .inl (S.2.2.1 0))),
  (q 4, .inr (0, [.int (S.1 10), .int (S.1 11), .int (S.1 12)])),
  (q 5, .inr (5, [.ref (q 6), .int (S.1 13), .int (S.1 14)])),
  (q 6, .inr (2, [.ref (q 7)])),
  (q 7, .inl (c.1, 4, .inl (S.2.2.1 1))),
  (q 8, .inr (4, [.ref (q 9), .ref (q 11), .int (S.1 15)])),
  (q 9, .inr (2, [.ref (q 10)])),
  (q 10, .inl (c.1, 4, .inl (S.2.2.1 2))),
  (q 11, .inr (2, [.ref (q 12)])),
  (q 12, .inl (c.1, 4, .inl (S.2.2.1 3))),
  (q 13, .inr (3, [.ref (q 14)])),
  (q 14, .inl (c.2.1, 4, .inr (.inl (S.2.2.2 0)))),
  (q 15, .inr (3, [.ref (q 16)])),
  (q 16, .inl (c.2.1, 2, .inr (.inl (S.2.2.2 1)))),
  (q 17, .inl (c.1, 8, .inl (S.2.2.1 4)))]
set_option maxRecDepth 20000 in
theorem i_X0_clear_X0 : ∀ w ∈ wsX00, w ∈ wsX0_clear := fun w h => List.mem_cons_of_mem _ (List.mem_append_right _ h)
set_option maxRecDepth 20000 in
theorem m_X0_clear_f15 : Cond.fieldLink RX0 15 "TarockHall$Bidding" "passed" "I" ∈ wsX0_clear := by decide +kernel
set_option maxRecDepth 20000 in
theorem m_X0_clear_f18 : Cond.fieldLink RX0 18 "TarockHall$Bidding" "highest" "I" ∈ wsX0_clear := by decide +kernel
set_option maxRecDepth 20000 in
theorem m_X0_clear_f9 : Cond.fieldLink RX0 9 "TarockHall$Bidding" "bidder" "I" ∈ wsX0_clear := by decide +kernel
set_option maxRecDepth 20000 in
theorem i_X5_begin_X5 : ∀ w ∈ wsX50, w ∈ wsX5_begin := fun w h => List.mem_cons_of_mem _ (List.mem_append_right _ h)
set_option maxRecDepth 20000 in
theorem m_X5_begin_f20 : Cond.fieldLink RX5 20 "TarockHall$Trick" "leader" "I" ∈ wsX5_begin := by decide +kernel
set_option maxRecDepth 20000 in
theorem m_X5_begin_f24 : Cond.fieldLink RX5 24 "TarockHall$Trick" "size" "I" ∈ wsX5_begin := by decide +kernel
set_option maxRecDepth 20000 in
theorem i_X3_put_X3 : ∀ w ∈ wsX30, w ∈ wsX3_put := fun w h => List.mem_cons_of_mem _ (List.mem_append_right _ h)
set_option maxRecDepth 20000 in
theorem m_X3_put_f13 : Cond.fieldLink RX3 13 "TarockHall$Sets" "items" "[J" ∈ wsX3_put := by decide +kernel
set_option maxRecDepth 20000 in
theorem i_X6_clearDeal_X6 : ∀ w ∈ wsX60, w ∈ wsX6_clearDeal := fun w h => List.mem_cons_of_mem _ (List.mem_append_left _ (List.mem_append_left _ (List.mem_append_left _ (List.mem_append_right _ h))))
set_option maxRecDepth 20000 in
theorem m_X6_clearDeal_f19 : Cond.fieldLink RX6 19 "TarockHall" "bidding" "LTarockHall$Bidding;" ∈ wsX6_clearDeal := by decide +kernel
set_option maxRecDepth 20000 in
theorem hv_X0_clear : yX0_clear.cls = RX0 ∧ yX0_clear.cls ≠ "java/lang/invoke/MethodHandle" ∧ yX0_clear.cls ≠ "java/lang/invoke/VarHandle" ∧ (parseMethodDescriptor yX0_clear.desc).map (fun d => d.parameters.length) = some 0 := by decide +kernel
set_option maxRecDepth 20000 in
theorem m_X6_clearDeal_f26 : Cond.fieldLink RX6 26 "TarockHall" "trick" "LTarockHall$Trick;" ∈ wsX6_clearDeal := by decide +kernel
set_option maxRecDepth 20000 in
theorem m_X6_clearDeal_f49 : Cond.fieldLink RX6 49 "TarockHall" "forehand" "I" ∈ wsX6_clearDeal := by decide +kernel
set_option maxRecDepth 20000 in
theorem hv_X5_begin : yX5_begin.cls = RX5 ∧ yX5_begin.cls ≠ "java/lang/invoke/MethodHandle" ∧ yX5_begin.cls ≠ "java/lang/invoke/VarHandle" ∧ (parseMethodDescriptor yX5_begin.desc).map (fun d => d.parameters.length) = some 1 := by decide +kernel
set_option maxRecDepth 20000 in
theorem m_X6_clearDeal_f59 : Cond.fieldLink RX6 59 "TarockHall" "declarer" "I" ∈ wsX6_clearDeal := by decide +kernel
set_option maxRecDepth 20000 in
theorem m_X6_clearDeal_f62 : Cond.fieldLink RX6 62 "TarockHall" "called" "I" ∈ wsX6_clearDeal := by decide +kernel
set_option maxRecDepth 20000 in
theorem m_X6_clearDeal_f65 : Cond.fieldLink RX6 65 "TarockHall" "kingOwner" "I" ∈ wsX6_clearDeal := by decide +kernel
set_option maxRecDepth 20000 in
theorem m_X6_clearDeal_f68 : Cond.fieldLink RX6 68 "TarockHall" "partner" "I" ∈ wsX6_clearDeal := by decide +kernel
set_option maxRecDepth 20000 in
theorem m_X6_clearDeal_f168 : Cond.fieldLink RX6 168 "TarockHall" "toLayAway" "I" ∈ wsX6_clearDeal := by decide +kernel
set_option maxRecDepth 20000 in
theorem m_X6_clearDeal_f191 : Cond.fieldLink RX6 191 "TarockHall" "laidAway" "J" ∈ wsX6_clearDeal := by decide +kernel
set_option maxRecDepth 20000 in
theorem m_X6_clearDeal_f214 : Cond.fieldLink RX6 214 "TarockHall" "announced" "I" ∈ wsX6_clearDeal := by decide +kernel
set_option maxRecDepth 20000 in
theorem m_X6_clearDeal_f199 : Cond.fieldLink RX6 199 "TarockHall" "tricks" "I" ∈ wsX6_clearDeal := by decide +kernel
set_option maxRecDepth 20000 in
theorem m_X6_clearDeal_f46 : Cond.fieldLink RX6 46 "TarockHall" "piles" "LTarockHall$Sets;" ∈ wsX6_clearDeal := by decide +kernel
set_option maxRecDepth 20000 in
theorem hv_X3_put : yX3_put.cls = RX3 ∧ yX3_put.cls ≠ "java/lang/invoke/MethodHandle" ∧ yX3_put.cls ≠ "java/lang/invoke/VarHandle" ∧ (parseMethodDescriptor yX3_put.desc).map (fun d => d.parameters.length) = some 2 := by decide +kernel
set_option maxRecDepth 20000 in
theorem i_X2_put_X2 : ∀ w ∈ wsX20, w ∈ wsX2_put := fun w h => List.mem_cons_of_mem _ (List.mem_append_right _ h)
set_option maxRecDepth 20000 in
theorem m_X2_put_f15 : Cond.fieldLink RX2 15 "TarockHall$Row" "items" "[I" ∈ wsX2_put := by decide +kernel
set_option maxRecDepth 20000 in
theorem i_X2_at_X2 : ∀ w ∈ wsX20, w ∈ wsX2_at := fun w h => List.mem_cons_of_mem _ (List.mem_append_right _ h)
set_option maxRecDepth 20000 in
theorem m_X2_at_f15 : Cond.fieldLink RX2 15 "TarockHall$Row" "items" "[I" ∈ wsX2_at := by decide +kernel
set_option maxRecDepth 20000 in
theorem i_X1_swap_X1 : ∀ w ∈ wsX10, w ∈ wsX1_swap := fun w h => List.mem_cons_of_mem _ (List.mem_append_left _ (List.mem_append_right _ h))
set_option maxRecDepth 20000 in
theorem m_X1_swap_f14 : Cond.fieldLink RX1 14 "TarockHall$Deck" "row" "LTarockHall$Row;" ∈ wsX1_swap := by decide +kernel
set_option maxRecDepth 20000 in
theorem hv_X2_at : yX2_at.cls = RX2 ∧ yX2_at.cls ≠ "java/lang/invoke/MethodHandle" ∧ yX2_at.cls ≠ "java/lang/invoke/VarHandle" ∧ (parseMethodDescriptor yX2_at.desc).map (fun d => d.parameters.length) = some 1 := by decide +kernel
set_option maxRecDepth 20000 in
theorem hv_X2_put : yX2_put.cls = RX2 ∧ yX2_put.cls ≠ "java/lang/invoke/MethodHandle" ∧ yX2_put.cls ≠ "java/lang/invoke/VarHandle" ∧ (parseMethodDescriptor yX2_put.desc).map (fun d => d.parameters.length) = some 2 := by decide +kernel
set_option maxRecDepth 20000 in
theorem m_X1_shuffle_k24 : Cond.constant RX1 24 (65536) ∈ wsX1_shuffle := by decide +kernel
set_option maxRecDepth 20000 in
theorem hv_X1_swap : yX1_swap.cls = RX1 ∧ yX1_swap.cls ≠ "java/lang/invoke/MethodHandle" ∧ yX1_swap.cls ≠ "java/lang/invoke/VarHandle" ∧ (parseMethodDescriptor yX1_swap.desc).map (fun d => d.parameters.length) = some 2 := by decide +kernel
set_option maxRecDepth 20000 in
theorem i_X1_shuffle_X1 : ∀ w ∈ wsX10, w ∈ wsX1_shuffle := fun w h => List.mem_cons_of_mem _ (List.mem_append_left _ (List.mem_append_right _ h))
set_option maxRecDepth 20000 in
theorem m_X1_shuffle_f14 : Cond.fieldLink RX1 14 "TarockHall$Deck" "row" "LTarockHall$Row;" ∈ wsX1_shuffle := by decide +kernel
set_option maxRecDepth 20000 in
theorem i_X1_cardsFrom_X1 : ∀ w ∈ wsX10, w ∈ wsX1_cardsFrom := fun w h => List.mem_cons_of_mem _ (List.mem_append_left _ (List.mem_append_right _ h))
set_option maxRecDepth 20000 in
theorem m_X1_cardsFrom_f14 : Cond.fieldLink RX1 14 "TarockHall$Deck" "row" "LTarockHall$Row;" ∈ wsX1_cardsFrom := by decide +kernel
set_option maxRecDepth 20000 in
theorem hs_X6_only : yX6_only.cls ≠ "java/lang/invoke/MethodHandle" ∧ yX6_only.cls ≠ "java/lang/invoke/VarHandle" ∧ (parseMethodDescriptor yX6_only.desc).map (fun d => d.parameters.length) = some 1 := by decide +kernel
set_option maxRecDepth 20000 in
theorem m_X1_cardsFrom_iX6 : Cond.initialized RX6 ∈ wsX1_cardsFrom := by decide +kernel
set_option maxRecDepth 20000 in
theorem m_X1_cardsFrom_st_X6_only : Cond.static yX6_only ∈ wsX1_cardsFrom := by decide +kernel
set_option maxRecDepth 20000 in
theorem i_X6_handOut_X6 : ∀ w ∈ wsX60, w ∈ wsX6_handOut := fun w h => List.mem_cons_of_mem _ (List.mem_append_left _ (List.mem_append_left _ (List.mem_append_left _ (List.mem_append_right _ h))))
set_option maxRecDepth 20000 in
theorem m_X6_handOut_f12 : Cond.fieldLink RX6 12 "TarockHall" "deck" "LTarockHall$Deck;" ∈ wsX6_handOut := by decide +kernel
set_option maxRecDepth 20000 in
theorem hv_X1_cardsFrom : yX1_cardsFrom.cls = RX1 ∧ yX1_cardsFrom.cls ≠ "java/lang/invoke/MethodHandle" ∧ yX1_cardsFrom.cls ≠ "java/lang/invoke/VarHandle" ∧ (parseMethodDescriptor yX1_cardsFrom.desc).map (fun d => d.parameters.length) = some 2 := by decide +kernel
set_option maxRecDepth 20000 in
theorem m_X6_handOut_f162 : Cond.fieldLink RX6 162 "TarockHall" "restOfTalon" "J" ∈ wsX6_handOut := by decide +kernel
set_option maxRecDepth 20000 in
theorem m_X6_handOut_f42 : Cond.fieldLink RX6 42 "TarockHall" "hands" "LTarockHall$Sets;" ∈ wsX6_handOut := by decide +kernel
set_option maxRecDepth 20000 in
theorem hs_X6_behind : yX6_behind.cls ≠ "java/lang/invoke/MethodHandle" ∧ yX6_behind.cls ≠ "java/lang/invoke/VarHandle" ∧ (parseMethodDescriptor yX6_behind.desc).map (fun d => d.parameters.length) = some 1 := by decide +kernel
set_option maxRecDepth 20000 in
theorem m_X6_handOut_f49 : Cond.fieldLink RX6 49 "TarockHall" "forehand" "I" ∈ wsX6_handOut := by decide +kernel
set_option maxRecDepth 20000 in
theorem h_X6_deal_x76 : ∀ w ∈ (vx_atS RX6 76 "java/lang/IllegalArgumentException" ["java/lang/RuntimeException", "java/lang/Exception"]).filter goodWord, w ∈ wsX6_deal := fun w h => List.mem_cons_of_mem _ (List.mem_append_left _ (List.mem_append_right _ h))
set_option maxRecDepth 20000 in
theorem ng_76 : ∀ w ∈ (vx_atS RX6 76 "java/lang/IllegalArgumentException" ["java/lang/RuntimeException", "java/lang/Exception"]).filter (fun w => !goodWord w), w ∈ [tk_n14, tk_n15, tk_n16, .castable "java/lang/IllegalArgumentException" "java/lang/IllegalArgumentException"] := by decide +kernel
set_option maxRecDepth 20000 in
theorem gd_76 : ∀ w ∈ Cond.classLink RX6 72 "java/lang/IllegalArgumentException" :: Cond.initialized "java/lang/IllegalArgumentException" :: vx_atS RX6 76 "java/lang/IllegalArgumentException" ["java/lang/RuntimeException", "java/lang/Exception"], vx_ot w = true := by decide +kernel
set_option maxRecDepth 20000 in
theorem ft_1 : Bundle.fit "java/lang/IllegalArgumentException" = true := by decide +kernel
set_option maxRecDepth 20000 in
theorem ex_1 : "java/lang/IllegalArgumentException" = tk_ex 1 := by decide +kernel
set_option maxRecDepth 20000 in
theorem st_74 : ((74, "no such number of a deal") : Nat × String) ∈ tk_strs := by decide +kernel
set_option maxRecDepth 20000 in
theorem m_X6_deal_cl72 : Cond.classLink RX6 72 "java/lang/IllegalArgumentException" ∈ wsX6_deal := by decide +kernel
set_option maxRecDepth 20000 in
theorem m_X6_deal_ie1 : Cond.initialized "java/lang/IllegalArgumentException" ∈ wsX6_deal := by decide +kernel
set_option maxRecDepth 20000 in
theorem m_X6_deal_k71 : Cond.constant RX6 71 (65536) ∈ wsX6_deal := by decide +kernel
set_option maxRecDepth 20000 in
theorem i_X6_deal_X6 : ∀ w ∈ wsX60, w ∈ wsX6_deal := fun w h => List.mem_cons_of_mem _ (List.mem_append_left _ (List.mem_append_left _ (List.mem_append_left _ (List.mem_append_left _ (List.mem_append_left _ (List.mem_append_left _ (List.mem_append_left _ (List.mem_append_right _ h))))))))
set_option maxRecDepth 20000 in
theorem m_X6_deal_f53 : Cond.fieldLink RX6 53 "TarockHall" "phase" "I" ∈ wsX6_deal := by decide +kernel
set_option maxRecDepth 20000 in
theorem m_X6_deal_f49 : Cond.fieldLink RX6 49 "TarockHall" "forehand" "I" ∈ wsX6_deal := by decide +kernel
set_option maxRecDepth 20000 in
theorem hv_X6_clearDeal : yX6_clearDeal.cls = RX6 ∧ yX6_clearDeal.cls ≠ "java/lang/invoke/MethodHandle" ∧ yX6_clearDeal.cls ≠ "java/lang/invoke/VarHandle" ∧ (parseMethodDescriptor yX6_clearDeal.desc).map (fun d => d.parameters.length) = some 0 := by decide +kernel
set_option maxRecDepth 20000 in
theorem m_X6_deal_f12 : Cond.fieldLink RX6 12 "TarockHall" "deck" "LTarockHall$Deck;" ∈ wsX6_deal := by decide +kernel
set_option maxRecDepth 20000 in
theorem hv_X1_shuffle : yX1_shuffle.cls = RX1 ∧ yX1_shuffle.cls ≠ "java/lang/invoke/MethodHandle" ∧ yX1_shuffle.cls ≠ "java/lang/invoke/VarHandle" ∧ (parseMethodDescriptor yX1_shuffle.desc).map (fun d => d.parameters.length) = some 1 := by decide +kernel
set_option maxRecDepth 20000 in
theorem hv_X6_handOut : yX6_handOut.cls = RX6 ∧ yX6_handOut.cls ≠ "java/lang/invoke/MethodHandle" ∧ yX6_handOut.cls ≠ "java/lang/invoke/VarHandle" ∧ (parseMethodDescriptor yX6_handOut.desc).map (fun d => d.parameters.length) = some 0 := by decide +kernel
set_option maxRecDepth 20000 in
theorem m_X6_deal_f56 : Cond.fieldLink RX6 56 "TarockHall" "turn" "I" ∈ wsX6_deal := by decide +kernel
set_option maxRecDepth 20000 in
theorem h_X6_deal_x83 : ∀ w ∈ (vx_atS RX6 83 "java/lang/IllegalStateException" ["java/lang/RuntimeException", "java/lang/Exception"]).filter goodWord, w ∈ wsX6_deal := fun w h => List.mem_cons_of_mem _ (List.mem_append_right _ h)
set_option maxRecDepth 20000 in
theorem ng_83 : ∀ w ∈ (vx_atS RX6 83 "java/lang/IllegalStateException" ["java/lang/RuntimeException", "java/lang/Exception"]).filter (fun w => !goodWord w), w ∈ [tk_n14, tk_n15, tk_n16, .castable "java/lang/IllegalStateException" "java/lang/IllegalStateException"] := by decide +kernel
set_option maxRecDepth 20000 in
theorem gd_83 : ∀ w ∈ Cond.classLink RX6 79 "java/lang/IllegalStateException" :: Cond.initialized "java/lang/IllegalStateException" :: vx_atS RX6 83 "java/lang/IllegalStateException" ["java/lang/RuntimeException", "java/lang/Exception"], vx_ot w = true := by decide +kernel
set_option maxRecDepth 20000 in
theorem ft_2 : Bundle.fit "java/lang/IllegalStateException" = true := by decide +kernel
set_option maxRecDepth 20000 in
theorem ex_2 : "java/lang/IllegalStateException" = tk_ex 2 := by decide +kernel
set_option maxRecDepth 20000 in
theorem st_81 : ((81, "the latest deal is not over") : Nat × String) ∈ tk_strs := by decide +kernel
set_option maxRecDepth 20000 in
theorem m_X6_deal_cl79 : Cond.classLink RX6 79 "java/lang/IllegalStateException" ∈ wsX6_deal := by decide +kernel
set_option maxRecDepth 20000 in
theorem m_X6_deal_ie2 : Cond.initialized "java/lang/IllegalStateException" ∈ wsX6_deal := by decide +kernel
set_option maxRecDepth 20000 in
theorem i_X0_enter_X0 : ∀ w ∈ wsX00, w ∈ wsX0_enter := fun w h => List.mem_cons_of_mem _ (List.mem_append_right _ h)
set_option maxRecDepth 20000 in
theorem m_X0_enter_f18 : Cond.fieldLink RX0 18 "TarockHall$Bidding" "highest" "I" ∈ wsX0_enter := by decide +kernel
set_option maxRecDepth 20000 in
theorem m_X0_enter_f9 : Cond.fieldLink RX0 9 "TarockHall$Bidding" "bidder" "I" ∈ wsX0_enter := by decide +kernel
set_option maxRecDepth 20000 in
theorem m_X0_enter_f15 : Cond.fieldLink RX0 15 "TarockHall$Bidding" "passed" "I" ∈ wsX0_enter := by decide +kernel
set_option maxRecDepth 20000 in
theorem m_J6_bitCount_0f7a4_k265 : Cond.constant RJ6 265 (1431655765) ∈ wsJ6_bitCount_0f7a4 := by decide +kernel
set_option maxRecDepth 20000 in
theorem m_J6_bitCount_0f7a4_k266 : Cond.constant RJ6 266 (858993459) ∈ wsJ6_bitCount_0f7a4 := by decide +kernel
set_option maxRecDepth 20000 in
theorem m_J6_bitCount_0f7a4_k267 : Cond.constant RJ6 267 (252645135) ∈ wsJ6_bitCount_0f7a4 := by decide +kernel
set_option maxRecDepth 20000 in
theorem i_X0_allPassed_X0 : ∀ w ∈ wsX00, w ∈ wsX0_allPassed := fun w h => List.mem_cons_of_mem _ (List.mem_append_right _ h)
set_option maxRecDepth 20000 in
theorem m_X0_allPassed_f15 : Cond.fieldLink RX0 15 "TarockHall$Bidding" "passed" "I" ∈ wsX0_allPassed := by decide +kernel
set_option maxRecDepth 20000 in
theorem hs_J6_bitCount_0f7a4 : yJ6_bitCount_0f7a4.cls ≠ "java/lang/invoke/MethodHandle" ∧ yJ6_bitCount_0f7a4.cls ≠ "java/lang/invoke/VarHandle" ∧ (parseMethodDescriptor yJ6_bitCount_0f7a4.desc).map (fun d => d.parameters.length) = some 1 := by decide +kernel
set_option maxRecDepth 20000 in
theorem i_X6_endDeal_X6 : ∀ w ∈ wsX60, w ∈ wsX6_endDeal := fun w h => List.mem_cons_of_mem _ (List.mem_append_right _ h)
set_option maxRecDepth 20000 in
theorem m_X6_endDeal_f53 : Cond.fieldLink RX6 53 "TarockHall" "phase" "I" ∈ wsX6_endDeal := by decide +kernel
set_option maxRecDepth 20000 in
theorem m_X6_endDeal_f56 : Cond.fieldLink RX6 56 "TarockHall" "turn" "I" ∈ wsX6_endDeal := by decide +kernel
set_option maxRecDepth 20000 in
theorem i_X0_isSettled_X0 : ∀ w ∈ wsX00, w ∈ wsX0_isSettled := fun w h => List.mem_cons_of_mem _ (List.mem_append_right _ h)
set_option maxRecDepth 20000 in
theorem m_X0_isSettled_f9 : Cond.fieldLink RX0 9 "TarockHall$Bidding" "bidder" "I" ∈ wsX0_isSettled := by decide +kernel
set_option maxRecDepth 20000 in
theorem m_X0_isSettled_f15 : Cond.fieldLink RX0 15 "TarockHall$Bidding" "passed" "I" ∈ wsX0_isSettled := by decide +kernel
set_option maxRecDepth 20000 in
theorem i_X6_beginPlay_X6 : ∀ w ∈ wsX60, w ∈ wsX6_beginPlay := fun w h => List.mem_cons_of_mem _ (List.mem_append_left _ (List.mem_append_right _ h))
set_option maxRecDepth 20000 in
theorem m_X6_beginPlay_f46 : Cond.fieldLink RX6 46 "TarockHall" "piles" "LTarockHall$Sets;" ∈ wsX6_beginPlay := by decide +kernel
set_option maxRecDepth 20000 in
theorem m_X6_beginPlay_f191 : Cond.fieldLink RX6 191 "TarockHall" "laidAway" "J" ∈ wsX6_beginPlay := by decide +kernel
set_option maxRecDepth 20000 in
theorem m_X6_beginPlay_f162 : Cond.fieldLink RX6 162 "TarockHall" "restOfTalon" "J" ∈ wsX6_beginPlay := by decide +kernel
set_option maxRecDepth 20000 in
theorem m_X6_beginPlay_f53 : Cond.fieldLink RX6 53 "TarockHall" "phase" "I" ∈ wsX6_beginPlay := by decide +kernel
set_option maxRecDepth 20000 in
theorem m_X6_beginPlay_f49 : Cond.fieldLink RX6 49 "TarockHall" "forehand" "I" ∈ wsX6_beginPlay := by decide +kernel
set_option maxRecDepth 20000 in
theorem m_X6_beginPlay_f56 : Cond.fieldLink RX6 56 "TarockHall" "turn" "I" ∈ wsX6_beginPlay := by decide +kernel
set_option maxRecDepth 20000 in
theorem i_X6_beginGame_X6 : ∀ w ∈ wsX60, w ∈ wsX6_beginGame := fun w h => List.mem_cons_of_mem _ (List.mem_append_left _ (List.mem_append_left _ (List.mem_append_right _ h)))
set_option maxRecDepth 20000 in
theorem m_X6_beginGame_f19 : Cond.fieldLink RX6 19 "TarockHall" "bidding" "LTarockHall$Bidding;" ∈ wsX6_beginGame := by decide +kernel
set_option maxRecDepth 20000 in
theorem i_X6_beginGame_X0 : ∀ w ∈ wsX00, w ∈ wsX6_beginGame := fun w h => List.mem_cons_of_mem _ (List.mem_append_left _ (List.mem_append_right _ h))
set_option maxRecDepth 20000 in
theorem m_X6_beginGame_f59 : Cond.fieldLink RX6 59 "TarockHall" "declarer" "I" ∈ wsX6_beginGame := by decide +kernel
set_option maxRecDepth 20000 in
theorem m_X6_beginGame_f56 : Cond.fieldLink RX6 56 "TarockHall" "turn" "I" ∈ wsX6_beginGame := by decide +kernel
set_option maxRecDepth 20000 in
theorem hv_X6_beginPlay : yX6_beginPlay.cls = RX6 ∧ yX6_beginPlay.cls ≠ "java/lang/invoke/MethodHandle" ∧ yX6_beginPlay.cls ≠ "java/lang/invoke/VarHandle" ∧ (parseMethodDescriptor yX6_beginPlay.desc).map (fun d => d.parameters.length) = some 0 := by decide +kernel
set_option maxRecDepth 20000 in
theorem m_X6_beginGame_f53 : Cond.fieldLink RX6 53 "TarockHall" "phase" "I" ∈ wsX6_beginGame := by decide +kernel
set_option maxRecDepth 20000 in
theorem i_X0_hasPassed_X0 : ∀ w ∈ wsX00, w ∈ wsX0_hasPassed := fun w h => List.mem_cons_of_mem _ (List.mem_append_right _ h)
set_option maxRecDepth 20000 in
theorem m_X0_hasPassed_f15 : Cond.fieldLink RX0 15 "TarockHall$Bidding" "passed" "I" ∈ wsX0_hasPassed := by decide +kernel
set_option maxRecDepth 20000 in
theorem hv_X0_hasPassed : yX0_hasPassed.cls = RX0 ∧ yX0_hasPassed.cls ≠ "java/lang/invoke/MethodHandle" ∧ yX0_hasPassed.cls ≠ "java/lang/invoke/VarHandle" ∧ (parseMethodDescriptor yX0_hasPassed.desc).map (fun d => d.parameters.length) = some 1 := by decide +kernel
set_option maxRecDepth 20000 in
theorem m_X0_nextBehind_iX6 : Cond.initialized RX6 ∈ wsX0_nextBehind := by decide +kernel
set_option maxRecDepth 20000 in
theorem m_X0_nextBehind_st_X6_behind : Cond.static yX6_behind ∈ wsX0_nextBehind := by decide +kernel
set_option maxRecDepth 20000 in
theorem h_X6_bid_x76 : ∀ w ∈ (vx_atS RX6 76 "java/lang/IllegalArgumentException" ["java/lang/RuntimeException", "java/lang/Exception"]).filter goodWord, w ∈ wsX6_bid := fun w h => List.mem_cons_of_mem _ (List.mem_append_left _ (List.mem_append_right _ h))
set_option maxRecDepth 20000 in
theorem st_97 : ((97, "no such level") : Nat × String) ∈ tk_strs := by decide +kernel
set_option maxRecDepth 20000 in
theorem m_X6_bid_cl72 : Cond.classLink RX6 72 "java/lang/IllegalArgumentException" ∈ wsX6_bid := by decide +kernel
set_option maxRecDepth 20000 in
theorem m_X6_bid_ie1 : Cond.initialized "java/lang/IllegalArgumentException" ∈ wsX6_bid := by decide +kernel
set_option maxRecDepth 20000 in
theorem i_X6_bid_X6 : ∀ w ∈ wsX60, w ∈ wsX6_bid := fun w h => List.mem_cons_of_mem _ (List.mem_append_left _ (List.mem_append_left _ (List.mem_append_left _ (List.mem_append_left _ (List.mem_append_right _ h)))))
set_option maxRecDepth 20000 in
theorem m_X6_bid_f19 : Cond.fieldLink RX6 19 "TarockHall" "bidding" "LTarockHall$Bidding;" ∈ wsX6_bid := by decide +kernel
set_option maxRecDepth 20000 in
theorem m_X6_bid_f56 : Cond.fieldLink RX6 56 "TarockHall" "turn" "I" ∈ wsX6_bid := by decide +kernel
set_option maxRecDepth 20000 in
theorem hv_X0_enter : yX0_enter.cls = RX0 ∧ yX0_enter.cls ≠ "java/lang/invoke/MethodHandle" ∧ yX0_enter.cls ≠ "java/lang/invoke/VarHandle" ∧ (parseMethodDescriptor yX0_enter.desc).map (fun d => d.parameters.length) = some 2 := by decide +kernel
set_option maxRecDepth 20000 in
theorem hv_X0_allPassed : yX0_allPassed.cls = RX0 ∧ yX0_allPassed.cls ≠ "java/lang/invoke/MethodHandle" ∧ yX0_allPassed.cls ≠ "java/lang/invoke/VarHandle" ∧ (parseMethodDescriptor yX0_allPassed.desc).map (fun d => d.parameters.length) = some 0 := by decide +kernel
set_option maxRecDepth 20000 in
theorem hv_X0_isSettled : yX0_isSettled.cls = RX0 ∧ yX0_isSettled.cls ≠ "java/lang/invoke/MethodHandle" ∧ yX0_isSettled.cls ≠ "java/lang/invoke/VarHandle" ∧ (parseMethodDescriptor yX0_isSettled.desc).map (fun d => d.parameters.length) = some 0 := by decide +kernel
set_option maxRecDepth 20000 in
theorem hv_X0_nextBehind : yX0_nextBehind.cls = RX0 ∧ yX0_nextBehind.cls ≠ "java/lang/invoke/MethodHandle" ∧ yX0_nextBehind.cls ≠ "java/lang/invoke/VarHandle" ∧ (parseMethodDescriptor yX0_nextBehind.desc).map (fun d => d.parameters.length) = some 1 := by decide +kernel
set_option maxRecDepth 20000 in
theorem m_X6_bid_f53 : Cond.fieldLink RX6 53 "TarockHall" "phase" "I" ∈ wsX6_bid := by decide +kernel
set_option maxRecDepth 20000 in
theorem hv_X6_beginGame : yX6_beginGame.cls = RX6 ∧ yX6_beginGame.cls ≠ "java/lang/invoke/MethodHandle" ∧ yX6_beginGame.cls ≠ "java/lang/invoke/VarHandle" ∧ (parseMethodDescriptor yX6_beginGame.desc).map (fun d => d.parameters.length) = some 0 := by decide +kernel
set_option maxRecDepth 20000 in
theorem hv_X6_endDeal : yX6_endDeal.cls = RX6 ∧ yX6_endDeal.cls ≠ "java/lang/invoke/MethodHandle" ∧ yX6_endDeal.cls ≠ "java/lang/invoke/VarHandle" ∧ (parseMethodDescriptor yX6_endDeal.desc).map (fun d => d.parameters.length) = some 0 := by decide +kernel
set_option maxRecDepth 20000 in
theorem i_X6_bid_X0 : ∀ w ∈ wsX00, w ∈ wsX6_bid := fun w h => List.mem_cons_of_mem _ (List.mem_append_left _ (List.mem_append_left _ (List.mem_append_left _ (List.mem_append_right _ h))))
set_option maxRecDepth 20000 in
theorem h_X6_bid_x83 : ∀ w ∈ (vx_atS RX6 83 "java/lang/IllegalStateException" ["java/lang/RuntimeException", "java/lang/Exception"]).filter goodWord, w ∈ wsX6_bid := fun w h => List.mem_cons_of_mem _ (List.mem_append_right _ h)
set_option maxRecDepth 20000 in
theorem st_104 : ((104, "the level is not above the highest one") : Nat × String) ∈ tk_strs := by decide +kernel
set_option maxRecDepth 20000 in
theorem m_X6_bid_cl79 : Cond.classLink RX6 79 "java/lang/IllegalStateException" ∈ wsX6_bid := by decide +kernel
set_option maxRecDepth 20000 in
theorem m_X6_bid_ie2 : Cond.initialized "java/lang/IllegalStateException" ∈ wsX6_bid := by decide +kernel
set_option maxRecDepth 20000 in
theorem st_99 : ((99, "nobody bids now") : Nat × String) ∈ tk_strs := by decide +kernel
set_option maxRecDepth 20000 in
theorem i_X6_calledKing_X6 : ∀ w ∈ wsX60, w ∈ wsX6_calledKing := fun w h => List.mem_cons_of_mem _ (List.mem_append_right _ h)
set_option maxRecDepth 20000 in
theorem m_X6_calledKing_f62 : Cond.fieldLink RX6 62 "TarockHall" "called" "I" ∈ wsX6_calledKing := by decide +kernel
set_option maxRecDepth 20000 in
theorem i_X3_at_X3 : ∀ w ∈ wsX30, w ∈ wsX3_at := fun w h => List.mem_cons_of_mem _ (List.mem_append_right _ h)
set_option maxRecDepth 20000 in
theorem m_X3_at_f13 : Cond.fieldLink RX3 13 "TarockHall$Sets" "items" "[J" ∈ wsX3_at := by decide +kernel
set_option maxRecDepth 20000 in
theorem i_X6_ownerOf_X6 : ∀ w ∈ wsX60, w ∈ wsX6_ownerOf := fun w h => List.mem_cons_of_mem _ (List.mem_append_left _ (List.mem_append_right _ h))
set_option maxRecDepth 20000 in
theorem m_X6_ownerOf_f42 : Cond.fieldLink RX6 42 "TarockHall" "hands" "LTarockHall$Sets;" ∈ wsX6_ownerOf := by decide +kernel
set_option maxRecDepth 20000 in
theorem hv_X3_at : yX3_at.cls = RX3 ∧ yX3_at.cls ≠ "java/lang/invoke/MethodHandle" ∧ yX3_at.cls ≠ "java/lang/invoke/VarHandle" ∧ (parseMethodDescriptor yX3_at.desc).map (fun d => d.parameters.length) = some 1 := by decide +kernel
set_option maxRecDepth 20000 in
theorem hs_X6_holds : yX6_holds.cls ≠ "java/lang/invoke/MethodHandle" ∧ yX6_holds.cls ≠ "java/lang/invoke/VarHandle" ∧ (parseMethodDescriptor yX6_holds.desc).map (fun d => d.parameters.length) = some 2 := by decide +kernel
set_option maxRecDepth 20000 in
theorem h_X6_call_x130 : ∀ w ∈ (vx_atS RX6 130 "java/lang/IndexOutOfBoundsException" ["java/lang/RuntimeException", "java/lang/Exception"]).filter goodWord, w ∈ wsX6_call := fun w h => List.mem_cons_of_mem _ (List.mem_append_left _ (List.mem_append_right _ h))
set_option maxRecDepth 20000 in
theorem ng_130 : ∀ w ∈ (vx_atS RX6 130 "java/lang/IndexOutOfBoundsException" ["java/lang/RuntimeException", "java/lang/Exception"]).filter (fun w => !goodWord w), w ∈ [tk_n14, tk_n15, tk_n16, .castable "java/lang/IndexOutOfBoundsException" "java/lang/IndexOutOfBoundsException"] := by decide +kernel
set_option maxRecDepth 20000 in
theorem gd_130 : ∀ w ∈ Cond.classLink RX6 126 "java/lang/IndexOutOfBoundsException" :: Cond.initialized "java/lang/IndexOutOfBoundsException" :: vx_atS RX6 130 "java/lang/IndexOutOfBoundsException" ["java/lang/RuntimeException", "java/lang/Exception"], vx_ot w = true := by decide +kernel
set_option maxRecDepth 20000 in
theorem ft_3 : Bundle.fit "java/lang/IndexOutOfBoundsException" = true := by decide +kernel
set_option maxRecDepth 20000 in
theorem ex_3 : "java/lang/IndexOutOfBoundsException" = tk_ex 3 := by decide +kernel
set_option maxRecDepth 20000 in
theorem st_128 : ((128, "no such suit") : Nat × String) ∈ tk_strs := by decide +kernel
set_option maxRecDepth 20000 in
theorem m_X6_call_cl126 : Cond.classLink RX6 126 "java/lang/IndexOutOfBoundsException" ∈ wsX6_call := by decide +kernel
set_option maxRecDepth 20000 in
theorem m_X6_call_ie3 : Cond.initialized "java/lang/IndexOutOfBoundsException" ∈ wsX6_call := by decide +kernel
set_option maxRecDepth 20000 in
theorem i_X6_call_X6 : ∀ w ∈ wsX60, w ∈ wsX6_call := fun w h => List.mem_cons_of_mem _ (List.mem_append_left _ (List.mem_append_left _ (List.mem_append_left _ (List.mem_append_right _ h))))
set_option maxRecDepth 20000 in
theorem m_X6_call_f68 : Cond.fieldLink RX6 68 "TarockHall" "partner" "I" ∈ wsX6_call := by decide +kernel
set_option maxRecDepth 20000 in
theorem m_X6_call_f53 : Cond.fieldLink RX6 53 "TarockHall" "phase" "I" ∈ wsX6_call := by decide +kernel
set_option maxRecDepth 20000 in
theorem m_X6_call_f62 : Cond.fieldLink RX6 62 "TarockHall" "called" "I" ∈ wsX6_call := by decide +kernel
set_option maxRecDepth 20000 in
theorem hv_X6_calledKing : yX6_calledKing.cls = RX6 ∧ yX6_calledKing.cls ≠ "java/lang/invoke/MethodHandle" ∧ yX6_calledKing.cls ≠ "java/lang/invoke/VarHandle" ∧ (parseMethodDescriptor yX6_calledKing.desc).map (fun d => d.parameters.length) = some 0 := by decide +kernel
set_option maxRecDepth 20000 in
theorem hv_X6_ownerOf : yX6_ownerOf.cls = RX6 ∧ yX6_ownerOf.cls ≠ "java/lang/invoke/MethodHandle" ∧ yX6_ownerOf.cls ≠ "java/lang/invoke/VarHandle" ∧ (parseMethodDescriptor yX6_ownerOf.desc).map (fun d => d.parameters.length) = some 1 := by decide +kernel
set_option maxRecDepth 20000 in
theorem m_X6_call_f65 : Cond.fieldLink RX6 65 "TarockHall" "kingOwner" "I" ∈ wsX6_call := by decide +kernel
set_option maxRecDepth 20000 in
theorem m_X6_call_f59 : Cond.fieldLink RX6 59 "TarockHall" "declarer" "I" ∈ wsX6_call := by decide +kernel
set_option maxRecDepth 20000 in
theorem h_X6_call_x83 : ∀ w ∈ (vx_atS RX6 83 "java/lang/IllegalStateException" ["java/lang/RuntimeException", "java/lang/Exception"]).filter goodWord, w ∈ wsX6_call := fun w h => List.mem_cons_of_mem _ (List.mem_append_right _ h)
set_option maxRecDepth 20000 in
theorem st_131 : ((131, "no king is called now") : Nat × String) ∈ tk_strs := by decide +kernel
set_option maxRecDepth 20000 in
theorem m_X6_call_cl79 : Cond.classLink RX6 79 "java/lang/IllegalStateException" ∈ wsX6_call := by decide +kernel
set_option maxRecDepth 20000 in
theorem m_X6_call_ie2 : Cond.initialized "java/lang/IllegalStateException" ∈ wsX6_call := by decide +kernel
set_option maxRecDepth 20000 in
theorem i_X6_groupsNow_X6 : ∀ w ∈ wsX60, w ∈ wsX6_groupsNow := fun w h => List.mem_cons_of_mem _ (List.mem_append_left _ (List.mem_append_right _ h))
set_option maxRecDepth 20000 in
theorem m_X6_groupsNow_f53 : Cond.fieldLink RX6 53 "TarockHall" "phase" "I" ∈ wsX6_groupsNow := by decide +kernel
set_option maxRecDepth 20000 in
theorem m_X6_groupsNow_f19 : Cond.fieldLink RX6 19 "TarockHall" "bidding" "LTarockHall$Bidding;" ∈ wsX6_groupsNow := by decide +kernel
set_option maxRecDepth 20000 in
theorem i_X6_groupsNow_X0 : ∀ w ∈ wsX00, w ∈ wsX6_groupsNow := fun w h => List.mem_cons_of_mem _ (List.mem_append_right _ h)
set_option maxRecDepth 20000 in
theorem hs_X6_groupsAt : yX6_groupsAt.cls ≠ "java/lang/invoke/MethodHandle" ∧ yX6_groupsAt.cls ≠ "java/lang/invoke/VarHandle" ∧ (parseMethodDescriptor yX6_groupsAt.desc).map (fun d => d.parameters.length) = some 1 := by decide +kernel
set_option maxRecDepth 20000 in
theorem h_X6_take_x130 : ∀ w ∈ (vx_atS RX6 130 "java/lang/IndexOutOfBoundsException" ["java/lang/RuntimeException", "java/lang/Exception"]).filter goodWord, w ∈ wsX6_take := fun w h => List.mem_cons_of_mem _ (List.mem_append_left _ (List.mem_append_right _ h))
set_option maxRecDepth 20000 in
theorem st_143 : ((143, "no such group") : Nat × String) ∈ tk_strs := by decide +kernel
set_option maxRecDepth 20000 in
theorem m_X6_take_cl126 : Cond.classLink RX6 126 "java/lang/IndexOutOfBoundsException" ∈ wsX6_take := by decide +kernel
set_option maxRecDepth 20000 in
theorem m_X6_take_ie3 : Cond.initialized "java/lang/IndexOutOfBoundsException" ∈ wsX6_take := by decide +kernel
set_option maxRecDepth 20000 in
theorem hv_X6_groupsNow : yX6_groupsNow.cls = RX6 ∧ yX6_groupsNow.cls ≠ "java/lang/invoke/MethodHandle" ∧ yX6_groupsNow.cls ≠ "java/lang/invoke/VarHandle" ∧ (parseMethodDescriptor yX6_groupsNow.desc).map (fun d => d.parameters.length) = some 0 := by decide +kernel
set_option maxRecDepth 20000 in
theorem i_X6_take_X6 : ∀ w ∈ wsX60, w ∈ wsX6_take := fun w h => List.mem_cons_of_mem _ (List.mem_append_left _ (List.mem_append_left _ (List.mem_append_left _ (List.mem_append_left _ (List.mem_append_left _ (List.mem_append_left _ (List.mem_append_right _ h)))))))
set_option maxRecDepth 20000 in
theorem m_X6_take_f53 : Cond.fieldLink RX6 53 "TarockHall" "phase" "I" ∈ wsX6_take := by decide +kernel
set_option maxRecDepth 20000 in
theorem m_X6_take_f19 : Cond.fieldLink RX6 19 "TarockHall" "bidding" "LTarockHall$Bidding;" ∈ wsX6_take := by decide +kernel
set_option maxRecDepth 20000 in
theorem i_X6_take_X0 : ∀ w ∈ wsX00, w ∈ wsX6_take := fun w h => List.mem_cons_of_mem _ (List.mem_append_left _ (List.mem_append_left _ (List.mem_append_left _ (List.mem_append_left _ (List.mem_append_left _ (List.mem_append_right _ h))))))
set_option maxRecDepth 20000 in
theorem hs_X6_groupSize : yX6_groupSize.cls ≠ "java/lang/invoke/MethodHandle" ∧ yX6_groupSize.cls ≠ "java/lang/invoke/VarHandle" ∧ (parseMethodDescriptor yX6_groupSize.desc).map (fun d => d.parameters.length) = some 1 := by decide +kernel
set_option maxRecDepth 20000 in
theorem m_X6_take_f12 : Cond.fieldLink RX6 12 "TarockHall" "deck" "LTarockHall$Deck;" ∈ wsX6_take := by decide +kernel
set_option maxRecDepth 20000 in
theorem m_X6_take_f42 : Cond.fieldLink RX6 42 "TarockHall" "hands" "LTarockHall$Sets;" ∈ wsX6_take := by decide +kernel
set_option maxRecDepth 20000 in
theorem m_X6_take_f59 : Cond.fieldLink RX6 59 "TarockHall" "declarer" "I" ∈ wsX6_take := by decide +kernel
set_option maxRecDepth 20000 in
theorem m_X6_take_f162 : Cond.fieldLink RX6 162 "TarockHall" "restOfTalon" "J" ∈ wsX6_take := by decide +kernel
set_option maxRecDepth 20000 in
theorem m_X6_take_k166 : Cond.constantLong RX6 166 (-1) ∈ wsX6_take := by decide +kernel
set_option maxRecDepth 20000 in
theorem m_X6_take_f168 : Cond.fieldLink RX6 168 "TarockHall" "toLayAway" "I" ∈ wsX6_take := by decide +kernel
set_option maxRecDepth 20000 in
theorem h_X6_take_x83 : ∀ w ∈ (vx_atS RX6 83 "java/lang/IllegalStateException" ["java/lang/RuntimeException", "java/lang/Exception"]).filter goodWord, w ∈ wsX6_take := fun w h => List.mem_cons_of_mem _ (List.mem_append_right _ h)
set_option maxRecDepth 20000 in
theorem st_145 : ((145, "nothing is taken of the talon now") : Nat × String) ∈ tk_strs := by decide +kernel
set_option maxRecDepth 20000 in
theorem m_X6_take_cl79 : Cond.classLink RX6 79 "java/lang/IllegalStateException" ∈ wsX6_take := by decide +kernel
set_option maxRecDepth 20000 in
theorem m_X6_take_ie2 : Cond.initialized "java/lang/IllegalStateException" ∈ wsX6_take := by decide +kernel
set_option maxRecDepth 20000 in
theorem hs_X6_suitOf : yX6_suitOf.cls ≠ "java/lang/invoke/MethodHandle" ∧ yX6_suitOf.cls ≠ "java/lang/invoke/VarHandle" ∧ (parseMethodDescriptor yX6_suitOf.desc).map (fun d => d.parameters.length) = some 1 := by decide +kernel
set_option maxRecDepth 20000 in
theorem hs_X6_worth : yX6_worth.cls ≠ "java/lang/invoke/MethodHandle" ∧ yX6_worth.cls ≠ "java/lang/invoke/VarHandle" ∧ (parseMethodDescriptor yX6_worth.desc).map (fun d => d.parameters.length) = some 1 := by decide +kernel
set_option maxRecDepth 20000 in
theorem h_X6_discard_x83 : ∀ w ∈ (vx_atS RX6 83 "java/lang/IllegalStateException" ["java/lang/RuntimeException", "java/lang/Exception"]).filter goodWord, w ∈ wsX6_discard := fun w h => List.mem_cons_of_mem _ (List.mem_append_right _ h)
set_option maxRecDepth 20000 in
theorem st_186 : ((186, "the declarer cannot lay the card away") : Nat × String) ∈ tk_strs := by decide +kernel
set_option maxRecDepth 20000 in
theorem m_X6_discard_cl79 : Cond.classLink RX6 79 "java/lang/IllegalStateException" ∈ wsX6_discard := by decide +kernel
set_option maxRecDepth 20000 in
theorem m_X6_discard_ie2 : Cond.initialized "java/lang/IllegalStateException" ∈ wsX6_discard := by decide +kernel
set_option maxRecDepth 20000 in
theorem hs_X6_isCard : yX6_isCard.cls ≠ "java/lang/invoke/MethodHandle" ∧ yX6_isCard.cls ≠ "java/lang/invoke/VarHandle" ∧ (parseMethodDescriptor yX6_isCard.desc).map (fun d => d.parameters.length) = some 1 := by decide +kernel
set_option maxRecDepth 20000 in
theorem i_X6_discard_X6 : ∀ w ∈ wsX60, w ∈ wsX6_discard := fun w h => List.mem_cons_of_mem _ (List.mem_append_left _ (List.mem_append_left _ (List.mem_append_left _ (List.mem_append_right _ h))))
set_option maxRecDepth 20000 in
theorem m_X6_discard_f53 : Cond.fieldLink RX6 53 "TarockHall" "phase" "I" ∈ wsX6_discard := by decide +kernel
set_option maxRecDepth 20000 in
theorem m_X6_discard_f42 : Cond.fieldLink RX6 42 "TarockHall" "hands" "LTarockHall$Sets;" ∈ wsX6_discard := by decide +kernel
set_option maxRecDepth 20000 in
theorem m_X6_discard_f59 : Cond.fieldLink RX6 59 "TarockHall" "declarer" "I" ∈ wsX6_discard := by decide +kernel
set_option maxRecDepth 20000 in
theorem hs_X6_canBeLaidAway : yX6_canBeLaidAway.cls ≠ "java/lang/invoke/MethodHandle" ∧ yX6_canBeLaidAway.cls ≠ "java/lang/invoke/VarHandle" ∧ (parseMethodDescriptor yX6_canBeLaidAway.desc).map (fun d => d.parameters.length) = some 1 := by decide +kernel
set_option maxRecDepth 20000 in
theorem m_X6_discard_k166 : Cond.constantLong RX6 166 (-1) ∈ wsX6_discard := by decide +kernel
set_option maxRecDepth 20000 in
theorem m_X6_discard_f191 : Cond.fieldLink RX6 191 "TarockHall" "laidAway" "J" ∈ wsX6_discard := by decide +kernel
set_option maxRecDepth 20000 in
theorem m_X6_discard_f168 : Cond.fieldLink RX6 168 "TarockHall" "toLayAway" "I" ∈ wsX6_discard := by decide +kernel
set_option maxRecDepth 20000 in
theorem st_177 : ((177, "nothing is laid away now") : Nat × String) ∈ tk_strs := by decide +kernel
set_option maxRecDepth 20000 in
theorem h_X6_discard_x130 : ∀ w ∈ (vx_atS RX6 130 "java/lang/IndexOutOfBoundsException" ["java/lang/RuntimeException", "java/lang/Exception"]).filter goodWord, w ∈ wsX6_discard := fun w h => List.mem_cons_of_mem _ (List.mem_append_left _ (List.mem_append_right _ h))
set_option maxRecDepth 20000 in
theorem st_175 : ((175, "no such card") : Nat × String) ∈ tk_strs := by decide +kernel
set_option maxRecDepth 20000 in
theorem m_X6_discard_cl126 : Cond.classLink RX6 126 "java/lang/IndexOutOfBoundsException" ∈ wsX6_discard := by decide +kernel
set_option maxRecDepth 20000 in
theorem m_X6_discard_ie3 : Cond.initialized "java/lang/IndexOutOfBoundsException" ∈ wsX6_discard := by decide +kernel
set_option maxRecDepth 20000 in
theorem i_X6_isAnnounced_X6 : ∀ w ∈ wsX60, w ∈ wsX6_isAnnounced := fun w h => List.mem_cons_of_mem _ (List.mem_append_right _ h)
set_option maxRecDepth 20000 in
theorem m_X6_isAnnounced_f214 : Cond.fieldLink RX6 214 "TarockHall" "announced" "I" ∈ wsX6_isAnnounced := by decide +kernel
set_option maxRecDepth 20000 in
theorem h_X6_announce_x130 : ∀ w ∈ (vx_atS RX6 130 "java/lang/IndexOutOfBoundsException" ["java/lang/RuntimeException", "java/lang/Exception"]).filter goodWord, w ∈ wsX6_announce := fun w h => List.mem_cons_of_mem _ (List.mem_append_left _ (List.mem_append_right _ h))
set_option maxRecDepth 20000 in
theorem st_197 : ((197, "no such bird") : Nat × String) ∈ tk_strs := by decide +kernel
set_option maxRecDepth 20000 in
theorem m_X6_announce_cl126 : Cond.classLink RX6 126 "java/lang/IndexOutOfBoundsException" ∈ wsX6_announce := by decide +kernel
set_option maxRecDepth 20000 in
theorem m_X6_announce_ie3 : Cond.initialized "java/lang/IndexOutOfBoundsException" ∈ wsX6_announce := by decide +kernel
set_option maxRecDepth 20000 in
theorem h_X6_announce_x83 : ∀ w ∈ (vx_atS RX6 83 "java/lang/IllegalStateException" ["java/lang/RuntimeException", "java/lang/Exception"]).filter goodWord, w ∈ wsX6_announce := fun w h => List.mem_cons_of_mem _ (List.mem_append_right _ h)
set_option maxRecDepth 20000 in
theorem st_205 : ((205, "birds are announced ahead of the first trick") : Nat × String) ∈ tk_strs := by decide +kernel
set_option maxRecDepth 20000 in
theorem m_X6_announce_cl79 : Cond.classLink RX6 79 "java/lang/IllegalStateException" ∈ wsX6_announce := by decide +kernel
set_option maxRecDepth 20000 in
theorem m_X6_announce_ie2 : Cond.initialized "java/lang/IllegalStateException" ∈ wsX6_announce := by decide +kernel
set_option maxRecDepth 20000 in
theorem i_X6_announce_X6 : ∀ w ∈ wsX60, w ∈ wsX6_announce := fun w h => List.mem_cons_of_mem _ (List.mem_append_left _ (List.mem_append_left _ (List.mem_append_left _ (List.mem_append_left _ (List.mem_append_right _ h)))))
set_option maxRecDepth 20000 in
theorem m_X6_announce_f214 : Cond.fieldLink RX6 214 "TarockHall" "announced" "I" ∈ wsX6_announce := by decide +kernel
set_option maxRecDepth 20000 in
theorem m_X6_announce_f53 : Cond.fieldLink RX6 53 "TarockHall" "phase" "I" ∈ wsX6_announce := by decide +kernel
set_option maxRecDepth 20000 in
theorem m_X6_announce_f199 : Cond.fieldLink RX6 199 "TarockHall" "tricks" "I" ∈ wsX6_announce := by decide +kernel
set_option maxRecDepth 20000 in
theorem m_X6_announce_f26 : Cond.fieldLink RX6 26 "TarockHall" "trick" "LTarockHall$Trick;" ∈ wsX6_announce := by decide +kernel
set_option maxRecDepth 20000 in
theorem i_X6_announce_X5 : ∀ w ∈ wsX50, w ∈ wsX6_announce := fun w h => List.mem_cons_of_mem _ (List.mem_append_left _ (List.mem_append_left _ (List.mem_append_left _ (List.mem_append_right _ h))))
set_option maxRecDepth 20000 in
theorem hv_X6_isAnnounced : yX6_isAnnounced.cls = RX6 ∧ yX6_isAnnounced.cls ≠ "java/lang/invoke/MethodHandle" ∧ yX6_isAnnounced.cls ≠ "java/lang/invoke/VarHandle" ∧ (parseMethodDescriptor yX6_isAnnounced.desc).map (fun d => d.parameters.length) = some 1 := by decide +kernel
set_option maxRecDepth 20000 in
theorem m_X6_announce_f19 : Cond.fieldLink RX6 19 "TarockHall" "bidding" "LTarockHall$Bidding;" ∈ wsX6_announce := by decide +kernel
set_option maxRecDepth 20000 in
theorem i_X6_announce_X0 : ∀ w ∈ wsX00, w ∈ wsX6_announce := fun w h => List.mem_cons_of_mem _ (List.mem_append_left _ (List.mem_append_left _ (List.mem_append_right _ h)))
set_option maxRecDepth 20000 in
theorem st_212 : ((212, "no king is called at this level") : Nat × String) ∈ tk_strs := by decide +kernel
set_option maxRecDepth 20000 in
theorem st_210 : ((210, "the bird is announced") : Nat × String) ∈ tk_strs := by decide +kernel
set_option maxRecDepth 20000 in
theorem i_X5_ledSuit_X5 : ∀ w ∈ wsX50, w ∈ wsX5_ledSuit := fun w h => List.mem_cons_of_mem _ (List.mem_append_left _ (List.mem_append_right _ h))
set_option maxRecDepth 20000 in
theorem m_X5_ledSuit_f24 : Cond.fieldLink RX5 24 "TarockHall$Trick" "size" "I" ∈ wsX5_ledSuit := by decide +kernel
set_option maxRecDepth 20000 in
theorem m_X5_ledSuit_f14 : Cond.fieldLink RX5 14 "TarockHall$Trick" "cards" "LTarockHall$Row;" ∈ wsX5_ledSuit := by decide +kernel
set_option maxRecDepth 20000 in
theorem m_X5_ledSuit_iX6 : Cond.initialized RX6 ∈ wsX5_ledSuit := by decide +kernel
set_option maxRecDepth 20000 in
theorem m_X5_ledSuit_st_X6_suitOf : Cond.static yX6_suitOf ∈ wsX5_ledSuit := by decide +kernel
set_option maxRecDepth 20000 in
theorem m_X6_cardsOfSuit_k357 : Cond.constantLong RX6 357 (255) ∈ wsX6_cardsOfSuit := by decide +kernel
set_option maxRecDepth 20000 in
theorem m_X6_cardsOfSuit_k355 : Cond.constantLong RX6 355 (-4294967296) ∈ wsX6_cardsOfSuit := by decide +kernel
set_option maxRecDepth 20000 in
theorem hs_X6_cardsOfSuit : yX6_cardsOfSuit.cls ≠ "java/lang/invoke/MethodHandle" ∧ yX6_cardsOfSuit.cls ≠ "java/lang/invoke/VarHandle" ∧ (parseMethodDescriptor yX6_cardsOfSuit.desc).map (fun d => d.parameters.length) = some 2 := by decide +kernel
set_option maxRecDepth 20000 in
theorem i_X6_playableNow_X6 : ∀ w ∈ wsX60, w ∈ wsX6_playableNow := fun w h => List.mem_cons_of_mem _ (List.mem_append_left _ (List.mem_append_left _ (List.mem_append_left _ (List.mem_append_right _ h))))
set_option maxRecDepth 20000 in
theorem m_X6_playableNow_f53 : Cond.fieldLink RX6 53 "TarockHall" "phase" "I" ∈ wsX6_playableNow := by decide +kernel
set_option maxRecDepth 20000 in
theorem m_X6_playableNow_f42 : Cond.fieldLink RX6 42 "TarockHall" "hands" "LTarockHall$Sets;" ∈ wsX6_playableNow := by decide +kernel
set_option maxRecDepth 20000 in
theorem m_X6_playableNow_f56 : Cond.fieldLink RX6 56 "TarockHall" "turn" "I" ∈ wsX6_playableNow := by decide +kernel
set_option maxRecDepth 20000 in
theorem m_X6_playableNow_f26 : Cond.fieldLink RX6 26 "TarockHall" "trick" "LTarockHall$Trick;" ∈ wsX6_playableNow := by decide +kernel
set_option maxRecDepth 20000 in
theorem hv_X5_ledSuit : yX5_ledSuit.cls = RX5 ∧ yX5_ledSuit.cls ≠ "java/lang/invoke/MethodHandle" ∧ yX5_ledSuit.cls ≠ "java/lang/invoke/VarHandle" ∧ (parseMethodDescriptor yX5_ledSuit.desc).map (fun d => d.parameters.length) = some 0 := by decide +kernel
set_option maxRecDepth 20000 in
theorem hs_X6_playableOf : yX6_playableOf.cls ≠ "java/lang/invoke/MethodHandle" ∧ yX6_playableOf.cls ≠ "java/lang/invoke/VarHandle" ∧ (parseMethodDescriptor yX6_playableOf.desc).map (fun d => d.parameters.length) = some 2 := by decide +kernel
set_option maxRecDepth 20000 in
theorem i_X5_add_X5 : ∀ w ∈ wsX50, w ∈ wsX5_add := fun w h => List.mem_cons_of_mem _ (List.mem_append_left _ (List.mem_append_right _ h))
set_option maxRecDepth 20000 in
theorem m_X5_add_f14 : Cond.fieldLink RX5 14 "TarockHall$Trick" "cards" "LTarockHall$Row;" ∈ wsX5_add := by decide +kernel
set_option maxRecDepth 20000 in
theorem m_X5_add_f24 : Cond.fieldLink RX5 24 "TarockHall$Trick" "size" "I" ∈ wsX5_add := by decide +kernel
set_option maxRecDepth 20000 in
theorem m_X5_beats_iX6 : Cond.initialized RX6 ∈ wsX5_beats := by decide +kernel
set_option maxRecDepth 20000 in
theorem m_X5_beats_st_X6_suitOf : Cond.static yX6_suitOf ∈ wsX5_beats := by decide +kernel
set_option maxRecDepth 20000 in
theorem i_X5_playerAt_X5 : ∀ w ∈ wsX50, w ∈ wsX5_playerAt := fun w h => List.mem_cons_of_mem _ (List.mem_append_right _ h)
set_option maxRecDepth 20000 in
theorem m_X5_playerAt_f20 : Cond.fieldLink RX5 20 "TarockHall$Trick" "leader" "I" ∈ wsX5_playerAt := by decide +kernel
set_option maxRecDepth 20000 in
theorem i_X5_winner_X5 : ∀ w ∈ wsX50, w ∈ wsX5_winner := fun w h => List.mem_cons_of_mem _ (List.mem_append_left _ (List.mem_append_right _ h))
set_option maxRecDepth 20000 in
theorem m_X5_winner_f24 : Cond.fieldLink RX5 24 "TarockHall$Trick" "size" "I" ∈ wsX5_winner := by decide +kernel
set_option maxRecDepth 20000 in
theorem hv_X5_playerAt : yX5_playerAt.cls = RX5 ∧ yX5_playerAt.cls ≠ "java/lang/invoke/MethodHandle" ∧ yX5_playerAt.cls ≠ "java/lang/invoke/VarHandle" ∧ (parseMethodDescriptor yX5_playerAt.desc).map (fun d => d.parameters.length) = some 1 := by decide +kernel
set_option maxRecDepth 20000 in
theorem m_X5_winner_f14 : Cond.fieldLink RX5 14 "TarockHall$Trick" "cards" "LTarockHall$Row;" ∈ wsX5_winner := by decide +kernel
set_option maxRecDepth 20000 in
theorem hs_X5_beats : yX5_beats.cls ≠ "java/lang/invoke/MethodHandle" ∧ yX5_beats.cls ≠ "java/lang/invoke/VarHandle" ∧ (parseMethodDescriptor yX5_beats.desc).map (fun d => d.parameters.length) = some 2 := by decide +kernel
set_option maxRecDepth 20000 in
theorem i_X6_sideOf_X6 : ∀ w ∈ wsX60, w ∈ wsX6_sideOf := fun w h => List.mem_cons_of_mem _ (List.mem_append_right _ h)
set_option maxRecDepth 20000 in
theorem m_X6_sideOf_f59 : Cond.fieldLink RX6 59 "TarockHall" "declarer" "I" ∈ wsX6_sideOf := by decide +kernel
set_option maxRecDepth 20000 in
theorem m_X6_sideOf_f68 : Cond.fieldLink RX6 68 "TarockHall" "partner" "I" ∈ wsX6_sideOf := by decide +kernel
set_option maxRecDepth 20000 in
theorem i_X5_cardSet_X5 : ∀ w ∈ wsX50, w ∈ wsX5_cardSet := fun w h => List.mem_cons_of_mem _ (List.mem_append_left _ (List.mem_append_right _ h))
set_option maxRecDepth 20000 in
theorem m_X5_cardSet_f24 : Cond.fieldLink RX5 24 "TarockHall$Trick" "size" "I" ∈ wsX5_cardSet := by decide +kernel
set_option maxRecDepth 20000 in
theorem m_X5_cardSet_f14 : Cond.fieldLink RX5 14 "TarockHall$Trick" "cards" "LTarockHall$Row;" ∈ wsX5_cardSet := by decide +kernel
set_option maxRecDepth 20000 in
theorem m_X5_cardSet_iX6 : Cond.initialized RX6 ∈ wsX5_cardSet := by decide +kernel
set_option maxRecDepth 20000 in
theorem m_X5_cardSet_st_X6_only : Cond.static yX6_only ∈ wsX5_cardSet := by decide +kernel
set_option maxRecDepth 20000 in
theorem hs_X6_isWon : yX6_isWon.cls ≠ "java/lang/invoke/MethodHandle" ∧ yX6_isWon.cls ≠ "java/lang/invoke/VarHandle" ∧ (parseMethodDescriptor yX6_isWon.desc).map (fun d => d.parameters.length) = some 1 := by decide +kernel
set_option maxRecDepth 20000 in
theorem hs_X6_basePoints : yX6_basePoints.cls ≠ "java/lang/invoke/MethodHandle" ∧ yX6_basePoints.cls ≠ "java/lang/invoke/VarHandle" ∧ (parseMethodDescriptor yX6_basePoints.desc).map (fun d => d.parameters.length) = some 1 := by decide +kernel
set_option maxRecDepth 20000 in
theorem m_X6_gamePoints_m350 : Cond.methodLink RX6 350 Lib.Math.abs.name ∈ wsX6_gamePoints := by decide +kernel
set_option maxRecDepth 20000 in
theorem m_X6_gamePoints_s_abs : Cond.static Lib.Math.abs.name ∈ wsX6_gamePoints := by decide +kernel
set_option maxRecDepth 20000 in
theorem m_X6_gamePoints_iMath : Cond.initialized "java/lang/Math" ∈ wsX6_gamePoints := by decide +kernel
set_option maxRecDepth 20000 in
theorem m_X6_gamePoints_c_abs : Cond.code Lib.Math.abs.name Lib.Math.abs.code 1 (some .int) ∈ wsX6_gamePoints := by decide +kernel
set_option maxRecDepth 20000 in
theorem i_X5_playerOf_X5 : ∀ w ∈ wsX50, w ∈ wsX5_playerOf := fun w h => List.mem_cons_of_mem _ (List.mem_append_left _ (List.mem_append_right _ h))
set_option maxRecDepth 20000 in
theorem m_X5_playerOf_f24 : Cond.fieldLink RX5 24 "TarockHall$Trick" "size" "I" ∈ wsX5_playerOf := by decide +kernel
set_option maxRecDepth 20000 in
theorem m_X5_playerOf_f14 : Cond.fieldLink RX5 14 "TarockHall$Trick" "cards" "LTarockHall$Row;" ∈ wsX5_playerOf := by decide +kernel
set_option maxRecDepth 20000 in
theorem hv_X6_sideOf : yX6_sideOf.cls = RX6 ∧ yX6_sideOf.cls ≠ "java/lang/invoke/MethodHandle" ∧ yX6_sideOf.cls ≠ "java/lang/invoke/VarHandle" ∧ (parseMethodDescriptor yX6_sideOf.desc).map (fun d => d.parameters.length) = some 1 := by decide +kernel
set_option maxRecDepth 20000 in
theorem i_X6_pagatPoints_X6 : ∀ w ∈ wsX60, w ∈ wsX6_pagatPoints := fun w h => List.mem_cons_of_mem _ (List.mem_append_left _ (List.mem_append_left _ (List.mem_append_right _ h)))
set_option maxRecDepth 20000 in
theorem m_X6_pagatPoints_f26 : Cond.fieldLink RX6 26 "TarockHall" "trick" "LTarockHall$Trick;" ∈ wsX6_pagatPoints := by decide +kernel
set_option maxRecDepth 20000 in
theorem hv_X5_playerOf : yX5_playerOf.cls = RX5 ∧ yX5_playerOf.cls ≠ "java/lang/invoke/MethodHandle" ∧ yX5_playerOf.cls ≠ "java/lang/invoke/VarHandle" ∧ (parseMethodDescriptor yX5_playerOf.desc).map (fun d => d.parameters.length) = some 1 := by decide +kernel
set_option maxRecDepth 20000 in
theorem i_X6_kingPoints_X6 : ∀ w ∈ wsX60, w ∈ wsX6_kingPoints := fun w h => List.mem_cons_of_mem _ (List.mem_append_left _ (List.mem_append_left _ (List.mem_append_right _ h)))
set_option maxRecDepth 20000 in
theorem m_X6_kingPoints_f62 : Cond.fieldLink RX6 62 "TarockHall" "called" "I" ∈ wsX6_kingPoints := by decide +kernel
set_option maxRecDepth 20000 in
theorem m_X6_kingPoints_f26 : Cond.fieldLink RX6 26 "TarockHall" "trick" "LTarockHall$Trick;" ∈ wsX6_kingPoints := by decide +kernel
set_option maxRecDepth 20000 in
theorem i_X4_addScore_X4 : ∀ w ∈ wsX40, w ∈ wsX4_addScore := fun w h => List.mem_cons_of_mem _ (List.mem_append_left _ (List.mem_append_right _ h))
set_option maxRecDepth 20000 in
theorem m_X4_addScore_f14 : Cond.fieldLink RX4 14 "TarockHall$Sheet" "scores" "LTarockHall$Row;" ∈ wsX4_addScore := by decide +kernel
set_option maxRecDepth 20000 in
theorem m_X4_addScore_f27 : Cond.fieldLink RX4 27 "TarockHall$Sheet" "latest" "I" ∈ wsX4_addScore := by decide +kernel
set_option maxRecDepth 20000 in
theorem hv_X4_addScore : yX4_addScore.cls = RX4 ∧ yX4_addScore.cls ≠ "java/lang/invoke/MethodHandle" ∧ yX4_addScore.cls ≠ "java/lang/invoke/VarHandle" ∧ (parseMethodDescriptor yX4_addScore.desc).map (fun d => d.parameters.length) = some 1 := by decide +kernel
set_option maxRecDepth 20000 in
theorem i_X4_enter_X4 : ∀ w ∈ wsX40, w ∈ wsX4_enter := fun w h => List.mem_cons_of_mem _ (List.mem_append_left _ (List.mem_append_right _ h))
set_option maxRecDepth 20000 in
theorem m_X4_enter_f27 : Cond.fieldLink RX4 27 "TarockHall$Sheet" "latest" "I" ∈ wsX4_enter := by decide +kernel
set_option maxRecDepth 20000 in
theorem m_X4_enter_f20 : Cond.fieldLink RX4 20 "TarockHall$Sheet" "radli" "LTarockHall$Row;" ∈ wsX4_enter := by decide +kernel
set_option maxRecDepth 20000 in
theorem i_X4_giveRadli_X4 : ∀ w ∈ wsX40, w ∈ wsX4_giveRadli := fun w h => List.mem_cons_of_mem _ (List.mem_append_left _ (List.mem_append_right _ h))
set_option maxRecDepth 20000 in
theorem m_X4_giveRadli_f20 : Cond.fieldLink RX4 20 "TarockHall$Sheet" "radli" "LTarockHall$Row;" ∈ wsX4_giveRadli := by decide +kernel
set_option maxRecDepth 20000 in
theorem i_X6_enterResult_X6 : ∀ w ∈ wsX60, w ∈ wsX6_enterResult := fun w h => List.mem_cons_of_mem _ (List.mem_append_left _ (List.mem_append_left _ (List.mem_append_left _ (List.mem_append_left _ (List.mem_append_left _ (List.mem_append_right _ h))))))
set_option maxRecDepth 20000 in
theorem m_X6_enterResult_f19 : Cond.fieldLink RX6 19 "TarockHall" "bidding" "LTarockHall$Bidding;" ∈ wsX6_enterResult := by decide +kernel
set_option maxRecDepth 20000 in
theorem i_X6_enterResult_X0 : ∀ w ∈ wsX00, w ∈ wsX6_enterResult := fun w h => List.mem_cons_of_mem _ (List.mem_append_left _ (List.mem_append_left _ (List.mem_append_left _ (List.mem_append_left _ (List.mem_append_right _ h)))))
set_option maxRecDepth 20000 in
theorem m_X6_enterResult_f46 : Cond.fieldLink RX6 46 "TarockHall" "piles" "LTarockHall$Sets;" ∈ wsX6_enterResult := by decide +kernel
set_option maxRecDepth 20000 in
theorem hs_X6_thirdsOf : yX6_thirdsOf.cls ≠ "java/lang/invoke/MethodHandle" ∧ yX6_thirdsOf.cls ≠ "java/lang/invoke/VarHandle" ∧ (parseMethodDescriptor yX6_thirdsOf.desc).map (fun d => d.parameters.length) = some 1 := by decide +kernel
set_option maxRecDepth 20000 in
theorem hs_X6_gamePoints : yX6_gamePoints.cls ≠ "java/lang/invoke/MethodHandle" ∧ yX6_gamePoints.cls ≠ "java/lang/invoke/VarHandle" ∧ (parseMethodDescriptor yX6_gamePoints.desc).map (fun d => d.parameters.length) = some 2 := by decide +kernel
set_option maxRecDepth 20000 in
theorem hv_X6_pagatPoints : yX6_pagatPoints.cls = RX6 ∧ yX6_pagatPoints.cls ≠ "java/lang/invoke/MethodHandle" ∧ yX6_pagatPoints.cls ≠ "java/lang/invoke/VarHandle" ∧ (parseMethodDescriptor yX6_pagatPoints.desc).map (fun d => d.parameters.length) = some 1 := by decide +kernel
set_option maxRecDepth 20000 in
theorem hv_X6_kingPoints : yX6_kingPoints.cls = RX6 ∧ yX6_kingPoints.cls ≠ "java/lang/invoke/MethodHandle" ∧ yX6_kingPoints.cls ≠ "java/lang/invoke/VarHandle" ∧ (parseMethodDescriptor yX6_kingPoints.desc).map (fun d => d.parameters.length) = some 1 := by decide +kernel
set_option maxRecDepth 20000 in
theorem m_X6_enterResult_f33 : Cond.fieldLink RX6 33 "TarockHall" "sheet" "LTarockHall$Sheet;" ∈ wsX6_enterResult := by decide +kernel
set_option maxRecDepth 20000 in
theorem m_X6_enterResult_f59 : Cond.fieldLink RX6 59 "TarockHall" "declarer" "I" ∈ wsX6_enterResult := by decide +kernel
set_option maxRecDepth 20000 in
theorem m_X6_enterResult_f68 : Cond.fieldLink RX6 68 "TarockHall" "partner" "I" ∈ wsX6_enterResult := by decide +kernel
set_option maxRecDepth 20000 in
theorem hv_X4_enter : yX4_enter.cls = RX4 ∧ yX4_enter.cls ≠ "java/lang/invoke/MethodHandle" ∧ yX4_enter.cls ≠ "java/lang/invoke/VarHandle" ∧ (parseMethodDescriptor yX4_enter.desc).map (fun d => d.parameters.length) = some 4 := by decide +kernel
set_option maxRecDepth 20000 in
theorem hv_X4_giveRadli : yX4_giveRadli.cls = RX4 ∧ yX4_giveRadli.cls ≠ "java/lang/invoke/MethodHandle" ∧ yX4_giveRadli.cls ≠ "java/lang/invoke/VarHandle" ∧ (parseMethodDescriptor yX4_giveRadli.desc).map (fun d => d.parameters.length) = some 0 := by decide +kernel
set_option maxRecDepth 20000 in
theorem i_X6_endTrick_X6 : ∀ w ∈ wsX60, w ∈ wsX6_endTrick := fun w h => List.mem_cons_of_mem _ (List.mem_append_left _ (List.mem_append_left _ (List.mem_append_left _ (List.mem_append_left _ (List.mem_append_left _ (List.mem_append_right _ h))))))
set_option maxRecDepth 20000 in
theorem m_X6_endTrick_f26 : Cond.fieldLink RX6 26 "TarockHall" "trick" "LTarockHall$Trick;" ∈ wsX6_endTrick := by decide +kernel
set_option maxRecDepth 20000 in
theorem m_X6_endTrick_f46 : Cond.fieldLink RX6 46 "TarockHall" "piles" "LTarockHall$Sets;" ∈ wsX6_endTrick := by decide +kernel
set_option maxRecDepth 20000 in
theorem hv_X5_cardSet : yX5_cardSet.cls = RX5 ∧ yX5_cardSet.cls ≠ "java/lang/invoke/MethodHandle" ∧ yX5_cardSet.cls ≠ "java/lang/invoke/VarHandle" ∧ (parseMethodDescriptor yX5_cardSet.desc).map (fun d => d.parameters.length) = some 0 := by decide +kernel
set_option maxRecDepth 20000 in
theorem m_X6_endTrick_f199 : Cond.fieldLink RX6 199 "TarockHall" "tricks" "I" ∈ wsX6_endTrick := by decide +kernel
set_option maxRecDepth 20000 in
theorem m_X6_endTrick_f56 : Cond.fieldLink RX6 56 "TarockHall" "turn" "I" ∈ wsX6_endTrick := by decide +kernel
set_option maxRecDepth 20000 in
theorem hv_X6_enterResult : yX6_enterResult.cls = RX6 ∧ yX6_enterResult.cls ≠ "java/lang/invoke/MethodHandle" ∧ yX6_enterResult.cls ≠ "java/lang/invoke/VarHandle" ∧ (parseMethodDescriptor yX6_enterResult.desc).map (fun d => d.parameters.length) = some 1 := by decide +kernel
set_option maxRecDepth 20000 in
theorem i_X6_addToTrick_X6 : ∀ w ∈ wsX60, w ∈ wsX6_addToTrick := fun w h => List.mem_cons_of_mem _ (List.mem_append_left _ (List.mem_append_left _ (List.mem_append_left _ (List.mem_append_left _ (List.mem_append_left _ (List.mem_append_right _ h))))))
set_option maxRecDepth 20000 in
theorem m_X6_addToTrick_f42 : Cond.fieldLink RX6 42 "TarockHall" "hands" "LTarockHall$Sets;" ∈ wsX6_addToTrick := by decide +kernel
set_option maxRecDepth 20000 in
theorem m_X6_addToTrick_f56 : Cond.fieldLink RX6 56 "TarockHall" "turn" "I" ∈ wsX6_addToTrick := by decide +kernel
set_option maxRecDepth 20000 in
theorem m_X6_addToTrick_k166 : Cond.constantLong RX6 166 (-1) ∈ wsX6_addToTrick := by decide +kernel
set_option maxRecDepth 20000 in
theorem m_X6_addToTrick_f26 : Cond.fieldLink RX6 26 "TarockHall" "trick" "LTarockHall$Trick;" ∈ wsX6_addToTrick := by decide +kernel
set_option maxRecDepth 20000 in
theorem hv_X5_add : yX5_add.cls = RX5 ∧ yX5_add.cls ≠ "java/lang/invoke/MethodHandle" ∧ yX5_add.cls ≠ "java/lang/invoke/VarHandle" ∧ (parseMethodDescriptor yX5_add.desc).map (fun d => d.parameters.length) = some 1 := by decide +kernel
set_option maxRecDepth 20000 in
theorem i_X6_addToTrick_X5 : ∀ w ∈ wsX50, w ∈ wsX6_addToTrick := fun w h => List.mem_cons_of_mem _ (List.mem_append_left _ (List.mem_append_left _ (List.mem_append_left _ (List.mem_append_left _ (List.mem_append_right _ h)))))
set_option maxRecDepth 20000 in
theorem hv_X5_winner : yX5_winner.cls = RX5 ∧ yX5_winner.cls ≠ "java/lang/invoke/MethodHandle" ∧ yX5_winner.cls ≠ "java/lang/invoke/VarHandle" ∧ (parseMethodDescriptor yX5_winner.desc).map (fun d => d.parameters.length) = some 0 := by decide +kernel
set_option maxRecDepth 20000 in
theorem hv_X6_endTrick : yX6_endTrick.cls = RX6 ∧ yX6_endTrick.cls ≠ "java/lang/invoke/MethodHandle" ∧ yX6_endTrick.cls ≠ "java/lang/invoke/VarHandle" ∧ (parseMethodDescriptor yX6_endTrick.desc).map (fun d => d.parameters.length) = some 1 := by decide +kernel
set_option maxRecDepth 20000 in
theorem hv_X6_playableNow : yX6_playableNow.cls = RX6 ∧ yX6_playableNow.cls ≠ "java/lang/invoke/MethodHandle" ∧ yX6_playableNow.cls ≠ "java/lang/invoke/VarHandle" ∧ (parseMethodDescriptor yX6_playableNow.desc).map (fun d => d.parameters.length) = some 0 := by decide +kernel
set_option maxRecDepth 20000 in
theorem hv_X6_addToTrick : yX6_addToTrick.cls = RX6 ∧ yX6_addToTrick.cls ≠ "java/lang/invoke/MethodHandle" ∧ yX6_addToTrick.cls ≠ "java/lang/invoke/VarHandle" ∧ (parseMethodDescriptor yX6_addToTrick.desc).map (fun d => d.parameters.length) = some 1 := by decide +kernel
set_option maxRecDepth 20000 in
theorem h_X6_play_x83 : ∀ w ∈ (vx_atS RX6 83 "java/lang/IllegalStateException" ["java/lang/RuntimeException", "java/lang/Exception"]).filter goodWord, w ∈ wsX6_play := fun w h => List.mem_cons_of_mem _ (List.mem_append_right _ h)
set_option maxRecDepth 20000 in
theorem st_226 : ((226, "the card cannot be played now") : Nat × String) ∈ tk_strs := by decide +kernel
set_option maxRecDepth 20000 in
theorem m_X6_play_cl79 : Cond.classLink RX6 79 "java/lang/IllegalStateException" ∈ wsX6_play := by decide +kernel
set_option maxRecDepth 20000 in
theorem m_X6_play_ie2 : Cond.initialized "java/lang/IllegalStateException" ∈ wsX6_play := by decide +kernel
set_option maxRecDepth 20000 in
theorem h_X6_play_x130 : ∀ w ∈ (vx_atS RX6 130 "java/lang/IndexOutOfBoundsException" ["java/lang/RuntimeException", "java/lang/Exception"]).filter goodWord, w ∈ wsX6_play := fun w h => List.mem_cons_of_mem _ (List.mem_append_left _ (List.mem_append_right _ h))
set_option maxRecDepth 20000 in
theorem m_X6_play_cl126 : Cond.classLink RX6 126 "java/lang/IndexOutOfBoundsException" ∈ wsX6_play := by decide +kernel
set_option maxRecDepth 20000 in
theorem m_X6_play_ie3 : Cond.initialized "java/lang/IndexOutOfBoundsException" ∈ wsX6_play := by decide +kernel
set_option maxRecDepth 20000 in
theorem h_X6_playLowest_x76 : ∀ w ∈ (vx_atS RX6 76 "java/lang/IllegalArgumentException" ["java/lang/RuntimeException", "java/lang/Exception"]).filter goodWord, w ∈ wsX6_playLowest := fun w h => List.mem_cons_of_mem _ (List.mem_append_left _ (List.mem_append_right _ h))
set_option maxRecDepth 20000 in
theorem st_231 : ((231, "no such number of cards") : Nat × String) ∈ tk_strs := by decide +kernel
set_option maxRecDepth 20000 in
theorem m_X6_playLowest_cl72 : Cond.classLink RX6 72 "java/lang/IllegalArgumentException" ∈ wsX6_playLowest := by decide +kernel
set_option maxRecDepth 20000 in
theorem m_X6_playLowest_ie1 : Cond.initialized "java/lang/IllegalArgumentException" ∈ wsX6_playLowest := by decide +kernel
set_option maxRecDepth 20000 in
theorem i_X6_playLowest_X6 : ∀ w ∈ wsX60, w ∈ wsX6_playLowest := fun w h => List.mem_cons_of_mem _ (List.mem_append_left _ (List.mem_append_left _ (List.mem_append_left _ (List.mem_append_left _ (List.mem_append_left _ (List.mem_append_left _ (List.mem_append_left _ (List.mem_append_right _ h))))))))
set_option maxRecDepth 20000 in
theorem m_X6_playLowest_f53 : Cond.fieldLink RX6 53 "TarockHall" "phase" "I" ∈ wsX6_playLowest := by decide +kernel
set_option maxRecDepth 20000 in
theorem hs_X6_lowestOf : yX6_lowestOf.cls ≠ "java/lang/invoke/MethodHandle" ∧ yX6_lowestOf.cls ≠ "java/lang/invoke/VarHandle" ∧ (parseMethodDescriptor yX6_lowestOf.desc).map (fun d => d.parameters.length) = some 1 := by decide +kernel
set_option maxRecDepth 20000 in
theorem h_X6_playLowest_x83 : ∀ w ∈ (vx_atS RX6 83 "java/lang/IllegalStateException" ["java/lang/RuntimeException", "java/lang/Exception"]).filter goodWord, w ∈ wsX6_playLowest := fun w h => List.mem_cons_of_mem _ (List.mem_append_right _ h)
set_option maxRecDepth 20000 in
theorem st_233 : ((233, "nobody plays now") : Nat × String) ∈ tk_strs := by decide +kernel
set_option maxRecDepth 20000 in
theorem m_X6_playLowest_cl79 : Cond.classLink RX6 79 "java/lang/IllegalStateException" ∈ wsX6_playLowest := by decide +kernel
set_option maxRecDepth 20000 in
theorem m_X6_playLowest_ie2 : Cond.initialized "java/lang/IllegalStateException" ∈ wsX6_playLowest := by decide +kernel
set_option maxRecDepth 20000 in
theorem i_X6_phase_X6 : ∀ w ∈ wsX60, w ∈ wsX6_phase := fun w h => List.mem_cons_of_mem _ (List.mem_append_right _ h)
set_option maxRecDepth 20000 in
theorem m_X6_phase_f53 : Cond.fieldLink RX6 53 "TarockHall" "phase" "I" ∈ wsX6_phase := by decide +kernel
set_option maxRecDepth 20000 in
theorem i_X6_turn_X6 : ∀ w ∈ wsX60, w ∈ wsX6_turn := fun w h => List.mem_cons_of_mem _ (List.mem_append_right _ h)
set_option maxRecDepth 20000 in
theorem m_X6_turn_f56 : Cond.fieldLink RX6 56 "TarockHall" "turn" "I" ∈ wsX6_turn := by decide +kernel
set_option maxRecDepth 20000 in
theorem i_X6_declarer_X6 : ∀ w ∈ wsX60, w ∈ wsX6_declarer := fun w h => List.mem_cons_of_mem _ (List.mem_append_right _ h)
set_option maxRecDepth 20000 in
theorem m_X6_declarer_f59 : Cond.fieldLink RX6 59 "TarockHall" "declarer" "I" ∈ wsX6_declarer := by decide +kernel
set_option maxRecDepth 20000 in
theorem i_X6_level_X6 : ∀ w ∈ wsX60, w ∈ wsX6_level := fun w h => List.mem_cons_of_mem _ (List.mem_append_left _ (List.mem_append_right _ h))
set_option maxRecDepth 20000 in
theorem m_X6_level_f19 : Cond.fieldLink RX6 19 "TarockHall" "bidding" "LTarockHall$Bidding;" ∈ wsX6_level := by decide +kernel
set_option maxRecDepth 20000 in
theorem i_X6_level_X0 : ∀ w ∈ wsX00, w ∈ wsX6_level := fun w h => List.mem_cons_of_mem _ (List.mem_append_right _ h)
set_option maxRecDepth 20000 in
theorem i_X6_called_X6 : ∀ w ∈ wsX60, w ∈ wsX6_called := fun w h => List.mem_cons_of_mem _ (List.mem_append_right _ h)
set_option maxRecDepth 20000 in
theorem m_X6_called_f62 : Cond.fieldLink RX6 62 "TarockHall" "called" "I" ∈ wsX6_called := by decide +kernel
set_option maxRecDepth 20000 in
theorem i_X6_partner_X6 : ∀ w ∈ wsX60, w ∈ wsX6_partner := fun w h => List.mem_cons_of_mem _ (List.mem_append_right _ h)
set_option maxRecDepth 20000 in
theorem m_X6_partner_f68 : Cond.fieldLink RX6 68 "TarockHall" "partner" "I" ∈ wsX6_partner := by decide +kernel
set_option maxRecDepth 20000 in
theorem hs_X6_isPlayer : yX6_isPlayer.cls ≠ "java/lang/invoke/MethodHandle" ∧ yX6_isPlayer.cls ≠ "java/lang/invoke/VarHandle" ∧ (parseMethodDescriptor yX6_isPlayer.desc).map (fun d => d.parameters.length) = some 1 := by decide +kernel
set_option maxRecDepth 20000 in
theorem i_X6_hand_X6 : ∀ w ∈ wsX60, w ∈ wsX6_hand := fun w h => List.mem_cons_of_mem _ (List.mem_append_left _ (List.mem_append_left _ (List.mem_append_right _ h)))
set_option maxRecDepth 20000 in
theorem m_X6_hand_f42 : Cond.fieldLink RX6 42 "TarockHall" "hands" "LTarockHall$Sets;" ∈ wsX6_hand := by decide +kernel
set_option maxRecDepth 20000 in
theorem h_X6_hand_x130 : ∀ w ∈ (vx_atS RX6 130 "java/lang/IndexOutOfBoundsException" ["java/lang/RuntimeException", "java/lang/Exception"]).filter goodWord, w ∈ wsX6_hand := fun w h => List.mem_cons_of_mem _ (List.mem_append_right _ h)
set_option maxRecDepth 20000 in
theorem st_242 : ((242, "no such player") : Nat × String) ∈ tk_strs := by decide +kernel
set_option maxRecDepth 20000 in
theorem m_X6_hand_cl126 : Cond.classLink RX6 126 "java/lang/IndexOutOfBoundsException" ∈ wsX6_hand := by decide +kernel
set_option maxRecDepth 20000 in
theorem m_X6_hand_ie3 : Cond.initialized "java/lang/IndexOutOfBoundsException" ∈ wsX6_hand := by decide +kernel
set_option maxRecDepth 20000 in
theorem i_X1_cardAt_X1 : ∀ w ∈ wsX10, w ∈ wsX1_cardAt := fun w h => List.mem_cons_of_mem _ (List.mem_append_left _ (List.mem_append_right _ h))
set_option maxRecDepth 20000 in
theorem m_X1_cardAt_f14 : Cond.fieldLink RX1 14 "TarockHall$Deck" "row" "LTarockHall$Row;" ∈ wsX1_cardAt := by decide +kernel
set_option maxRecDepth 20000 in
theorem h_X6_talonAt_x130 : ∀ w ∈ (vx_atS RX6 130 "java/lang/IndexOutOfBoundsException" ["java/lang/RuntimeException", "java/lang/Exception"]).filter goodWord, w ∈ wsX6_talonAt := fun w h => List.mem_cons_of_mem _ (List.mem_append_left _ (List.mem_append_right _ h))
set_option maxRecDepth 20000 in
theorem st_244 : ((244, "no such place in the talon") : Nat × String) ∈ tk_strs := by decide +kernel
set_option maxRecDepth 20000 in
theorem m_X6_talonAt_cl126 : Cond.classLink RX6 126 "java/lang/IndexOutOfBoundsException" ∈ wsX6_talonAt := by decide +kernel
set_option maxRecDepth 20000 in
theorem m_X6_talonAt_ie3 : Cond.initialized "java/lang/IndexOutOfBoundsException" ∈ wsX6_talonAt := by decide +kernel
set_option maxRecDepth 20000 in
theorem i_X6_talonAt_X6 : ∀ w ∈ wsX60, w ∈ wsX6_talonAt := fun w h => List.mem_cons_of_mem _ (List.mem_append_left _ (List.mem_append_left _ (List.mem_append_left _ (List.mem_append_left _ (List.mem_append_right _ h)))))
set_option maxRecDepth 20000 in
theorem m_X6_talonAt_f49 : Cond.fieldLink RX6 49 "TarockHall" "forehand" "I" ∈ wsX6_talonAt := by decide +kernel
set_option maxRecDepth 20000 in
theorem m_X6_talonAt_f12 : Cond.fieldLink RX6 12 "TarockHall" "deck" "LTarockHall$Deck;" ∈ wsX6_talonAt := by decide +kernel
set_option maxRecDepth 20000 in
theorem hv_X1_cardAt : yX1_cardAt.cls = RX1 ∧ yX1_cardAt.cls ≠ "java/lang/invoke/MethodHandle" ∧ yX1_cardAt.cls ≠ "java/lang/invoke/VarHandle" ∧ (parseMethodDescriptor yX1_cardAt.desc).map (fun d => d.parameters.length) = some 1 := by decide +kernel
set_option maxRecDepth 20000 in
theorem h_X6_talonAt_x83 : ∀ w ∈ (vx_atS RX6 83 "java/lang/IllegalStateException" ["java/lang/RuntimeException", "java/lang/Exception"]).filter goodWord, w ∈ wsX6_talonAt := fun w h => List.mem_cons_of_mem _ (List.mem_append_right _ h)
set_option maxRecDepth 20000 in
theorem st_246 : ((246, "there was no deal") : Nat × String) ∈ tk_strs := by decide +kernel
set_option maxRecDepth 20000 in
theorem m_X6_talonAt_cl79 : Cond.classLink RX6 79 "java/lang/IllegalStateException" ∈ wsX6_talonAt := by decide +kernel
set_option maxRecDepth 20000 in
theorem m_X6_talonAt_ie2 : Cond.initialized "java/lang/IllegalStateException" ∈ wsX6_talonAt := by decide +kernel
set_option maxRecDepth 20000 in
theorem i_X6_inTrick_X6 : ∀ w ∈ wsX60, w ∈ wsX6_inTrick := fun w h => List.mem_cons_of_mem _ (List.mem_append_left _ (List.mem_append_right _ h))
set_option maxRecDepth 20000 in
theorem m_X6_inTrick_f26 : Cond.fieldLink RX6 26 "TarockHall" "trick" "LTarockHall$Trick;" ∈ wsX6_inTrick := by decide +kernel
set_option maxRecDepth 20000 in
theorem i_X6_inTrick_X5 : ∀ w ∈ wsX50, w ∈ wsX6_inTrick := fun w h => List.mem_cons_of_mem _ (List.mem_append_right _ h)
set_option maxRecDepth 20000 in
theorem i_X5_cardAt_X5 : ∀ w ∈ wsX50, w ∈ wsX5_cardAt := fun w h => List.mem_cons_of_mem _ (List.mem_append_left _ (List.mem_append_right _ h))
set_option maxRecDepth 20000 in
theorem m_X5_cardAt_f14 : Cond.fieldLink RX5 14 "TarockHall$Trick" "cards" "LTarockHall$Row;" ∈ wsX5_cardAt := by decide +kernel
set_option maxRecDepth 20000 in
theorem h_X6_trickAt_x130 : ∀ w ∈ (vx_atS RX6 130 "java/lang/IndexOutOfBoundsException" ["java/lang/RuntimeException", "java/lang/Exception"]).filter goodWord, w ∈ wsX6_trickAt := fun w h => List.mem_cons_of_mem _ (List.mem_append_right _ h)
set_option maxRecDepth 20000 in
theorem st_251 : ((251, "no such card in the trick") : Nat × String) ∈ tk_strs := by decide +kernel
set_option maxRecDepth 20000 in
theorem m_X6_trickAt_cl126 : Cond.classLink RX6 126 "java/lang/IndexOutOfBoundsException" ∈ wsX6_trickAt := by decide +kernel
set_option maxRecDepth 20000 in
theorem m_X6_trickAt_ie3 : Cond.initialized "java/lang/IndexOutOfBoundsException" ∈ wsX6_trickAt := by decide +kernel
set_option maxRecDepth 20000 in
theorem i_X6_trickAt_X6 : ∀ w ∈ wsX60, w ∈ wsX6_trickAt := fun w h => List.mem_cons_of_mem _ (List.mem_append_left _ (List.mem_append_left _ (List.mem_append_left _ (List.mem_append_right _ h))))
set_option maxRecDepth 20000 in
theorem m_X6_trickAt_f26 : Cond.fieldLink RX6 26 "TarockHall" "trick" "LTarockHall$Trick;" ∈ wsX6_trickAt := by decide +kernel
set_option maxRecDepth 20000 in
theorem i_X6_trickAt_X5 : ∀ w ∈ wsX50, w ∈ wsX6_trickAt := fun w h => List.mem_cons_of_mem _ (List.mem_append_left _ (List.mem_append_left _ (List.mem_append_right _ h)))
set_option maxRecDepth 20000 in
theorem hv_X5_cardAt : yX5_cardAt.cls = RX5 ∧ yX5_cardAt.cls ≠ "java/lang/invoke/MethodHandle" ∧ yX5_cardAt.cls ≠ "java/lang/invoke/VarHandle" ∧ (parseMethodDescriptor yX5_cardAt.desc).map (fun d => d.parameters.length) = some 1 := by decide +kernel
set_option maxRecDepth 20000 in
theorem h_X6_canPlay_x130 : ∀ w ∈ (vx_atS RX6 130 "java/lang/IndexOutOfBoundsException" ["java/lang/RuntimeException", "java/lang/Exception"]).filter goodWord, w ∈ wsX6_canPlay := fun w h => List.mem_cons_of_mem _ (List.mem_append_right _ h)
set_option maxRecDepth 20000 in
theorem m_X6_canPlay_cl126 : Cond.classLink RX6 126 "java/lang/IndexOutOfBoundsException" ∈ wsX6_canPlay := by decide +kernel
set_option maxRecDepth 20000 in
theorem m_X6_canPlay_ie3 : Cond.initialized "java/lang/IndexOutOfBoundsException" ∈ wsX6_canPlay := by decide +kernel
set_option maxRecDepth 20000 in
theorem i_X6_tricks_X6 : ∀ w ∈ wsX60, w ∈ wsX6_tricks := fun w h => List.mem_cons_of_mem _ (List.mem_append_right _ h)
set_option maxRecDepth 20000 in
theorem m_X6_tricks_f199 : Cond.fieldLink RX6 199 "TarockHall" "tricks" "I" ∈ wsX6_tricks := by decide +kernel
set_option maxRecDepth 20000 in
theorem h_X6_valueOf_x130 : ∀ w ∈ (vx_atS RX6 130 "java/lang/IndexOutOfBoundsException" ["java/lang/RuntimeException", "java/lang/Exception"]).filter goodWord, w ∈ wsX6_valueOf := fun w h => List.mem_cons_of_mem _ (List.mem_append_right _ h)
set_option maxRecDepth 20000 in
theorem m_X6_valueOf_cl126 : Cond.classLink RX6 126 "java/lang/IndexOutOfBoundsException" ∈ wsX6_valueOf := by decide +kernel
set_option maxRecDepth 20000 in
theorem m_X6_valueOf_ie3 : Cond.initialized "java/lang/IndexOutOfBoundsException" ∈ wsX6_valueOf := by decide +kernel
set_option maxRecDepth 20000 in
theorem hs_X6_isSide : yX6_isSide.cls ≠ "java/lang/invoke/MethodHandle" ∧ yX6_isSide.cls ≠ "java/lang/invoke/VarHandle" ∧ (parseMethodDescriptor yX6_isSide.desc).map (fun d => d.parameters.length) = some 1 := by decide +kernel
set_option maxRecDepth 20000 in
theorem i_X6_thirds_X6 : ∀ w ∈ wsX60, w ∈ wsX6_thirds := fun w h => List.mem_cons_of_mem _ (List.mem_append_left _ (List.mem_append_left _ (List.mem_append_right _ h)))
set_option maxRecDepth 20000 in
theorem m_X6_thirds_f46 : Cond.fieldLink RX6 46 "TarockHall" "piles" "LTarockHall$Sets;" ∈ wsX6_thirds := by decide +kernel
set_option maxRecDepth 20000 in
theorem h_X6_thirds_x130 : ∀ w ∈ (vx_atS RX6 130 "java/lang/IndexOutOfBoundsException" ["java/lang/RuntimeException", "java/lang/Exception"]).filter goodWord, w ∈ wsX6_thirds := fun w h => List.mem_cons_of_mem _ (List.mem_append_right _ h)
set_option maxRecDepth 20000 in
theorem st_260 : ((260, "no such side") : Nat × String) ∈ tk_strs := by decide +kernel
set_option maxRecDepth 20000 in
theorem m_X6_thirds_cl126 : Cond.classLink RX6 126 "java/lang/IndexOutOfBoundsException" ∈ wsX6_thirds := by decide +kernel
set_option maxRecDepth 20000 in
theorem m_X6_thirds_ie3 : Cond.initialized "java/lang/IndexOutOfBoundsException" ∈ wsX6_thirds := by decide +kernel
set_option maxRecDepth 20000 in
theorem i_X6_byPacks_X6 : ∀ w ∈ wsX60, w ∈ wsX6_byPacks := fun w h => List.mem_cons_of_mem _ (List.mem_append_left _ (List.mem_append_left _ (List.mem_append_right _ h)))
set_option maxRecDepth 20000 in
theorem m_X6_byPacks_f46 : Cond.fieldLink RX6 46 "TarockHall" "piles" "LTarockHall$Sets;" ∈ wsX6_byPacks := by decide +kernel
set_option maxRecDepth 20000 in
theorem hs_X6_packPointsOf : yX6_packPointsOf.cls ≠ "java/lang/invoke/MethodHandle" ∧ yX6_packPointsOf.cls ≠ "java/lang/invoke/VarHandle" ∧ (parseMethodDescriptor yX6_packPointsOf.desc).map (fun d => d.parameters.length) = some 1 := by decide +kernel
set_option maxRecDepth 20000 in
theorem h_X6_byPacks_x130 : ∀ w ∈ (vx_atS RX6 130 "java/lang/IndexOutOfBoundsException" ["java/lang/RuntimeException", "java/lang/Exception"]).filter goodWord, w ∈ wsX6_byPacks := fun w h => List.mem_cons_of_mem _ (List.mem_append_right _ h)
set_option maxRecDepth 20000 in
theorem m_X6_byPacks_cl126 : Cond.classLink RX6 126 "java/lang/IndexOutOfBoundsException" ∈ wsX6_byPacks := by decide +kernel
set_option maxRecDepth 20000 in
theorem m_X6_byPacks_ie3 : Cond.initialized "java/lang/IndexOutOfBoundsException" ∈ wsX6_byPacks := by decide +kernel
set_option maxRecDepth 20000 in
theorem i_X6_score_X6 : ∀ w ∈ wsX60, w ∈ wsX6_score := fun w h => List.mem_cons_of_mem _ (List.mem_append_left _ (List.mem_append_left _ (List.mem_append_left _ (List.mem_append_right _ h))))
set_option maxRecDepth 20000 in
theorem m_X6_score_f33 : Cond.fieldLink RX6 33 "TarockHall" "sheet" "LTarockHall$Sheet;" ∈ wsX6_score := by decide +kernel
set_option maxRecDepth 20000 in
theorem i_X6_score_X4 : ∀ w ∈ wsX40, w ∈ wsX6_score := fun w h => List.mem_cons_of_mem _ (List.mem_append_left _ (List.mem_append_left _ (List.mem_append_right _ h)))
set_option maxRecDepth 20000 in
theorem h_X6_score_x130 : ∀ w ∈ (vx_atS RX6 130 "java/lang/IndexOutOfBoundsException" ["java/lang/RuntimeException", "java/lang/Exception"]).filter goodWord, w ∈ wsX6_score := fun w h => List.mem_cons_of_mem _ (List.mem_append_right _ h)
set_option maxRecDepth 20000 in
theorem m_X6_score_cl126 : Cond.classLink RX6 126 "java/lang/IndexOutOfBoundsException" ∈ wsX6_score := by decide +kernel
set_option maxRecDepth 20000 in
theorem m_X6_score_ie3 : Cond.initialized "java/lang/IndexOutOfBoundsException" ∈ wsX6_score := by decide +kernel
set_option maxRecDepth 20000 in
theorem i_X6_radli_X6 : ∀ w ∈ wsX60, w ∈ wsX6_radli := fun w h => List.mem_cons_of_mem _ (List.mem_append_left _ (List.mem_append_left _ (List.mem_append_left _ (List.mem_append_right _ h))))
set_option maxRecDepth 20000 in
theorem m_X6_radli_f33 : Cond.fieldLink RX6 33 "TarockHall" "sheet" "LTarockHall$Sheet;" ∈ wsX6_radli := by decide +kernel
set_option maxRecDepth 20000 in
theorem i_X6_radli_X4 : ∀ w ∈ wsX40, w ∈ wsX6_radli := fun w h => List.mem_cons_of_mem _ (List.mem_append_left _ (List.mem_append_left _ (List.mem_append_right _ h)))
set_option maxRecDepth 20000 in
theorem h_X6_radli_x130 : ∀ w ∈ (vx_atS RX6 130 "java/lang/IndexOutOfBoundsException" ["java/lang/RuntimeException", "java/lang/Exception"]).filter goodWord, w ∈ wsX6_radli := fun w h => List.mem_cons_of_mem _ (List.mem_append_right _ h)
set_option maxRecDepth 20000 in
theorem m_X6_radli_cl126 : Cond.classLink RX6 126 "java/lang/IndexOutOfBoundsException" ∈ wsX6_radli := by decide +kernel
set_option maxRecDepth 20000 in
theorem m_X6_radli_ie3 : Cond.initialized "java/lang/IndexOutOfBoundsException" ∈ wsX6_radli := by decide +kernel
set_option maxRecDepth 20000 in
theorem i_X6_result_X6 : ∀ w ∈ wsX60, w ∈ wsX6_result := fun w h => List.mem_cons_of_mem _ (List.mem_append_left _ (List.mem_append_right _ h))
set_option maxRecDepth 20000 in
theorem m_X6_result_f33 : Cond.fieldLink RX6 33 "TarockHall" "sheet" "LTarockHall$Sheet;" ∈ wsX6_result := by decide +kernel
set_option maxRecDepth 20000 in
theorem i_X6_result_X4 : ∀ w ∈ wsX40, w ∈ wsX6_result := fun w h => List.mem_cons_of_mem _ (List.mem_append_right _ h)
set_option maxRecDepth 20000 in
theorem i_X6_sidesAreOpen_X6 : ∀ w ∈ wsX60, w ∈ wsX6_sidesAreOpen := fun w h => List.mem_cons_of_mem _ (List.mem_append_left _ (List.mem_append_right _ h))
set_option maxRecDepth 20000 in
theorem m_X6_sidesAreOpen_f62 : Cond.fieldLink RX6 62 "TarockHall" "called" "I" ∈ wsX6_sidesAreOpen := by decide +kernel
set_option maxRecDepth 20000 in
theorem m_X6_sidesAreOpen_f65 : Cond.fieldLink RX6 65 "TarockHall" "kingOwner" "I" ∈ wsX6_sidesAreOpen := by decide +kernel
set_option maxRecDepth 20000 in
theorem m_X6_sidesAreOpen_f42 : Cond.fieldLink RX6 42 "TarockHall" "hands" "LTarockHall$Sets;" ∈ wsX6_sidesAreOpen := by decide +kernel
set_option maxRecDepth 20000 in
theorem h_X6_knows_x130 : ∀ w ∈ (vx_atS RX6 130 "java/lang/IndexOutOfBoundsException" ["java/lang/RuntimeException", "java/lang/Exception"]).filter goodWord, w ∈ wsX6_knows := fun w h => List.mem_cons_of_mem _ (List.mem_append_right _ h)
set_option maxRecDepth 20000 in
theorem m_X6_knows_cl126 : Cond.classLink RX6 126 "java/lang/IndexOutOfBoundsException" ∈ wsX6_knows := by decide +kernel
set_option maxRecDepth 20000 in
theorem m_X6_knows_ie3 : Cond.initialized "java/lang/IndexOutOfBoundsException" ∈ wsX6_knows := by decide +kernel
set_option maxRecDepth 20000 in
theorem i_X6_knows_X6 : ∀ w ∈ wsX60, w ∈ wsX6_knows := fun w h => List.mem_cons_of_mem _ (List.mem_append_left _ (List.mem_append_left _ (List.mem_append_right _ h)))
set_option maxRecDepth 20000 in
theorem m_X6_knows_f59 : Cond.fieldLink RX6 59 "TarockHall" "declarer" "I" ∈ wsX6_knows := by decide +kernel
set_option maxRecDepth 20000 in
theorem m_X6_knows_f53 : Cond.fieldLink RX6 53 "TarockHall" "phase" "I" ∈ wsX6_knows := by decide +kernel
set_option maxRecDepth 20000 in
theorem m_X6_knows_f65 : Cond.fieldLink RX6 65 "TarockHall" "kingOwner" "I" ∈ wsX6_knows := by decide +kernel
set_option maxRecDepth 20000 in
theorem hv_X6_sidesAreOpen : yX6_sidesAreOpen.cls = RX6 ∧ yX6_sidesAreOpen.cls ≠ "java/lang/invoke/MethodHandle" ∧ yX6_sidesAreOpen.cls ≠ "java/lang/invoke/VarHandle" ∧ (parseMethodDescriptor yX6_sidesAreOpen.desc).map (fun d => d.parameters.length) = some 0 := by decide +kernel
