abbrev rm_X7_thrown : Room := { frames := 0, cells := 0, slots := 0, locals := 0 }
set_option maxHeartbeats 4000000 in
set_option maxRecDepth 100000 in
theorem c_X7_thrown (l : Launch) (G : va_G) (c3 : ClassId × ClassId × ClassId) (q : Nat → Nat) (S : tk_ST) (r0 : Int32) (hf : f_X7_thrown S = some r0) : tk_Mi l yX7_thrown wsX7_thrown rm_X7_thrown G c3 [.ref (q 17)] (tk_M c3 q S) (tk_M c3 q S) r0 := by
  refine tk_ofi (cc := cX7_thrown) (maxL := 1) (ret := some .int) (by decide) rfl (Nat.le_of_ble_eq_true rfl) ?_
  intro p e s m below meth c A Q ls H locs hx hb hml hr hts hown hlocks hE hA hP hD hS hZ hQ hl
  have hl : lv_has ls 1 [(0, .ref (q 17))] := hl
  have hown : s.vm.findClass RX7 = some m.cls := hown
  unfold f_X7_thrown at hf
  refine lv_aload_n hx hb dX7_thrown_0 rfl (lv_at hl 0 rfl) ?_
  refine va_get (D := G) (ci := 7) (v := .int (S.1 0)) (C := RX7) (T := TX7) (N := 29) hx hb hts i_X7_thrown_X7 hown hE.1 hP 0 rfl rfl 0 (by decide) (hts _ m_X7_thrown_f58) (fun _ h9 => h9) rfl dX7_thrown_1 ?_
  exact tk_ri hQ (tk_s1 hf) rfl hx hb hr hlocks hP hD hS dX7_thrown_4
abbrev rm_X7_isFine : Room := { frames := 0, cells := 0, slots := 0, locals := 0 }
set_option maxHeartbeats 4000000 in
set_option maxRecDepth 100000 in
theorem c_X7_isFine (l : Launch) (G : va_G) (c3 : ClassId × ClassId × ClassId) (q : Nat → Nat) (S : tk_ST) (p0 : Int32) (r0 : Int32) (S0 : tk_ST) (hf : f_X7_isFine p0 S = some (r0, S0)) : tk_Mi l yX7_isFine wsX7_isFine rm_X7_isFine G c3 [.ref (q 17), .int p0] (tk_M c3 q S) (tk_M c3 q S0) r0 := by
  refine tk_ofi (cc := cX7_isFine) (maxL := 2) (ret := some .boolean) (by decide) rfl (Nat.le_of_ble_eq_true rfl) ?_
  intro p e s m below meth c A Q ls H locs hx hb hml hr hts hown hlocks hE hA hP hD hS hZ hQ hl
  have hl : lv_has ls 2 [(0, .ref (q 17)), (1, .int p0)] := hl
  have hown : s.vm.findClass RX7 = some m.cls := hown
  unfold f_X7_isFine at hf
  refine lv_aload_n hx hb dX7_isFine_0 rfl (lv_at hl 0 rfl) ?_
  refine lv_iload_n hx hb dX7_isFine_1 rfl (lv_at hl 1 rfl) ?_
  refine va_put (D := G) (ci := 7) (v := .int p0) (ty := .int) (C := RX7) (T := TX7) (N := 29) hx hb hts i_X7_isFine_X7 tyX7 tyX7_ok nmX7 hown hE.1 hP hD hS 0 rfl rfl 0 (by decide) (hts _ m_X7_isFine_f58) (fun _ h9 => h9) rfl (by decide +kernel) rfl rfl (Nat.le_of_ble_eq_true rfl) dX7_isFine_2 (fun H locs hP hD hS => ?_)
  have hP : va_P G vwCl (tk_M c3 q (tk_I S 0 p0)) H := hP
  have hD : va_D A (tk_M c3 q (tk_I S 0 p0)) := hD
  refine lv_iload_n hx hb dX7_isFine_5 rfl (lv_at hl 1 rfl) ?_
  refine lv_if_ne (tgt := 13) hx hb dX7_isFine_6 (by decide) (fun h1 => ?_) (fun h1 => ?_)
  · have hf := tk_neg hf h1
    refine lv_iconst (v := 0) hx hb dX7_isFine_13 (by decide) ?_
    exact tk_rz hQ (tk_s2 hf).1 (congrArg (tk_M c3 q) (tk_s2 hf).2) (by decide) hx hb hr hlocks hP hD hS dX7_isFine_14
  · have hf := tk_pos hf h1
    refine lv_iconst (v := 1) hx hb dX7_isFine_9 (by decide) ?_
    refine lv_goto (tgt := 14) hx hb dX7_isFine_10 (by decide) ?_
    exact tk_rz hQ (tk_s2 hf).1 (congrArg (tk_M c3 q) (tk_s2 hf).2) (by decide) hx hb hr hlocks hP hD hS dX7_isFine_14
abbrev rm_X7_isIn : Room := { frames := 0, cells := 0, slots := 0, locals := 0 }
set_option maxHeartbeats 4000000 in
set_option maxRecDepth 100000 in
theorem c_X7_isIn (l : Launch) (G : va_G) (c3 : ClassId × ClassId × ClassId) (ws : va_W) (p0 : Int32) (p1 : Int32) (p2 : Int32) (r0 : Int32) (hf : f_X7_isIn p0 p1 p2 = some r0) : tk_Mi l yX7_isIn wsX7_isIn rm_X7_isIn G c3 [.int p0, .int p1, .int p2] ws ws r0 := by
  refine tk_ofi (cc := cX7_isIn) (maxL := 3) (ret := some .boolean) (by decide) rfl (Nat.le_of_ble_eq_true rfl) ?_
  intro p e s m below meth c A Q ls H locs hx hb hml hr hts hown hlocks hE hA hP hD hS hZ hQ hl
  have hl : lv_has ls 3 [(0, .int p0), (1, .int p1), (2, .int p2)] := hl
  have hown : s.vm.findClass RX7 = some m.cls := hown
  unfold f_X7_isIn at hf
  refine lv_iload_n hx hb dX7_isIn_0 rfl (lv_at hl 0 rfl) ?_
  refine lv_iload_n hx hb dX7_isIn_1 rfl (lv_at hl 1 rfl) ?_
  refine lv_icmp_lt (tgt := 14) hx hb dX7_isIn_2 (by decide) (fun h1 => ?_) (fun h1 => ?_)
  · have hf := tk_pos hf h1
    refine lv_iconst (v := 0) hx hb dX7_isIn_14 (by decide) ?_
    exact tk_rz hQ (tk_s1 hf) rfl (by decide) hx hb hr hlocks hP hD hS dX7_isIn_15
  · have hf := tk_neg hf h1
    refine lv_iload_n hx hb dX7_isIn_5 rfl (lv_at hl 0 rfl) ?_
    refine lv_iload_n hx hb dX7_isIn_6 rfl (lv_at hl 2 rfl) ?_
    refine lv_icmp_gt (tgt := 14) hx hb dX7_isIn_7 (by decide) (fun h2 => ?_) (fun h2 => ?_)
    · have hf := tk_pos hf h2
      refine lv_iconst (v := 0) hx hb dX7_isIn_14 (by decide) ?_
      exact tk_rz hQ (tk_s1 hf) rfl (by decide) hx hb hr hlocks hP hD hS dX7_isIn_15
    · have hf := tk_neg hf h2
      refine lv_iconst (v := 1) hx hb dX7_isIn_10 (by decide) ?_
      refine lv_goto (tgt := 15) hx hb dX7_isIn_11 (by decide) ?_
      exact tk_rz hQ (tk_s1 hf) rfl (by decide) hx hb hr hlocks hP hD hS dX7_isIn_15
abbrev rm_X7_isPlayer : Room := { frames := 1, cells := 0, slots := 0, locals := 22 }
set_option maxHeartbeats 4000000 in
set_option maxRecDepth 100000 in
theorem c_X7_isPlayer (l : Launch) (G : va_G) (c3 : ClassId × ClassId × ClassId) (ws : va_W) (p0 : Int32) (r0 : Int32) (hf : f_X7_isPlayer p0 = some r0) : tk_Mi l yX7_isPlayer wsX7_isPlayer rm_X7_isPlayer G c3 [.int p0] ws ws r0 := by
  refine tk_ofi (cc := cX7_isPlayer) (maxL := 1) (ret := some .boolean) (by decide) rfl (Nat.le_of_ble_eq_true rfl) ?_
  intro p e s m below meth c A Q ls H locs hx hb hml hr hts hown hlocks hE hA hP hD hS hZ hQ hl
  have hl : lv_has ls 1 [(0, .int p0)] := hl
  have hown : s.vm.findClass RX7 = some m.cls := hown
  unfold f_X7_isPlayer at hf
  refine lv_iload_n hx hb dX7_isPlayer_0 rfl (lv_at hl 0 rfl) ?_
  refine lv_iconst (v := 0) hx hb dX7_isPlayer_1 (by decide) ?_
  refine lv_iconst (v := 3) hx hb dX7_isPlayer_2 (by decide) ?_
  obtain ⟨r1, h2, hf⟩ := tk_b1s hf
  refine tk_ci (ws' := ws) (va_runS (As := [.int p0, .int (0 : Int32), .int (3 : Int32)]) (rest := []) ⟨hx, hb, hml, hown, hts⟩ (c_X7_isIn l G c3 ws p0 (0 : Int32) (3 : Int32) r1 h2 H.size) (va_cwS 3 hts gX7_isPlayer_X7_isIn rfl rfl rfl hs_X7_isIn ⟨Nat.le_of_ble_eq_true rfl, Nat.le_of_ble_eq_true rfl⟩) (tk_pS hE hP hD) rfl rfl hl.1 rfl (lv_room (Nat.le_of_ble_eq_true rfl)) dX7_isPlayer_3 ⟨Nat.zero_le _, Nat.zero_le _⟩) hD hS hA (fun H locs hP hD hS => ?_)
  obtain ⟨h4, hf⟩ := tk_yes hf
  exact tk_rz hQ (tk_s1 hf) rfl h4 hx hb hr hlocks hP hD hS dX7_isPlayer_6
abbrev rm_X7_isCard : Room := { frames := 1, cells := 0, slots := 0, locals := 22 }
set_option maxHeartbeats 4000000 in
set_option maxRecDepth 100000 in
theorem c_X7_isCard (l : Launch) (G : va_G) (c3 : ClassId × ClassId × ClassId) (ws : va_W) (p0 : Int32) (r0 : Int32) (hf : f_X7_isCard p0 = some r0) : tk_Mi l yX7_isCard wsX7_isCard rm_X7_isCard G c3 [.int p0] ws ws r0 := by
  refine tk_ofi (cc := cX7_isCard) (maxL := 1) (ret := some .boolean) (by decide) rfl (Nat.le_of_ble_eq_true rfl) ?_
  intro p e s m below meth c A Q ls H locs hx hb hml hr hts hown hlocks hE hA hP hD hS hZ hQ hl
  have hl : lv_has ls 1 [(0, .int p0)] := hl
  have hown : s.vm.findClass RX7 = some m.cls := hown
  unfold f_X7_isCard at hf
  refine lv_iload_n hx hb dX7_isCard_0 rfl (lv_at hl 0 rfl) ?_
  refine lv_iconst (v := 0) hx hb dX7_isCard_1 (by decide) ?_
  refine lv_bipush (v := 53) hx hb dX7_isCard_2 (by decide) ?_
  obtain ⟨r1, h2, hf⟩ := tk_b1s hf
  refine tk_ci (ws' := ws) (va_runS (As := [.int p0, .int (0 : Int32), .int (53 : Int32)]) (rest := []) ⟨hx, hb, hml, hown, hts⟩ (c_X7_isIn l G c3 ws p0 (0 : Int32) (53 : Int32) r1 h2 H.size) (va_cwS 3 hts gX7_isCard_X7_isIn rfl rfl rfl hs_X7_isIn ⟨Nat.le_of_ble_eq_true rfl, Nat.le_of_ble_eq_true rfl⟩) (tk_pS hE hP hD) rfl rfl hl.1 rfl (lv_room (Nat.le_of_ble_eq_true rfl)) dX7_isCard_4 ⟨Nat.zero_le _, Nat.zero_le _⟩) hD hS hA (fun H locs hP hD hS => ?_)
  obtain ⟨h4, hf⟩ := tk_yes hf
  exact tk_rz hQ (tk_s1 hf) rfl h4 hx hb hr hlocks hP hD hS dX7_isCard_7
abbrev rm_X7_suit : Room := { frames := 0, cells := 0, slots := 0, locals := 0 }
set_option maxHeartbeats 4000000 in
set_option maxRecDepth 100000 in
theorem c_X7_suit (l : Launch) (G : va_G) (c3 : ClassId × ClassId × ClassId) (ws : va_W) (p0 : Int32) (r0 : Int32) (hf : f_X7_suit p0 = some r0) : tk_Mi l yX7_suit wsX7_suit rm_X7_suit G c3 [.int p0] ws ws r0 := by
  refine tk_ofi (cc := cX7_suit) (maxL := 1) (ret := some .int) (by decide) rfl (Nat.le_of_ble_eq_true rfl) ?_
  intro p e s m below meth c A Q ls H locs hx hb hml hr hts hown hlocks hE hA hP hD hS hZ hQ hl
  have hl : lv_has ls 1 [(0, .int p0)] := hl
  have hown : s.vm.findClass RX7 = some m.cls := hown
  unfold f_X7_suit at hf
  refine lv_iload_n hx hb dX7_suit_0 rfl (lv_at hl 0 rfl) ?_
  refine lv_bipush (v := 32) hx hb dX7_suit_1 (by decide) ?_
  refine lv_icmp_ge (tgt := 13) hx hb dX7_suit_3 (by decide) (fun h1 => ?_) (fun h1 => ?_)
  · have hf := tk_pos hf h1
    refine lv_iconst (v := 4) hx hb dX7_suit_13 (by decide) ?_
    exact tk_ri hQ (tk_s1 hf) rfl hx hb hr hlocks hP hD hS dX7_suit_14
  · have hf := tk_neg hf h1
    refine lv_iload_n hx hb dX7_suit_6 rfl (lv_at hl 0 rfl) ?_
    refine lv_bipush (v := 8) hx hb dX7_suit_7 (by decide) ?_
    refine lv_idiv hx hb dX7_suit_9 (by decide) ?_
    refine lv_goto (tgt := 14) hx hb dX7_suit_10 (by decide) ?_
    exact tk_ri hQ (tk_s1 hf) rfl hx hb hr hlocks hP hD hS dX7_suit_14
abbrev rm_X7_worth : Room := { frames := 0, cells := 0, slots := 0, locals := 0 }
set_option maxHeartbeats 4000000 in
set_option maxRecDepth 100000 in
theorem c_X7_worth (l : Launch) (G : va_G) (c3 : ClassId × ClassId × ClassId) (ws : va_W) (p0 : Int32) (r0 : Int32) (hf : f_X7_worth p0 = some r0) : tk_Mi l yX7_worth wsX7_worth rm_X7_worth G c3 [.int p0] ws ws r0 := by
  refine tk_ofi (cc := cX7_worth) (maxL := 1) (ret := some .int) (by decide) rfl (Nat.le_of_ble_eq_true rfl) ?_
  intro p e s m below meth c A Q ls H locs hx hb hml hr hts hown hlocks hE hA hP hD hS hZ hQ hl
  have hl : lv_has ls 1 [(0, .int p0)] := hl
  have hown : s.vm.findClass RX7 = some m.cls := hown
  have J_18 : ∀ (H : Heap) (locs : List Loc) (_ : va_P G vwCl ws H) (_ : va_D A ws) (_ : va_S A s.heap H locs) (ls : Array Slot) (_ : lv_has ls 1 []) (_ : f_X7_worth_18 = some r0), W p l e rm_X7_worth s m ([.int p0] : List Value).toArray below meth c H locs 0 0 Q (F0 m 18 ls []) := by
    intro  H locs hP hD hS ls hl hf
    unfold f_X7_worth_18 at hf
    refine lv_iconst (v := 5) hx hb dX7_worth_18 (by decide) ?_
    refine lv_goto (tgt := 23) hx hb dX7_worth_19 (by decide) ?_
    exact tk_ri hQ (tk_s1 hf) rfl hx hb hr hlocks hP hD hS dX7_worth_23
  unfold f_X7_worth at hf
  refine lv_iload_n hx hb dX7_worth_0 rfl (lv_at hl 0 rfl) ?_
  refine lv_bipush (v := 32) hx hb dX7_worth_1 (by decide) ?_
  refine lv_icmp_lt (tgt := 24) hx hb dX7_worth_3 (by decide) (fun h1 => ?_) (fun h1 => ?_)
  · have hf := tk_pos hf h1
    refine lv_iload_n hx hb dX7_worth_24 rfl (lv_at hl 0 rfl) ?_
    refine lv_bipush (v := 8) hx hb dX7_worth_25 (by decide) ?_
    refine tk_irem hx hb dX7_worth_27 (by decide) ?_
    refine lv_iconst (v := 3) hx hb dX7_worth_28 (by decide) ?_
    refine lv_icmp_le (tgt := 41) hx hb dX7_worth_29 (by decide) (fun h2 => ?_) (fun h2 => ?_)
    · have hf := tk_pos hf h2
      refine lv_iconst (v := 1) hx hb dX7_worth_41 (by decide) ?_
      exact tk_ri hQ (tk_s1 hf) rfl hx hb hr hlocks hP hD hS dX7_worth_42
    · have hf := tk_neg hf h2
      refine lv_iload_n hx hb dX7_worth_32 rfl (lv_at hl 0 rfl) ?_
      refine lv_bipush (v := 8) hx hb dX7_worth_33 (by decide) ?_
      refine tk_irem hx hb dX7_worth_35 (by decide) ?_
      refine lv_iconst (v := 2) hx hb dX7_worth_36 (by decide) ?_
      refine lv_isub hx hb dX7_worth_37 ?_
      refine lv_goto (tgt := 42) hx hb dX7_worth_38 (by decide) ?_
      exact tk_ri hQ (tk_s1 hf) rfl hx hb hr hlocks hP hD hS dX7_worth_42
  · have hf := tk_neg hf h1
    refine lv_iload_n hx hb dX7_worth_6 rfl (lv_at hl 0 rfl) ?_
    refine lv_bipush (v := 32) hx hb dX7_worth_7 (by decide) ?_
    refine lv_icmp_eq (tgt := 18) hx hb dX7_worth_9 (by decide) (fun h3 => ?_) (fun h3 => ?_)
    · have hf := tk_pos hf h3
      exact J_18 H locs hP hD hS ls (lv_sub hl [] rfl) hf
    · have hf := tk_neg hf h3
      refine lv_iload_n hx hb dX7_worth_12 rfl (lv_at hl 0 rfl) ?_
      refine lv_bipush (v := 52) hx hb dX7_worth_13 (by decide) ?_
      refine lv_icmp_lt (tgt := 22) hx hb dX7_worth_15 (by decide) (fun h4 => ?_) (fun h4 => ?_)
      · have hf := tk_pos hf h4
        refine lv_iconst (v := 1) hx hb dX7_worth_22 (by decide) ?_
        exact tk_ri hQ (tk_s1 hf) rfl hx hb hr hlocks hP hD hS dX7_worth_23
      · have hf := tk_neg hf h4
        exact J_18 H locs hP hD hS ls (lv_sub hl [] rfl) hf
abbrev rm_X7_has : Room := { frames := 0, cells := 0, slots := 0, locals := 0 }
set_option maxHeartbeats 4000000 in
set_option maxRecDepth 100000 in
theorem c_X7_has (l : Launch) (G : va_G) (c3 : ClassId × ClassId × ClassId) (ws : va_W) (p0 : Int64) (p1 : Int32) (r0 : Int32) (hf : f_X7_has p0 p1 = some r0) : tk_Mi l yX7_has wsX7_has rm_X7_has G c3 [.long p0, .int p1] ws ws r0 := by
  refine tk_ofi (cc := cX7_has) (maxL := 3) (ret := some .boolean) (by decide) rfl (Nat.le_of_ble_eq_true rfl) ?_
  intro p e s m below meth c A Q ls H locs hx hb hml hr hts hown hlocks hE hA hP hD hS hZ hQ hl
  have hl : lv_has ls 3 [(0, .long p0), (2, .int p1)] := hl
  have hown : s.vm.findClass RX7 = some m.cls := hown
  unfold f_X7_has at hf
  refine lv_lload_n hx hb dX7_has_0 rfl (lv_at hl 0 rfl) ?_
  refine lv_iload_n hx hb dX7_has_1 rfl (lv_at hl 1 rfl) ?_
  refine lv_lshr (v := p0 >>> (p1.toInt64 &&& 63)) hx hb dX7_has_2 rfl ?_
  refine lv_lconst (v := 1) hx hb dX7_has_3 (by decide) ?_
  refine lv_land hx hb dX7_has_4 ?_
  refine lv_lconst (v := 1) hx hb dX7_has_5 (by decide) ?_
  refine W.lcmp hx hb dX7_has_6 ?_
  refine lv_if_ne (tgt := 14) hx hb dX7_has_7 (by decide) (fun h1 => ?_) (fun h1 => ?_)
  · have hf := tk_neg hf h1
    refine lv_iconst (v := 0) hx hb dX7_has_14 (by decide) ?_
    exact tk_rz hQ (tk_s1 hf) rfl (by decide) hx hb hr hlocks hP hD hS dX7_has_15
  · have hf := tk_pos hf h1
    refine lv_iconst (v := 1) hx hb dX7_has_10 (by decide) ?_
    refine lv_goto (tgt := 15) hx hb dX7_has_11 (by decide) ?_
    exact tk_rz hQ (tk_s1 hf) rfl (by decide) hx hb hr hlocks hP hD hS dX7_has_15
abbrev rm_X7_bit : Room := { frames := 0, cells := 0, slots := 0, locals := 0 }
set_option maxHeartbeats 4000000 in
set_option maxRecDepth 100000 in
theorem c_X7_bit (l : Launch) (G : va_G) (c3 : ClassId × ClassId × ClassId) (ws : va_W) (p0 : Int32) (r0 : Int64) (hf : f_X7_bit p0 = some r0) : tk_Ml l yX7_bit wsX7_bit rm_X7_bit G c3 [.int p0] ws ws r0 := by
  refine tk_ofl (cc := cX7_bit) (maxL := 1) (ret := some .long) (by decide) rfl (Nat.le_of_ble_eq_true rfl) ?_
  intro p e s m below meth c A Q ls H locs hx hb hml hr hts hown hlocks hE hA hP hD hS hZ hQ hl
  have hl : lv_has ls 1 [(0, .int p0)] := hl
  have hown : s.vm.findClass RX7 = some m.cls := hown
  unfold f_X7_bit at hf
  refine lv_lconst (v := 1) hx hb dX7_bit_0 (by decide) ?_
  refine lv_iload_n hx hb dX7_bit_1 rfl (lv_at hl 0 rfl) ?_
  refine lv_lshl (v := (1 : Int64) <<< (p0.toInt64 &&& 63)) hx hb dX7_bit_2 rfl ?_
  exact tk_rl hQ (tk_s1 hf) rfl hx hb hr hlocks hP hD hS dX7_bit_3
abbrev rm_X7_king : Room := { frames := 0, cells := 0, slots := 0, locals := 0 }
set_option maxHeartbeats 4000000 in
set_option maxRecDepth 100000 in
theorem c_X7_king (l : Launch) (G : va_G) (c3 : ClassId × ClassId × ClassId) (q : Nat → Nat) (S : tk_ST) (r0 : Int32) (hf : f_X7_king S = some r0) : tk_Mi l yX7_king wsX7_king rm_X7_king G c3 [.ref (q 17)] (tk_M c3 q S) (tk_M c3 q S) r0 := by
  refine tk_ofi (cc := cX7_king) (maxL := 1) (ret := some .int) (by decide) rfl (Nat.le_of_ble_eq_true rfl) ?_
  intro p e s m below meth c A Q ls H locs hx hb hml hr hts hown hlocks hE hA hP hD hS hZ hQ hl
  have hl : lv_has ls 1 [(0, .ref (q 17))] := hl
  have hown : s.vm.findClass RX7 = some m.cls := hown
  unfold f_X7_king at hf
  refine lv_bipush (v := 8) hx hb dX7_king_0 (by decide) ?_
  refine lv_aload_n hx hb dX7_king_2 rfl (lv_at hl 0 rfl) ?_
  refine va_get (D := G) (ci := 7) (v := .int (S.1 9)) (C := RX7) (T := TX7) (N := 29) hx hb hts i_X7_king_X7 hown hE.1 hP 0 rfl rfl 12 (by decide) (hts _ m_X7_king_f34) (fun _ h9 => h9) rfl dX7_king_3 ?_
  refine lv_imul hx hb dX7_king_6 ?_
  refine lv_bipush (v := 7) hx hb dX7_king_7 (by decide) ?_
  refine lv_iadd hx hb dX7_king_9 ?_
  exact tk_ri hQ (tk_s1 hf) rfl hx hb hr hlocks hP hD hS dX7_king_10
abbrev rm_X7_deal : Room := { frames := 1, cells := 0, slots := 0, locals := 22 }
set_option maxHeartbeats 4000000 in
set_option maxRecDepth 100000 in
theorem c_X7_deal (l : Launch) (G : va_G) (c3 : ClassId × ClassId × ClassId) (q : Nat → Nat) (S : tk_ST) (p0 : Int32) (r0 : Int32) (S0 : tk_ST) (hf : f_X7_deal p0 S = some (r0, S0)) : tk_Mi l yX7_deal wsX7_deal rm_X7_deal G c3 [.ref (q 17), .int p0] (tk_M c3 q S) (tk_M c3 q S0) r0 := by
  refine tk_ofi (cc := cX7_deal) (maxL := 5) (ret := some .int) (by decide) rfl (Nat.le_of_ble_eq_true rfl) ?_
  intro p e s m below meth c A Q ls H locs hx hb hml hr hts hown hlocks hE hA hP hD hS hZ hQ hl
  have hl : lv_has ls 5 [(0, .ref (q 17)), (1, .int p0)] := hl
  have hown : s.vm.findClass RX7 = some m.cls := hown
  have J_176 : ∀ (n_176 : Nat), ∀ (x3_176 : Int32) (S_176 : tk_ST) (H : Heap) (locs : List Loc) (_ : va_P G vwCl (tk_M c3 q S_176) H) (_ : va_D A (tk_M c3 q S_176)) (_ : va_S A s.heap H locs) (ls : Array Slot) (_ : lv_has ls 5 [(0, .ref (q 17)), (3, .int x3_176)]) (_ : f_X7_deal_176 n_176 x3_176 S_176 = some (r0, S0)), W p l e rm_X7_deal s m ([.ref (q 17), .int p0] : List Value).toArray below meth c H locs 0 0 Q (F0 m 176 ls []) := by
    intro n_176
    induction n_176 with
    | zero =>
      intro x3_176 S_176 H locs hP hD hS ls hl hf
      exact absurd hf (by intro h9; cases h9)
    | succ n_176 ih_176 =>
      intro x3_176 S_176 H locs hP hD hS ls hl hf
      rw [f_X7_deal_176_s] at hf
      refine lv_iload_n hx hb dX7_deal_176 rfl (lv_at hl 1 rfl) ?_
      refine lv_bipush (v := 48) hx hb dX7_deal_177 (by decide) ?_
      refine lv_icmp_ge (tgt := 216) hx hb dX7_deal_179 (by decide) (fun h1 => ?_) (fun h1 => ?_)
      · have hf := tk_pos hf h1
        refine lv_aload_n hx hb dX7_deal_216 rfl (lv_at hl 0 rfl) ?_
        refine lv_iconst (v := 0) hx hb dX7_deal_217 (by decide) ?_
        refine va_put (D := G) (ci := 7) (v := .int (0 : Int32)) (ty := .int) (C := RX7) (T := TX7) (N := 29) hx hb hts i_X7_deal_X7 tyX7 tyX7_ok nmX7 hown hE.1 hP hD hS 0 rfl rfl 8 (by decide) (hts _ m_X7_deal_f81) (fun _ h9 => h9) rfl (by decide +kernel) rfl rfl (Nat.le_of_ble_eq_true rfl) dX7_deal_218 (fun H locs hP hD hS => ?_)
        have hP : va_P G vwCl (tk_M c3 q (tk_I S_176 5 (0 : Int32))) H := hP
        have hD : va_D A (tk_M c3 q (tk_I S_176 5 (0 : Int32))) := hD
        refine lv_aload_n hx hb dX7_deal_221 rfl (lv_at hl 0 rfl) ?_
        refine lv_iconst (v := 0) hx hb dX7_deal_222 (by decide) ?_
        refine va_put (D := G) (ci := 7) (v := .int (0 : Int32)) (ty := .int) (C := RX7) (T := TX7) (N := 29) hx hb hts i_X7_deal_X7 tyX7 tyX7_ok nmX7 hown hE.1 hP hD hS 0 rfl rfl 9 (by decide) (hts _ m_X7_deal_f84) (fun _ h9 => h9) rfl (by decide +kernel) rfl rfl (Nat.le_of_ble_eq_true rfl) dX7_deal_223 (fun H locs hP hD hS => ?_)
        have hP : va_P G vwCl (tk_M c3 q (tk_I (tk_I S_176 5 (0 : Int32)) 6 (0 : Int32))) H := hP
        have hD : va_D A (tk_M c3 q (tk_I (tk_I S_176 5 (0 : Int32)) 6 (0 : Int32))) := hD
        refine lv_aload_n hx hb dX7_deal_226 rfl (lv_at hl 0 rfl) ?_
        refine lv_iconst (v := -1) hx hb dX7_deal_227 (by decide) ?_
        refine va_put (D := G) (ci := 7) (v := .int (-1 : Int32)) (ty := .int) (C := RX7) (T := TX7) (N := 29) hx hb hts i_X7_deal_X7 tyX7 tyX7_ok nmX7 hown hE.1 hP hD hS 0 rfl rfl 10 (by decide) (hts _ m_X7_deal_f28) (fun _ h9 => h9) rfl (by decide +kernel) rfl rfl (Nat.le_of_ble_eq_true rfl) dX7_deal_228 (fun H locs hP hD hS => ?_)
        have hP : va_P G vwCl (tk_M c3 q (tk_I (tk_I (tk_I S_176 5 (0 : Int32)) 6 (0 : Int32)) 7 (-1 : Int32))) H := hP
        have hD : va_D A (tk_M c3 q (tk_I (tk_I (tk_I S_176 5 (0 : Int32)) 6 (0 : Int32)) 7 (-1 : Int32))) := hD
        refine lv_aload_n hx hb dX7_deal_231 rfl (lv_at hl 0 rfl) ?_
        refine lv_iconst (v := -1) hx hb dX7_deal_232 (by decide) ?_
        refine va_put (D := G) (ci := 7) (v := .int (-1 : Int32)) (ty := .int) (C := RX7) (T := TX7) (N := 29) hx hb hts i_X7_deal_X7 tyX7 tyX7_ok nmX7 hown hE.1 hP hD hS 0 rfl rfl 11 (by decide) (hts _ m_X7_deal_f31) (fun _ h9 => h9) rfl (by decide +kernel) rfl rfl (Nat.le_of_ble_eq_true rfl) dX7_deal_233 (fun H locs hP hD hS => ?_)
        have hP : va_P G vwCl (tk_M c3 q (tk_I (tk_I (tk_I (tk_I S_176 5 (0 : Int32)) 6 (0 : Int32)) 7 (-1 : Int32)) 8 (-1 : Int32))) H := hP
        have hD : va_D A (tk_M c3 q (tk_I (tk_I (tk_I (tk_I S_176 5 (0 : Int32)) 6 (0 : Int32)) 7 (-1 : Int32)) 8 (-1 : Int32))) := hD
        refine lv_aload_n hx hb dX7_deal_236 rfl (lv_at hl 0 rfl) ?_
        refine lv_iconst (v := -1) hx hb dX7_deal_237 (by decide) ?_
        refine va_put (D := G) (ci := 7) (v := .int (-1 : Int32)) (ty := .int) (C := RX7) (T := TX7) (N := 29) hx hb hts i_X7_deal_X7 tyX7 tyX7_ok nmX7 hown hE.1 hP hD hS 0 rfl rfl 12 (by decide) (hts _ m_X7_deal_f34) (fun _ h9 => h9) rfl (by decide +kernel) rfl rfl (Nat.le_of_ble_eq_true rfl) dX7_deal_238 (fun H locs hP hD hS => ?_)
        have hP : va_P G vwCl (tk_M c3 q (tk_I (tk_I (tk_I (tk_I (tk_I S_176 5 (0 : Int32)) 6 (0 : Int32)) 7 (-1 : Int32)) 8 (-1 : Int32)) 9 (-1 : Int32))) H := hP
        have hD : va_D A (tk_M c3 q (tk_I (tk_I (tk_I (tk_I (tk_I S_176 5 (0 : Int32)) 6 (0 : Int32)) 7 (-1 : Int32)) 8 (-1 : Int32)) 9 (-1 : Int32))) := hD
        obtain ⟨S2, eS2⟩ : ∃ z : tk_ST, z = (tk_I (tk_I (tk_I (tk_I (tk_I S_176 5 (0 : Int32)) 6 (0 : Int32)) 7 (-1 : Int32)) 8 (-1 : Int32)) 9 (-1 : Int32)) := ⟨_, rfl⟩
        rw [← eS2] at hP hD
        have hf := tk_nm hf eS2
        refine lv_aload_n hx hb dX7_deal_241 rfl (lv_at hl 0 rfl) ?_
        refine lv_iconst (v := -1) hx hb dX7_deal_242 (by decide) ?_
        refine va_put (D := G) (ci := 7) (v := .int (-1 : Int32)) (ty := .int) (C := RX7) (T := TX7) (N := 29) hx hb hts i_X7_deal_X7 tyX7 tyX7_ok nmX7 hown hE.1 hP hD hS 0 rfl rfl 13 (by decide) (hts _ m_X7_deal_f37) (fun _ h9 => h9) rfl (by decide +kernel) rfl rfl (Nat.le_of_ble_eq_true rfl) dX7_deal_243 (fun H locs hP hD hS => ?_)
        have hP : va_P G vwCl (tk_M c3 q (tk_I S2 10 (-1 : Int32))) H := hP
        have hD : va_D A (tk_M c3 q (tk_I S2 10 (-1 : Int32))) := hD
        refine lv_aload_n hx hb dX7_deal_246 rfl (lv_at hl 0 rfl) ?_
        refine lv_iconst (v := -1) hx hb dX7_deal_247 (by decide) ?_
        refine va_put (D := G) (ci := 7) (v := .int (-1 : Int32)) (ty := .int) (C := RX7) (T := TX7) (N := 29) hx hb hts i_X7_deal_X7 tyX7 tyX7_ok nmX7 hown hE.1 hP hD hS 0 rfl rfl 14 (by decide) (hts _ m_X7_deal_f40) (fun _ h9 => h9) rfl (by decide +kernel) rfl rfl (Nat.le_of_ble_eq_true rfl) dX7_deal_248 (fun H locs hP hD hS => ?_)
        have hP : va_P G vwCl (tk_M c3 q (tk_I (tk_I S2 10 (-1 : Int32)) 11 (-1 : Int32))) H := hP
        have hD : va_D A (tk_M c3 q (tk_I (tk_I S2 10 (-1 : Int32)) 11 (-1 : Int32))) := hD
        refine lv_aload_n hx hb dX7_deal_251 rfl (lv_at hl 0 rfl) ?_
        refine lv_iconst (v := 0) hx hb dX7_deal_252 (by decide) ?_
        refine va_put (D := G) (ci := 7) (v := .int (0 : Int32)) (ty := .boolean) (C := RX7) (T := TX7) (N := 29) hx hb hts i_X7_deal_X7 tyX7 tyX7_ok nmX7 hown hE.1 hP hD hS 0 rfl rfl 15 (by decide) (hts _ m_X7_deal_f87) (fun _ h9 => h9) rfl (by decide +kernel) rfl rfl (Nat.le_of_ble_eq_true rfl) dX7_deal_253 (fun H locs hP hD hS => ?_)
        have hP : va_P G vwCl (tk_M c3 q (tk_I (tk_I (tk_I S2 10 (-1 : Int32)) 11 (-1 : Int32)) 12 (0 : Int32))) H := hP
        have hD : va_D A (tk_M c3 q (tk_I (tk_I (tk_I S2 10 (-1 : Int32)) 11 (-1 : Int32)) 12 (0 : Int32))) := hD
        refine lv_aload_n hx hb dX7_deal_256 rfl (lv_at hl 0 rfl) ?_
        refine lv_lconst (v := 0) hx hb dX7_deal_257 (by decide) ?_
        refine va_put (D := G) (ci := 7) (v := .long (0 : Int64)) (ty := .long) (C := RX7) (T := TX7) (N := 29) hx hb hts i_X7_deal_X7 tyX7 tyX7_ok nmX7 hown hE.1 hP hD hS 0 rfl rfl 17 (by decide) (hts _ m_X7_deal_f91) (fun _ h9 => h9) rfl (by decide +kernel) rfl rfl (Nat.le_of_ble_eq_true rfl) dX7_deal_258 (fun H locs hP hD hS => ?_)
        have hP : va_P G vwCl (tk_M c3 q (tk_L (tk_I (tk_I (tk_I S2 10 (-1 : Int32)) 11 (-1 : Int32)) 12 (0 : Int32)) 0 (0 : Int64))) H := hP
        have hD : va_D A (tk_M c3 q (tk_L (tk_I (tk_I (tk_I S2 10 (-1 : Int32)) 11 (-1 : Int32)) 12 (0 : Int32)) 0 (0 : Int64))) := hD
        refine lv_aload_n hx hb dX7_deal_261 rfl (lv_at hl 0 rfl) ?_
        refine lv_lconst (v := 0) hx hb dX7_deal_262 (by decide) ?_
        refine va_put (D := G) (ci := 7) (v := .long (0 : Int64)) (ty := .long) (C := RX7) (T := TX7) (N := 29) hx hb hts i_X7_deal_X7 tyX7 tyX7_ok nmX7 hown hE.1 hP hD hS 0 rfl rfl 18 (by decide) (hts _ m_X7_deal_f95) (fun _ h9 => h9) rfl (by decide +kernel) rfl rfl (Nat.le_of_ble_eq_true rfl) dX7_deal_263 (fun H locs hP hD hS => ?_)
        have hP : va_P G vwCl (tk_M c3 q (tk_L (tk_L (tk_I (tk_I (tk_I S2 10 (-1 : Int32)) 11 (-1 : Int32)) 12 (0 : Int32)) 0 (0 : Int64)) 1 (0 : Int64))) H := hP
        have hD : va_D A (tk_M c3 q (tk_L (tk_L (tk_I (tk_I (tk_I S2 10 (-1 : Int32)) 11 (-1 : Int32)) 12 (0 : Int32)) 0 (0 : Int64)) 1 (0 : Int64))) := hD
        obtain ⟨S3, eS3⟩ : ∃ z : tk_ST, z = (tk_L (tk_L (tk_I (tk_I (tk_I S2 10 (-1 : Int32)) 11 (-1 : Int32)) 12 (0 : Int32)) 0 (0 : Int64)) 1 (0 : Int64)) := ⟨_, rfl⟩
        rw [← eS3] at hP hD
        have hf := tk_nm hf eS3
        refine lv_aload_n hx hb dX7_deal_266 rfl (lv_at hl 0 rfl) ?_
        refine lv_iconst (v := 0) hx hb dX7_deal_267 (by decide) ?_
        refine va_put (D := G) (ci := 7) (v := .int (0 : Int32)) (ty := .boolean) (C := RX7) (T := TX7) (N := 29) hx hb hts i_X7_deal_X7 tyX7 tyX7_ok nmX7 hown hE.1 hP hD hS 0 rfl rfl 19 (by decide) (hts _ m_X7_deal_f98) (fun _ h9 => h9) rfl (by decide +kernel) rfl rfl (Nat.le_of_ble_eq_true rfl) dX7_deal_268 (fun H locs hP hD hS => ?_)
        have hP : va_P G vwCl (tk_M c3 q (tk_I S3 14 (0 : Int32))) H := hP
        have hD : va_D A (tk_M c3 q (tk_I S3 14 (0 : Int32))) := hD
        refine lv_aload_n hx hb dX7_deal_271 rfl (lv_at hl 0 rfl) ?_
        refine va_get (D := G) (ci := 7) (v := .ref (q 21)) (C := RX7) (T := TX7) (N := 29) hx hb hts i_X7_deal_X7 hown hE.1 hP 0 rfl rfl 20 (by decide) (hts _ m_X7_deal_f43) (fun _ h9 => h9) rfl dX7_deal_272 ?_
        refine lv_iconst (v := 0) hx hb dX7_deal_275 (by decide) ?_
        refine lv_iconst (v := 0) hx hb dX7_deal_276 (by decide) ?_
        obtain ⟨h4, hf⟩ := tk_ok hf
        refine tk_zast (v := (0 : Int32)) (f := (S3.2.2.1 2)) hx hb hE.1 hP hD hS 4 2 rfl rfl (by decide) h4 dX7_deal_277 (fun H locs hP hD hS => ?_)
        have hP : va_P G vwCl (tk_M c3 q (tk_A (tk_I S3 14 (0 : Int32)) 2 (upd (S3.2.2.1 2) (0 : Int32).toNatClampNeg (0 : Int32)))) H := hP
        have hD : va_D A (tk_M c3 q (tk_A (tk_I S3 14 (0 : Int32)) 2 (upd (S3.2.2.1 2) (0 : Int32).toNatClampNeg (0 : Int32)))) := hD
        obtain ⟨S5, eS5⟩ : ∃ z : tk_ST, z = (tk_A (tk_I S3 14 (0 : Int32)) 2 (upd (S3.2.2.1 2) (0 : Int32).toNatClampNeg (0 : Int32))) := ⟨_, rfl⟩
        rw [← eS5] at hP hD
        have hf := tk_nm hf eS5
        refine lv_aload_n hx hb dX7_deal_278 rfl (lv_at hl 0 rfl) ?_
        refine va_get (D := G) (ci := 7) (v := .ref (q 21)) (C := RX7) (T := TX7) (N := 29) hx hb hts i_X7_deal_X7 hown hE.1 hP 0 rfl rfl 20 (by decide) (hts _ m_X7_deal_f43) (fun _ h9 => h9) rfl dX7_deal_279 ?_
        refine lv_iconst (v := 1) hx hb dX7_deal_282 (by decide) ?_
        refine lv_iconst (v := 0) hx hb dX7_deal_283 (by decide) ?_
        obtain ⟨h6, hf⟩ := tk_ok hf
        refine tk_zast (v := (0 : Int32)) (f := (S5.2.2.1 2)) hx hb hE.1 hP hD hS 4 2 rfl rfl (by decide) h6 dX7_deal_284 (fun H locs hP hD hS => ?_)
        have hP : va_P G vwCl (tk_M c3 q (tk_A S5 2 (upd (S5.2.2.1 2) (1 : Int32).toNatClampNeg (0 : Int32)))) H := hP
        have hD : va_D A (tk_M c3 q (tk_A S5 2 (upd (S5.2.2.1 2) (1 : Int32).toNatClampNeg (0 : Int32)))) := hD
        obtain ⟨S7, eS7⟩ : ∃ z : tk_ST, z = (tk_A S5 2 (upd (S5.2.2.1 2) (1 : Int32).toNatClampNeg (0 : Int32))) := ⟨_, rfl⟩
        rw [← eS7] at hP hD
        have hf := tk_nm hf eS7
        refine lv_aload_n hx hb dX7_deal_285 rfl (lv_at hl 0 rfl) ?_
        refine lv_iconst (v := 0) hx hb dX7_deal_286 (by decide) ?_
        refine va_put (D := G) (ci := 7) (v := .int (0 : Int32)) (ty := .int) (C := RX7) (T := TX7) (N := 29) hx hb hts i_X7_deal_X7 tyX7 tyX7_ok nmX7 hown hE.1 hP hD hS 0 rfl rfl 22 (by decide) (hts _ m_X7_deal_f101) (fun _ h9 => h9) rfl (by decide +kernel) rfl rfl (Nat.le_of_ble_eq_true rfl) dX7_deal_287 (fun H locs hP hD hS => ?_)
        have hP : va_P G vwCl (tk_M c3 q (tk_I S7 15 (0 : Int32))) H := hP
        have hD : va_D A (tk_M c3 q (tk_I S7 15 (0 : Int32))) := hD
        refine lv_aload_n hx hb dX7_deal_290 rfl (lv_at hl 0 rfl) ?_
        refine lv_iconst (v := 0) hx hb dX7_deal_291 (by decide) ?_
        refine va_put (D := G) (ci := 7) (v := .int (0 : Int32)) (ty := .int) (C := RX7) (T := TX7) (N := 29) hx hb hts i_X7_deal_X7 tyX7 tyX7_ok nmX7 hown hE.1 hP hD hS 0 rfl rfl 24 (by decide) (hts _ m_X7_deal_f104) (fun _ h9 => h9) rfl (by decide +kernel) rfl rfl (Nat.le_of_ble_eq_true rfl) dX7_deal_292 (fun H locs hP hD hS => ?_)
        have hP : va_P G vwCl (tk_M c3 q (tk_I (tk_I S7 15 (0 : Int32)) 17 (0 : Int32))) H := hP
        have hD : va_D A (tk_M c3 q (tk_I (tk_I S7 15 (0 : Int32)) 17 (0 : Int32))) := hD
        refine lv_aload_n hx hb dX7_deal_295 rfl (lv_at hl 0 rfl) ?_
        refine lv_iconst (v := 1) hx hb dX7_deal_296 (by decide) ?_
        refine va_put (D := G) (ci := 7) (v := .int (1 : Int32)) (ty := .int) (C := RX7) (T := TX7) (N := 29) hx hb hts i_X7_deal_X7 tyX7 tyX7_ok nmX7 hown hE.1 hP hD hS 0 rfl rfl 1 (by decide) (hts _ m_X7_deal_f9) (fun _ h9 => h9) rfl (by decide +kernel) rfl rfl (Nat.le_of_ble_eq_true rfl) dX7_deal_297 (fun H locs hP hD hS => ?_)
        have hP : va_P G vwCl (tk_M c3 q (tk_I (tk_I (tk_I S7 15 (0 : Int32)) 17 (0 : Int32)) 1 (1 : Int32))) H := hP
        have hD : va_D A (tk_M c3 q (tk_I (tk_I (tk_I S7 15 (0 : Int32)) 17 (0 : Int32)) 1 (1 : Int32))) := hD
        refine lv_aload_n hx hb dX7_deal_300 rfl (lv_at hl 0 rfl) ?_
        refine lv_aload_n hx hb dX7_deal_301 rfl (lv_at hl 0 rfl) ?_
        refine va_get (D := G) (ci := 7) (v := .int (S7.1 3)) (C := RX7) (T := TX7) (N := 29) hx hb hts i_X7_deal_X7 hown hE.1 hP 0 rfl rfl 3 (by decide) (hts _ m_X7_deal_f74) (fun _ h9 => h9) rfl dX7_deal_302 ?_
        refine va_put (D := G) (ci := 7) (v := .int (S7.1 3)) (ty := .int) (C := RX7) (T := TX7) (N := 29) hx hb hts i_X7_deal_X7 tyX7 tyX7_ok nmX7 hown hE.1 hP hD hS 0 rfl rfl 4 (by decide) (hts _ m_X7_deal_f13) (fun _ h9 => h9) rfl (by decide +kernel) rfl rfl (Nat.le_of_ble_eq_true rfl) dX7_deal_305 (fun H locs hP hD hS => ?_)
        have hP : va_P G vwCl (tk_M c3 q (tk_I (tk_I (tk_I (tk_I S7 15 (0 : Int32)) 17 (0 : Int32)) 1 (1 : Int32)) 4 (S7.1 3))) H := hP
        have hD : va_D A (tk_M c3 q (tk_I (tk_I (tk_I (tk_I S7 15 (0 : Int32)) 17 (0 : Int32)) 1 (1 : Int32)) 4 (S7.1 3))) := hD
        refine lv_aload_n hx hb dX7_deal_308 rfl (lv_at hl 0 rfl) ?_
        refine va_get (D := G) (ci := 7) (v := .int (S7.1 3)) (C := RX7) (T := TX7) (N := 29) hx hb hts i_X7_deal_X7 hown hE.1 hP 0 rfl rfl 3 (by decide) (hts _ m_X7_deal_f74) (fun _ h9 => h9) rfl dX7_deal_309 ?_
        exact tk_ri hQ (tk_s2 hf).1 (congrArg (tk_M c3 q) (tk_s2 hf).2) hx hb hr hlocks hP hD hS dX7_deal_312
      · have hf := tk_neg hf h1
        refine lv_aload_n hx hb dX7_deal_182 rfl (lv_at hl 0 rfl) ?_
        refine va_get (D := G) (ci := 7) (v := .ref (q 19)) (C := RX7) (T := TX7) (N := 29) hx hb hts i_X7_deal_X7 hown hE.1 hP 0 rfl rfl 6 (by decide) (hts _ m_X7_deal_f20) (fun _ h9 => h9) rfl dX7_deal_183 ?_
        refine lv_aload_n hx hb dX7_deal_186 rfl (lv_at hl 0 rfl) ?_
        refine va_get (D := G) (ci := 7) (v := .int (S_176.1 3)) (C := RX7) (T := TX7) (N := 29) hx hb hts i_X7_deal_X7 hown hE.1 hP 0 rfl rfl 3 (by decide) (hts _ m_X7_deal_f74) (fun _ h9 => h9) rfl dX7_deal_187 ?_
        refine lv_iload_n hx hb dX7_deal_190 rfl (lv_at hl 1 rfl) ?_
        refine lv_bipush (v := 12) hx hb dX7_deal_191 (by decide) ?_
        refine lv_idiv hx hb dX7_deal_193 (by decide) ?_
        refine lv_iadd hx hb dX7_deal_194 ?_
        refine lv_iconst (v := 4) hx hb dX7_deal_195 (by decide) ?_
        refine tk_irem hx hb dX7_deal_196 (by decide) ?_
        refine lv_dup2_11 hx hb dX7_deal_197 rfl rfl ?_
        obtain ⟨h8, hf⟩ := tk_ok hf
        refine va_lald (f := (S_176.2.2.2 0)) hx hb hE.1 hP 2 1 rfl rfl h8 dX7_deal_198 ?_
        refine lv_aload_n hx hb dX7_deal_199 rfl (lv_at hl 0 rfl) ?_
        refine va_get (D := G) (ci := 7) (v := .ref (q 18)) (C := RX7) (T := TX7) (N := 29) hx hb hts i_X7_deal_X7 hown hE.1 hP 0 rfl rfl 5 (by decide) (hts _ m_X7_deal_f16) (fun _ h9 => h9) rfl dX7_deal_200 ?_
        refine lv_iload_n hx hb dX7_deal_203 rfl (lv_at hl 1 rfl) ?_
        obtain ⟨h9, hf⟩ := tk_ok hf
        refine va_iald (f := (S_176.2.2.1 0)) hx hb hE.1 hP 1 0 rfl rfl h9 dX7_deal_204 ?_
        obtain ⟨r10, h11, hf⟩ := tk_b1s hf
        refine tk_cl (ws' := (tk_M c3 q S_176)) (va_runS (As := [.int ((S_176.2.2.1 0) x3_176.toNatClampNeg)]) (rest := [.long ((S_176.2.2.2 0) (tk_rem ((S_176.1 3) + (x3_176 / (12 : Int32))) (4 : Int32)).toNatClampNeg), .int (tk_rem ((S_176.1 3) + (x3_176 / (12 : Int32))) (4 : Int32)), .ref (q 19)]) ⟨hx, hb, hml, hown, hts⟩ (c_X7_bit l G c3 (tk_M c3 q S_176) ((S_176.2.2.1 0) x3_176.toNatClampNeg) r10 h11 H.size) (va_cwS 1 hts gX7_deal_X7_bit rfl rfl rfl hs_X7_bit ⟨Nat.le_of_ble_eq_true rfl, Nat.le_of_ble_eq_true rfl⟩) (tk_pS hE hP hD) rfl rfl hl.1 rfl (lv_room (Nat.le_of_ble_eq_true rfl)) dX7_deal_205 ⟨Nat.zero_le _, Nat.zero_le _⟩) hD hS hA (fun H locs hP hD hS => ?_)
        refine lv_lor hx hb dX7_deal_208 ?_
        obtain ⟨h13, hf⟩ := tk_ok hf
        refine va_last (f := (S_176.2.2.2 0)) hx hb hE.1 hP hD hS 2 1 rfl rfl h13 dX7_deal_209 (fun H locs hP hD hS => ?_)
        have hP : va_P G vwCl (tk_M c3 q (tk_B S_176 0 (vp_updL (S_176.2.2.2 0) (tk_rem ((S_176.1 3) + (x3_176 / (12 : Int32))) (4 : Int32)).toNatClampNeg (((S_176.2.2.2 0) (tk_rem ((S_176.1 3) + (x3_176 / (12 : Int32))) (4 : Int32)).toNatClampNeg) ||| r10)))) H := hP
        have hD : va_D A (tk_M c3 q (tk_B S_176 0 (vp_updL (S_176.2.2.2 0) (tk_rem ((S_176.1 3) + (x3_176 / (12 : Int32))) (4 : Int32)).toNatClampNeg (((S_176.2.2.2 0) (tk_rem ((S_176.1 3) + (x3_176 / (12 : Int32))) (4 : Int32)).toNatClampNeg) ||| r10)))) := hD
        obtain ⟨S14, eS14⟩ : ∃ z : tk_ST, z = (tk_B S_176 0 (vp_updL (S_176.2.2.2 0) (tk_rem ((S_176.1 3) + (x3_176 / (12 : Int32))) (4 : Int32)).toNatClampNeg (((S_176.2.2.2 0) (tk_rem ((S_176.1 3) + (x3_176 / (12 : Int32))) (4 : Int32)).toNatClampNeg) ||| r10))) := ⟨_, rfl⟩
        rw [← eS14] at hP hD
        have hf := tk_nm hf eS14
        refine lv_iinc (v := (x3_176 + (1 : Int32))) (lv' := [(3, .int (x3_176 + (1 : Int32))), (0, .ref (q 17))]) hx hb dX7_deal_210 hl (k := 1) rfl rfl (by decide) rfl (fun ls hl => ?_)
        refine lv_goto (tgt := 176) hx hb dX7_deal_213 (by decide) ?_
        exact ih_176 (x3_176 + (1 : Int32)) S14 H locs hP hD hS ls (lv_sub hl [1, 0] rfl) hf
  have J_142 : ∀ (n_142 : Nat), ∀ (x3_142 : Int32) (S_142 : tk_ST) (H : Heap) (locs : List Loc) (_ : va_P G vwCl (tk_M c3 q S_142) H) (_ : va_D A (tk_M c3 q S_142)) (_ : va_S A s.heap H locs) (ls : Array Slot) (_ : lv_has ls 5 [(0, .ref (q 17)), (3, .int x3_142)]) (_ : f_X7_deal_142 n_142 x3_142 S_142 = some (r0, S0)), W p l e rm_X7_deal s m ([.ref (q 17), .int p0] : List Value).toArray below meth c H locs 0 0 Q (F0 m 142 ls []) := by
    intro n_142
    induction n_142 with
    | zero =>
      intro x3_142 S_142 H locs hP hD hS ls hl hf
      exact absurd hf (by intro h9; cases h9)
    | succ n_142 ih_142 =>
      intro x3_142 S_142 H locs hP hD hS ls hl hf
      rw [f_X7_deal_142_s] at hf
      refine lv_iload_n hx hb dX7_deal_142 rfl (lv_at hl 1 rfl) ?_
      refine lv_iconst (v := 4) hx hb dX7_deal_143 (by decide) ?_
      refine lv_icmp_ge (tgt := 174) hx hb dX7_deal_144 (by decide) (fun h15 => ?_) (fun h15 => ?_)
      · have hf := tk_pos hf h15
        refine lv_iconst (v := 0) hx hb dX7_deal_174 (by decide) ?_
        refine lv_istore_n (lv' := [(3, .int (0 : Int32)), (0, .ref (q 17))]) hx hb dX7_deal_175 rfl hl (by decide) rfl (fun ls hl => ?_)
        exact J_176 64 (0 : Int32) S_142 H locs hP hD hS ls (lv_sub hl [1, 0] rfl) hf
      · have hf := tk_neg hf h15
        refine lv_aload_n hx hb dX7_deal_147 rfl (lv_at hl 0 rfl) ?_
        refine va_get (D := G) (ci := 7) (v := .ref (q 19)) (C := RX7) (T := TX7) (N := 29) hx hb hts i_X7_deal_X7 hown hE.1 hP 0 rfl rfl 6 (by decide) (hts _ m_X7_deal_f20) (fun _ h9 => h9) rfl dX7_deal_148 ?_
        refine lv_iload_n hx hb dX7_deal_151 rfl (lv_at hl 1 rfl) ?_
        refine lv_lconst (v := 0) hx hb dX7_deal_152 (by decide) ?_
        obtain ⟨h16, hf⟩ := tk_ok hf
        refine va_last (f := (S_142.2.2.2 0)) hx hb hE.1 hP hD hS 2 1 rfl rfl h16 dX7_deal_153 (fun H locs hP hD hS => ?_)
        have hP : va_P G vwCl (tk_M c3 q (tk_B S_142 0 (vp_updL (S_142.2.2.2 0) x3_142.toNatClampNeg (0 : Int64)))) H := hP
        have hD : va_D A (tk_M c3 q (tk_B S_142 0 (vp_updL (S_142.2.2.2 0) x3_142.toNatClampNeg (0 : Int64)))) := hD
        obtain ⟨S17, eS17⟩ : ∃ z : tk_ST, z = (tk_B S_142 0 (vp_updL (S_142.2.2.2 0) x3_142.toNatClampNeg (0 : Int64))) := ⟨_, rfl⟩
        rw [← eS17] at hP hD
        have hf := tk_nm hf eS17
        refine lv_aload_n hx hb dX7_deal_154 rfl (lv_at hl 0 rfl) ?_
        refine va_get (D := G) (ci := 7) (v := .ref (q 23)) (C := RX7) (T := TX7) (N := 29) hx hb hts i_X7_deal_X7 hown hE.1 hP 0 rfl rfl 25 (by decide) (hts _ m_X7_deal_f49) (fun _ h9 => h9) rfl dX7_deal_155 ?_
        refine lv_iload_n hx hb dX7_deal_158 rfl (lv_at hl 1 rfl) ?_
        refine lv_lconst (v := 0) hx hb dX7_deal_159 (by decide) ?_
        obtain ⟨h18, hf⟩ := tk_ok hf
        refine va_last (f := (S17.2.2.2 1)) hx hb hE.1 hP hD hS 6 1 rfl rfl h18 dX7_deal_160 (fun H locs hP hD hS => ?_)
        have hP : va_P G vwCl (tk_M c3 q (tk_B S17 1 (vp_updL (S17.2.2.2 1) x3_142.toNatClampNeg (0 : Int64)))) H := hP
        have hD : va_D A (tk_M c3 q (tk_B S17 1 (vp_updL (S17.2.2.2 1) x3_142.toNatClampNeg (0 : Int64)))) := hD
        obtain ⟨S19, eS19⟩ : ∃ z : tk_ST, z = (tk_B S17 1 (vp_updL (S17.2.2.2 1) x3_142.toNatClampNeg (0 : Int64))) := ⟨_, rfl⟩
        rw [← eS19] at hP hD
        have hf := tk_nm hf eS19
        refine lv_aload_n hx hb dX7_deal_161 rfl (lv_at hl 0 rfl) ?_
        refine va_get (D := G) (ci := 7) (v := .ref (q 20)) (C := RX7) (T := TX7) (N := 29) hx hb hts i_X7_deal_X7 hown hE.1 hP 0 rfl rfl 7 (by decide) (hts _ m_X7_deal_f24) (fun _ h9 => h9) rfl dX7_deal_162 ?_
        refine lv_iload_n hx hb dX7_deal_165 rfl (lv_at hl 1 rfl) ?_
        refine lv_iconst (v := 0) hx hb dX7_deal_166 (by decide) ?_
        obtain ⟨h20, hf⟩ := tk_ok hf
        refine tk_zast (v := (0 : Int32)) (f := (S19.2.2.1 1)) hx hb hE.1 hP hD hS 3 2 rfl rfl (by decide) h20 dX7_deal_167 (fun H locs hP hD hS => ?_)
        have hP : va_P G vwCl (tk_M c3 q (tk_A S19 1 (upd (S19.2.2.1 1) x3_142.toNatClampNeg (0 : Int32)))) H := hP
        have hD : va_D A (tk_M c3 q (tk_A S19 1 (upd (S19.2.2.1 1) x3_142.toNatClampNeg (0 : Int32)))) := hD
        obtain ⟨S21, eS21⟩ : ∃ z : tk_ST, z = (tk_A S19 1 (upd (S19.2.2.1 1) x3_142.toNatClampNeg (0 : Int32))) := ⟨_, rfl⟩
        rw [← eS21] at hP hD
        have hf := tk_nm hf eS21
        refine lv_iinc (v := (x3_142 + (1 : Int32))) (lv' := [(3, .int (x3_142 + (1 : Int32))), (0, .ref (q 17))]) hx hb dX7_deal_168 hl (k := 1) rfl rfl (by decide) rfl (fun ls hl => ?_)
        refine lv_goto (tgt := 142) hx hb dX7_deal_171 (by decide) ?_
        exact ih_142 (x3_142 + (1 : Int32)) S21 H locs hP hD hS ls (lv_sub hl [1, 0] rfl) hf
  have J_61 : ∀ (n_61 : Nat), ∀ (x2_61 : Int32) (x3_61 : Int32) (S_61 : tk_ST) (H : Heap) (locs : List Loc) (_ : va_P G vwCl (tk_M c3 q S_61) H) (_ : va_D A (tk_M c3 q S_61)) (_ : va_S A s.heap H locs) (ls : Array Slot) (_ : lv_has ls 5 [(0, .ref (q 17)), (2, .int x2_61), (3, .int x3_61)]) (_ : f_X7_deal_61 n_61 x2_61 x3_61 S_61 = some (r0, S0)), W p l e rm_X7_deal s m ([.ref (q 17), .int p0] : List Value).toArray below meth c H locs 0 0 Q (F0 m 61 ls []) := by
    intro n_61
    induction n_61 with
    | zero =>
      intro x2_61 x3_61 S_61 H locs hP hD hS ls hl hf
      exact absurd hf (by intro h9; cases h9)
    | succ n_61 ih_61 =>
      intro x2_61 x3_61 S_61 H locs hP hD hS ls hl hf
      rw [f_X7_deal_61_s] at hf
      refine lv_iload_n hx hb dX7_deal_61 rfl (lv_at hl 2 rfl) ?_
      refine lv_if_le (tgt := 120) hx hb dX7_deal_62 (by decide) (fun h22 => ?_) (fun h22 => ?_)
      · have hf := tk_pos hf h22
        refine lv_aload_n hx hb dX7_deal_120 rfl (lv_at hl 0 rfl) ?_
        refine lv_aload_n hx hb dX7_deal_121 rfl (lv_at hl 0 rfl) ?_
        refine va_get (D := G) (ci := 7) (v := .int (S_61.1 2)) (C := RX7) (T := TX7) (N := 29) hx hb hts i_X7_deal_X7 hown hE.1 hP 0 rfl rfl 2 (by decide) (hts _ m_X7_deal_f71) (fun _ h9 => h9) rfl dX7_deal_122 ?_
        refine lv_iconst (v := 4) hx hb dX7_deal_125 (by decide) ?_
        refine tk_irem hx hb dX7_deal_126 (by decide) ?_
        refine va_put (D := G) (ci := 7) (v := .int (tk_rem (S_61.1 2) (4 : Int32))) (ty := .int) (C := RX7) (T := TX7) (N := 29) hx hb hts i_X7_deal_X7 tyX7 tyX7_ok nmX7 hown hE.1 hP hD hS 0 rfl rfl 3 (by decide) (hts _ m_X7_deal_f74) (fun _ h9 => h9) rfl (by decide +kernel) rfl rfl (Nat.le_of_ble_eq_true rfl) dX7_deal_127 (fun H locs hP hD hS => ?_)
        have hP : va_P G vwCl (tk_M c3 q (tk_I S_61 3 (tk_rem (S_61.1 2) (4 : Int32)))) H := hP
        have hD : va_D A (tk_M c3 q (tk_I S_61 3 (tk_rem (S_61.1 2) (4 : Int32)))) := hD
        refine lv_aload_n hx hb dX7_deal_130 rfl (lv_at hl 0 rfl) ?_
        refine lv_dup hx hb dX7_deal_131 rfl ?_
        refine va_get (D := G) (ci := 7) (v := .int (S_61.1 2)) (C := RX7) (T := TX7) (N := 29) hx hb hts i_X7_deal_X7 hown hE.1 hP 0 rfl rfl 2 (by decide) (hts _ m_X7_deal_f71) (fun _ h9 => h9) rfl dX7_deal_132 ?_
        refine lv_iconst (v := 1) hx hb dX7_deal_135 (by decide) ?_
        refine lv_iadd hx hb dX7_deal_136 ?_
        refine va_put (D := G) (ci := 7) (v := .int ((S_61.1 2) + (1 : Int32))) (ty := .int) (C := RX7) (T := TX7) (N := 29) hx hb hts i_X7_deal_X7 tyX7 tyX7_ok nmX7 hown hE.1 hP hD hS 0 rfl rfl 2 (by decide) (hts _ m_X7_deal_f71) (fun _ h9 => h9) rfl (by decide +kernel) rfl rfl (Nat.le_of_ble_eq_true rfl) dX7_deal_137 (fun H locs hP hD hS => ?_)
        have hP : va_P G vwCl (tk_M c3 q (tk_I (tk_I S_61 3 (tk_rem (S_61.1 2) (4 : Int32))) 2 ((S_61.1 2) + (1 : Int32)))) H := hP
        have hD : va_D A (tk_M c3 q (tk_I (tk_I S_61 3 (tk_rem (S_61.1 2) (4 : Int32))) 2 ((S_61.1 2) + (1 : Int32)))) := hD
        refine lv_iconst (v := 0) hx hb dX7_deal_140 (by decide) ?_
        refine lv_istore_n (lv' := [(3, .int (0 : Int32)), (0, .ref (q 17)), (2, .int x2_61)]) hx hb dX7_deal_141 rfl hl (by decide) rfl (fun ls hl => ?_)
        exact J_142 64 (0 : Int32) (tk_I (tk_I S_61 3 (tk_rem (S_61.1 2) (4 : Int32))) 2 ((S_61.1 2) + (1 : Int32))) H locs hP hD hS ls (lv_sub hl [1, 0] rfl) hf
      · have hf := tk_neg hf h22
        refine lv_sipush (v := 25173) hx hb dX7_deal_65 (by decide) ?_
        refine lv_iload_n hx hb dX7_deal_68 rfl (lv_at hl 1 rfl) ?_
        refine lv_imul hx hb dX7_deal_69 ?_
        refine lv_sipush (v := 13849) hx hb dX7_deal_70 (by decide) ?_
        refine lv_iadd hx hb dX7_deal_73 ?_
        refine lv_ldc (v := 65536) hx hb hown (hts _ m_X7_deal_k70) dX7_deal_74 ?_
        refine tk_irem hx hb dX7_deal_76 (by decide) ?_
        refine lv_topi (fun y23 ey23 => ?_)
        have hf := tk_nm hf ey23
        refine lv_istore_n (lv' := [(2, .int y23), (0, .ref (q 17)), (3, .int x3_61)]) hx hb dX7_deal_77 rfl hl (by decide) rfl (fun ls hl => ?_)
        refine lv_aload_n hx hb dX7_deal_78 rfl (lv_at hl 1 rfl) ?_
        refine va_get (D := G) (ci := 7) (v := .ref (q 18)) (C := RX7) (T := TX7) (N := 29) hx hb hts i_X7_deal_X7 hown hE.1 hP 0 rfl rfl 5 (by decide) (hts _ m_X7_deal_f16) (fun _ h9 => h9) rfl dX7_deal_79 ?_
        refine lv_iload_n hx hb dX7_deal_82 rfl (lv_at hl 2 rfl) ?_
        obtain ⟨h24, hf⟩ := tk_ok hf
        refine va_iald (f := (S_61.2.2.1 0)) hx hb hE.1 hP 1 0 rfl rfl h24 dX7_deal_83 ?_
        refine lv_istore (lv' := [(4, .int ((S_61.2.2.1 0) x3_61.toNatClampNeg)), (2, .int y23), (0, .ref (q 17)), (3, .int x3_61)]) hx hb dX7_deal_84 hl (by decide) rfl (fun ls hl => ?_)
        refine lv_aload_n hx hb dX7_deal_86 rfl (lv_at hl 2 rfl) ?_
        refine va_get (D := G) (ci := 7) (v := .ref (q 18)) (C := RX7) (T := TX7) (N := 29) hx hb hts i_X7_deal_X7 hown hE.1 hP 0 rfl rfl 5 (by decide) (hts _ m_X7_deal_f16) (fun _ h9 => h9) rfl dX7_deal_87 ?_
        refine lv_iload_n hx hb dX7_deal_90 rfl (lv_at hl 3 rfl) ?_
        refine lv_aload_n hx hb dX7_deal_91 rfl (lv_at hl 2 rfl) ?_
        refine va_get (D := G) (ci := 7) (v := .ref (q 18)) (C := RX7) (T := TX7) (N := 29) hx hb hts i_X7_deal_X7 hown hE.1 hP 0 rfl rfl 5 (by decide) (hts _ m_X7_deal_f16) (fun _ h9 => h9) rfl dX7_deal_92 ?_
        refine lv_iload_n hx hb dX7_deal_95 rfl (lv_at hl 1 rfl) ?_
        refine lv_iload_n hx hb dX7_deal_96 rfl (lv_at hl 3 rfl) ?_
        refine lv_iconst (v := 1) hx hb dX7_deal_97 (by decide) ?_
        refine lv_iadd hx hb dX7_deal_98 ?_
        obtain ⟨h25, hf⟩ := tk_ok hf
        refine tk_irem hx hb dX7_deal_99 h25 ?_
        obtain ⟨h26, hf⟩ := tk_ok hf
        refine va_iald (f := (S_61.2.2.1 0)) hx hb hE.1 hP 1 0 rfl rfl h26 dX7_deal_100 ?_
        obtain ⟨h27, hf⟩ := tk_ok hf
        refine va_iast (f := (S_61.2.2.1 0)) hx hb hE.1 hP hD hS 1 0 rfl rfl h27 dX7_deal_101 (fun H locs hP hD hS => ?_)
        have hP : va_P G vwCl (tk_M c3 q (tk_A S_61 0 (upd (S_61.2.2.1 0) x3_61.toNatClampNeg ((S_61.2.2.1 0) (tk_rem y23 (x3_61 + (1 : Int32))).toNatClampNeg)))) H := hP
        have hD : va_D A (tk_M c3 q (tk_A S_61 0 (upd (S_61.2.2.1 0) x3_61.toNatClampNeg ((S_61.2.2.1 0) (tk_rem y23 (x3_61 + (1 : Int32))).toNatClampNeg)))) := hD
        obtain ⟨S28, eS28⟩ : ∃ z : tk_ST, z = (tk_A S_61 0 (upd (S_61.2.2.1 0) x3_61.toNatClampNeg ((S_61.2.2.1 0) (tk_rem y23 (x3_61 + (1 : Int32))).toNatClampNeg))) := ⟨_, rfl⟩
        rw [← eS28] at hP hD
        have hf := tk_nm hf eS28
        refine lv_aload_n hx hb dX7_deal_102 rfl (lv_at hl 2 rfl) ?_
        refine va_get (D := G) (ci := 7) (v := .ref (q 18)) (C := RX7) (T := TX7) (N := 29) hx hb hts i_X7_deal_X7 hown hE.1 hP 0 rfl rfl 5 (by decide) (hts _ m_X7_deal_f16) (fun _ h9 => h9) rfl dX7_deal_103 ?_
        refine lv_iload_n hx hb dX7_deal_106 rfl (lv_at hl 1 rfl) ?_
        refine lv_iload_n hx hb dX7_deal_107 rfl (lv_at hl 3 rfl) ?_
        refine lv_iconst (v := 1) hx hb dX7_deal_108 (by decide) ?_
        refine lv_iadd hx hb dX7_deal_109 ?_
        obtain ⟨h29, hf⟩ := tk_ok hf
        refine tk_irem hx hb dX7_deal_110 h29 ?_
        refine lv_iload hx hb dX7_deal_111 (lv_at hl 0 rfl) ?_
        obtain ⟨h30, hf⟩ := tk_ok hf
        refine va_iast (f := (S28.2.2.1 0)) hx hb hE.1 hP hD hS 1 0 rfl rfl h30 dX7_deal_113 (fun H locs hP hD hS => ?_)
        have hP : va_P G vwCl (tk_M c3 q (tk_A S28 0 (upd (S28.2.2.1 0) (tk_rem y23 (x3_61 + (1 : Int32))).toNatClampNeg ((S_61.2.2.1 0) x3_61.toNatClampNeg)))) H := hP
        have hD : va_D A (tk_M c3 q (tk_A S28 0 (upd (S28.2.2.1 0) (tk_rem y23 (x3_61 + (1 : Int32))).toNatClampNeg ((S_61.2.2.1 0) x3_61.toNatClampNeg)))) := hD
        obtain ⟨S31, eS31⟩ : ∃ z : tk_ST, z = (tk_A S28 0 (upd (S28.2.2.1 0) (tk_rem y23 (x3_61 + (1 : Int32))).toNatClampNeg ((S_61.2.2.1 0) x3_61.toNatClampNeg))) := ⟨_, rfl⟩
        rw [← eS31] at hP hD
        have hf := tk_nm hf eS31
        refine lv_iinc (v := (x3_61 + (-1 : Int32))) (lv' := [(3, .int (x3_61 + (-1 : Int32))), (4, .int ((S_61.2.2.1 0) x3_61.toNatClampNeg)), (2, .int y23), (0, .ref (q 17))]) hx hb dX7_deal_114 hl (k := 3) rfl rfl (by decide) rfl (fun ls hl => ?_)
        refine lv_goto (tgt := 61) hx hb dX7_deal_117 (by decide) ?_
        exact ih_61 y23 (x3_61 + (-1 : Int32)) S31 H locs hP hD hS ls (lv_sub hl [3, 2, 0] rfl) hf
  have J_37 : ∀ (n_37 : Nat), ∀ (x1_37 : Int32) (x2_37 : Int32) (S_37 : tk_ST) (H : Heap) (locs : List Loc) (_ : va_P G vwCl (tk_M c3 q S_37) H) (_ : va_D A (tk_M c3 q S_37)) (_ : va_S A s.heap H locs) (ls : Array Slot) (_ : lv_has ls 5 [(0, .ref (q 17)), (1, .int x1_37), (2, .int x2_37)]) (_ : f_X7_deal_37 n_37 x1_37 x2_37 S_37 = some (r0, S0)), W p l e rm_X7_deal s m ([.ref (q 17), .int p0] : List Value).toArray below meth c H locs 0 0 Q (F0 m 37 ls []) := by
    intro n_37
    induction n_37 with
    | zero =>
      intro x1_37 x2_37 S_37 H locs hP hD hS ls hl hf
      exact absurd hf (by intro h9; cases h9)
    | succ n_37 ih_37 =>
      intro x1_37 x2_37 S_37 H locs hP hD hS ls hl hf
      rw [f_X7_deal_37_s] at hf
      refine lv_iload_n hx hb dX7_deal_37 rfl (lv_at hl 2 rfl) ?_
      refine lv_bipush (v := 54) hx hb dX7_deal_38 (by decide) ?_
      refine lv_icmp_ge (tgt := 56) hx hb dX7_deal_40 (by decide) (fun h32 => ?_) (fun h32 => ?_)
      · have hf := tk_pos hf h32
        refine lv_iload_n hx hb dX7_deal_56 rfl (lv_at hl 1 rfl) ?_
        refine lv_istore_n (lv' := [(2, .int x1_37), (0, .ref (q 17)), (1, .int x1_37)]) hx hb dX7_deal_57 rfl hl (by decide) rfl (fun ls hl => ?_)
        refine lv_bipush (v := 53) hx hb dX7_deal_58 (by decide) ?_
        refine lv_istore_n (lv' := [(3, .int (53 : Int32)), (2, .int x1_37), (0, .ref (q 17)), (1, .int x1_37)]) hx hb dX7_deal_60 rfl hl (by decide) rfl (fun ls hl => ?_)
        exact J_61 64 x1_37 (53 : Int32) S_37 H locs hP hD hS ls (lv_sub hl [2, 1, 0] rfl) hf
      · have hf := tk_neg hf h32
        refine lv_aload_n hx hb dX7_deal_43 rfl (lv_at hl 0 rfl) ?_
        refine va_get (D := G) (ci := 7) (v := .ref (q 18)) (C := RX7) (T := TX7) (N := 29) hx hb hts i_X7_deal_X7 hown hE.1 hP 0 rfl rfl 5 (by decide) (hts _ m_X7_deal_f16) (fun _ h9 => h9) rfl dX7_deal_44 ?_
        refine lv_iload_n hx hb dX7_deal_47 rfl (lv_at hl 2 rfl) ?_
        refine lv_iload_n hx hb dX7_deal_48 rfl (lv_at hl 2 rfl) ?_
        obtain ⟨h33, hf⟩ := tk_ok hf
        refine va_iast (f := (S_37.2.2.1 0)) hx hb hE.1 hP hD hS 1 0 rfl rfl h33 dX7_deal_49 (fun H locs hP hD hS => ?_)
        have hP : va_P G vwCl (tk_M c3 q (tk_A S_37 0 (upd (S_37.2.2.1 0) x2_37.toNatClampNeg x2_37))) H := hP
        have hD : va_D A (tk_M c3 q (tk_A S_37 0 (upd (S_37.2.2.1 0) x2_37.toNatClampNeg x2_37))) := hD
        obtain ⟨S34, eS34⟩ : ∃ z : tk_ST, z = (tk_A S_37 0 (upd (S_37.2.2.1 0) x2_37.toNatClampNeg x2_37)) := ⟨_, rfl⟩
        rw [← eS34] at hP hD
        have hf := tk_nm hf eS34
        refine lv_iinc (v := (x2_37 + (1 : Int32))) (lv' := [(2, .int (x2_37 + (1 : Int32))), (0, .ref (q 17)), (1, .int x1_37)]) hx hb dX7_deal_50 hl (k := 2) rfl rfl (by decide) rfl (fun ls hl => ?_)
        refine lv_goto (tgt := 37) hx hb dX7_deal_53 (by decide) ?_
        exact ih_37 x1_37 (x2_37 + (1 : Int32)) S34 H locs hP hD hS ls (lv_sub hl [1, 2, 0] rfl) hf
  have J_27 : ∀ (x1_27 : Int32) (k1_27 : Int32) (S_27 : tk_ST) (H : Heap) (locs : List Loc) (_ : va_P G vwCl (tk_M c3 q S_27) H) (_ : va_D A (tk_M c3 q S_27)) (_ : va_S A s.heap H locs) (ls : Array Slot) (_ : lv_has ls 5 [(0, .ref (q 17)), (1, .int x1_27)]) (_ : f_X7_deal_27 x1_27 k1_27 S_27 = some (r0, S0)), W p l e rm_X7_deal s m ([.ref (q 17), .int p0] : List Value).toArray below meth c H locs 0 0 Q (F0 m 27 ls [.int k1_27, .ref (q 17)]) := by
    intro x1_27 k1_27 S_27 H locs hP hD hS ls hl hf
    unfold f_X7_deal_27 at hf
    obtain ⟨r35, S37, h36, hf⟩ := tk_b2s hf
    refine tk_ci (ws' := (tk_M c3 q S37)) (va_runV (As := [.int k1_27]) (rest := []) ⟨hx, hb, hml, hown, hts⟩ (c_X7_isFine l G c3 q S_27 k1_27 r35 S37 h36 H.size) (cwV 1 hts gX7_deal_X7_isFine rfl rfl rfl hv_X7_isFine ⟨Nat.le_of_ble_eq_true rfl, Nat.le_of_ble_eq_true rfl⟩) (tk_pV hE hP hD 0 rfl rfl) rfl rfl hl.1 rfl (lv_room (Nat.le_of_ble_eq_true rfl)) dX7_deal_27 ⟨Nat.zero_le _, Nat.zero_le _⟩) hD hS hA (fun H locs hP hD hS => ?_)
    refine lv_if_ne (tgt := 35) hx hb dX7_deal_30 (by decide) (fun h38 => ?_) (fun h38 => ?_)
    · have hf := tk_neg hf h38
      refine lv_iconst (v := 0) hx hb dX7_deal_35 (by decide) ?_
      refine lv_istore_n (lv' := [(2, .int (0 : Int32)), (0, .ref (q 17)), (1, .int x1_27)]) hx hb dX7_deal_36 rfl hl (by decide) rfl (fun ls hl => ?_)
      exact J_37 64 x1_27 (0 : Int32) S37 H locs hP hD hS ls (lv_sub hl [1, 2, 0] rfl) hf
    · have hf := tk_pos hf h38
      refine lv_iconst (v := 0) hx hb dX7_deal_33 (by decide) ?_
      exact tk_ri hQ (tk_s2 hf).1 (congrArg (tk_M c3 q) (tk_s2 hf).2) hx hb hr hlocks hP hD hS dX7_deal_34
  unfold f_X7_deal at hf
  refine lv_aload_n hx hb dX7_deal_0 rfl (lv_at hl 0 rfl) ?_
  refine lv_iload_n hx hb dX7_deal_1 rfl (lv_at hl 1 rfl) ?_
  refine lv_iconst (v := 0) hx hb dX7_deal_2 (by decide) ?_
  refine lv_ldc (v := 65535) hx hb hown (hts _ m_X7_deal_k65) dX7_deal_3 ?_
  obtain ⟨r39, h40, hf⟩ := tk_b1s hf
  refine tk_ci (ws' := (tk_M c3 q S)) (va_runS (As := [.int p0, .int (0 : Int32), .int (65535 : Int32)]) (rest := [.ref (q 17)]) ⟨hx, hb, hml, hown, hts⟩ (c_X7_isIn l G c3 (tk_M c3 q S) p0 (0 : Int32) (65535 : Int32) r39 h40 H.size) (va_cwS 3 hts gX7_deal_X7_isIn rfl rfl rfl hs_X7_isIn ⟨Nat.le_of_ble_eq_true rfl, Nat.le_of_ble_eq_true rfl⟩) (tk_pS hE hP hD) rfl rfl hl.1 rfl (lv_room (Nat.le_of_ble_eq_true rfl)) dX7_deal_5 ⟨Nat.zero_le _, Nat.zero_le _⟩) hD hS hA (fun H locs hP hD hS => ?_)
  refine lv_if_ne (tgt := 15) hx hb dX7_deal_8 (by decide) (fun h42 => ?_) (fun h42 => ?_)
  · have hf := tk_neg hf h42
    refine lv_aload_n hx hb dX7_deal_15 rfl (lv_at hl 0 rfl) ?_
    refine va_get (D := G) (ci := 7) (v := .int (S.1 1)) (C := RX7) (T := TX7) (N := 29) hx hb hts i_X7_deal_X7 hown hE.1 hP 0 rfl rfl 1 (by decide) (hts _ m_X7_deal_f9) (fun _ h9 => h9) rfl dX7_deal_16 ?_
    refine lv_if_eq (tgt := 26) hx hb dX7_deal_19 (by decide) (fun h43 => ?_) (fun h43 => ?_)
    · have hf := tk_pos hf h43
      refine lv_iconst (v := 0) hx hb dX7_deal_26 (by decide) ?_
      exact J_27 p0 (0 : Int32) S H locs hP hD hS ls (lv_sub hl [0, 1] rfl) hf
    · have hf := tk_neg hf h43
      refine lv_iconst (v := 2) hx hb dX7_deal_22 (by decide) ?_
      refine lv_goto (tgt := 27) hx hb dX7_deal_23 (by decide) ?_
      exact J_27 p0 (2 : Int32) S H locs hP hD hS ls (lv_sub hl [0, 1] rfl) hf
  · have hf := tk_pos hf h42
    refine lv_iconst (v := 1) hx hb dX7_deal_11 (by decide) ?_
    refine lv_goto (tgt := 27) hx hb dX7_deal_12 (by decide) ?_
    exact J_27 p0 (1 : Int32) S H locs hP hD hS ls (lv_sub hl [0, 1] rfl) hf
abbrev rm_X7_talon : Room := { frames := 0, cells := 0, slots := 0, locals := 0 }
set_option maxHeartbeats 4000000 in
set_option maxRecDepth 100000 in
theorem c_X7_talon (l : Launch) (G : va_G) (c3 : ClassId × ClassId × ClassId) (q : Nat → Nat) (S : tk_ST) (p0 : Int32) (r0 : Int32) (hf : f_X7_talon p0 S = some r0) : tk_Mi l yX7_talon wsX7_talon rm_X7_talon G c3 [.ref (q 17), .int p0] (tk_M c3 q S) (tk_M c3 q S) r0 := by
  refine tk_ofi (cc := cX7_talon) (maxL := 2) (ret := some .int) (by decide) rfl (Nat.le_of_ble_eq_true rfl) ?_
  intro p e s m below meth c A Q ls H locs hx hb hml hr hts hown hlocks hE hA hP hD hS hZ hQ hl
  have hl : lv_has ls 2 [(0, .ref (q 17)), (1, .int p0)] := hl
  have hown : s.vm.findClass RX7 = some m.cls := hown
  unfold f_X7_talon at hf
  refine lv_aload_n hx hb dX7_talon_0 rfl (lv_at hl 0 rfl) ?_
  refine va_get (D := G) (ci := 7) (v := .ref (q 18)) (C := RX7) (T := TX7) (N := 29) hx hb hts i_X7_talon_X7 hown hE.1 hP 0 rfl rfl 5 (by decide) (hts _ m_X7_talon_f16) (fun _ h9 => h9) rfl dX7_talon_1 ?_
  refine lv_bipush (v := 48) hx hb dX7_talon_4 (by decide) ?_
  refine lv_iload_n hx hb dX7_talon_6 rfl (lv_at hl 1 rfl) ?_
  refine lv_iadd hx hb dX7_talon_7 ?_
  obtain ⟨h1, hf⟩ := tk_ok hf
  refine va_iald (f := (S.2.2.1 0)) hx hb hE.1 hP 1 0 rfl rfl h1 dX7_talon_8 ?_
  exact tk_ri hQ (tk_s1 hf) rfl hx hb hr hlocks hP hD hS dX7_talon_9
abbrev rm_X7_begins : Room := { frames := 0, cells := 0, slots := 0, locals := 0 }
set_option maxHeartbeats 4000000 in
set_option maxRecDepth 100000 in
theorem c_X7_begins (l : Launch) (G : va_G) (c3 : ClassId × ClassId × ClassId) (q : Nat → Nat) (S : tk_ST) (S0 : tk_ST) (hf : f_X7_begins S = some S0) : tk_Mv l yX7_begins wsX7_begins rm_X7_begins G c3 [.ref (q 17)] (tk_M c3 q S) (tk_M c3 q S0) := by
  refine tk_ofv (cc := cX7_begins) (maxL := 1) (ret := none) (by decide) rfl (Nat.le_of_ble_eq_true rfl) ?_
  intro p e s m below meth c A Q ls H locs hx hb hml hr hts hown hlocks hE hA hP hD hS hZ hQ hl
  have hl : lv_has ls 1 [(0, .ref (q 17))] := hl
  have hown : s.vm.findClass RX7 = some m.cls := hown
  unfold f_X7_begins at hf
  refine lv_aload_n hx hb dX7_begins_0 rfl (lv_at hl 0 rfl) ?_
  refine lv_iconst (v := 5) hx hb dX7_begins_1 (by decide) ?_
  refine va_put (D := G) (ci := 7) (v := .int (5 : Int32)) (ty := .int) (C := RX7) (T := TX7) (N := 29) hx hb hts i_X7_begins_X7 tyX7 tyX7_ok nmX7 hown hE.1 hP hD hS 0 rfl rfl 1 (by decide) (hts _ m_X7_begins_f9) (fun _ h9 => h9) rfl (by decide +kernel) rfl rfl (Nat.le_of_ble_eq_true rfl) dX7_begins_2 (fun H locs hP hD hS => ?_)
  have hP : va_P G vwCl (tk_M c3 q (tk_I S 1 (5 : Int32))) H := hP
  have hD : va_D A (tk_M c3 q (tk_I S 1 (5 : Int32))) := hD
  refine lv_aload_n hx hb dX7_begins_5 rfl (lv_at hl 0 rfl) ?_
  refine lv_iconst (v := 1) hx hb dX7_begins_6 (by decide) ?_
  refine va_put (D := G) (ci := 7) (v := .int (1 : Int32)) (ty := .boolean) (C := RX7) (T := TX7) (N := 29) hx hb hts i_X7_begins_X7 tyX7 tyX7_ok nmX7 hown hE.1 hP hD hS 0 rfl rfl 19 (by decide) (hts _ m_X7_begins_f98) (fun _ h9 => h9) rfl (by decide +kernel) rfl rfl (Nat.le_of_ble_eq_true rfl) dX7_begins_7 (fun H locs hP hD hS => ?_)
  have hP : va_P G vwCl (tk_M c3 q (tk_I (tk_I S 1 (5 : Int32)) 14 (1 : Int32))) H := hP
  have hD : va_D A (tk_M c3 q (tk_I (tk_I S 1 (5 : Int32)) 14 (1 : Int32))) := hD
  refine lv_aload_n hx hb dX7_begins_10 rfl (lv_at hl 0 rfl) ?_
  refine lv_aload_n hx hb dX7_begins_11 rfl (lv_at hl 0 rfl) ?_
  refine va_get (D := G) (ci := 7) (v := .int (S.1 3)) (C := RX7) (T := TX7) (N := 29) hx hb hts i_X7_begins_X7 hown hE.1 hP 0 rfl rfl 3 (by decide) (hts _ m_X7_begins_f74) (fun _ h9 => h9) rfl dX7_begins_12 ?_
  refine va_put (D := G) (ci := 7) (v := .int (S.1 3)) (ty := .int) (C := RX7) (T := TX7) (N := 29) hx hb hts i_X7_begins_X7 tyX7 tyX7_ok nmX7 hown hE.1 hP hD hS 0 rfl rfl 4 (by decide) (hts _ m_X7_begins_f13) (fun _ h9 => h9) rfl (by decide +kernel) rfl rfl (Nat.le_of_ble_eq_true rfl) dX7_begins_15 (fun H locs hP hD hS => ?_)
  have hP : va_P G vwCl (tk_M c3 q (tk_I (tk_I (tk_I S 1 (5 : Int32)) 14 (1 : Int32)) 4 (S.1 3))) H := hP
  have hD : va_D A (tk_M c3 q (tk_I (tk_I (tk_I S 1 (5 : Int32)) 14 (1 : Int32)) 4 (S.1 3))) := hD
  refine lv_aload_n hx hb dX7_begins_18 rfl (lv_at hl 0 rfl) ?_
  refine lv_aload_n hx hb dX7_begins_19 rfl (lv_at hl 0 rfl) ?_
  refine va_get (D := G) (ci := 7) (v := .int (S.1 3)) (C := RX7) (T := TX7) (N := 29) hx hb hts i_X7_begins_X7 hown hE.1 hP 0 rfl rfl 3 (by decide) (hts _ m_X7_begins_f74) (fun _ h9 => h9) rfl dX7_begins_20 ?_
  refine va_put (D := G) (ci := 7) (v := .int (S.1 3)) (ty := .int) (C := RX7) (T := TX7) (N := 29) hx hb hts i_X7_begins_X7 tyX7 tyX7_ok nmX7 hown hE.1 hP hD hS 0 rfl rfl 23 (by decide) (hts _ m_X7_begins_f107) (fun _ h9 => h9) rfl (by decide +kernel) rfl rfl (Nat.le_of_ble_eq_true rfl) dX7_begins_23 (fun H locs hP hD hS => ?_)
  have hP : va_P G vwCl (tk_M c3 q (tk_I (tk_I (tk_I (tk_I S 1 (5 : Int32)) 14 (1 : Int32)) 4 (S.1 3)) 16 (S.1 3))) H := hP
  have hD : va_D A (tk_M c3 q (tk_I (tk_I (tk_I (tk_I S 1 (5 : Int32)) 14 (1 : Int32)) 4 (S.1 3)) 16 (S.1 3))) := hD
  exact tk_rv hQ (congrArg (tk_M c3 q) (tk_s1 hf)) hx hb hr hlocks hP hD hS dX7_begins_26
abbrev rm_X7_declares : Room := { frames := 1, cells := 0, slots := 0, locals := 21 }
set_option maxHeartbeats 4000000 in
set_option maxRecDepth 100000 in
theorem c_X7_declares (l : Launch) (G : va_G) (c3 : ClassId × ClassId × ClassId) (q : Nat → Nat) (S : tk_ST) (S0 : tk_ST) (hf : f_X7_declares S = some S0) : tk_Mv l yX7_declares wsX7_declares rm_X7_declares G c3 [.ref (q 17)] (tk_M c3 q S) (tk_M c3 q S0) := by
  refine tk_ofv (cc := cX7_declares) (maxL := 2) (ret := none) (by decide) rfl (Nat.le_of_ble_eq_true rfl) ?_
  intro p e s m below meth c A Q ls H locs hx hb hml hr hts hown hlocks hE hA hP hD hS hZ hQ hl
  have hl : lv_has ls 2 [(0, .ref (q 17))] := hl
  have hown : s.vm.findClass RX7 = some m.cls := hown
  have J_26 : ∀ (n_26 : Nat), ∀ (x1_26 : Int32) (S_26 : tk_ST) (H : Heap) (locs : List Loc) (_ : va_P G vwCl (tk_M c3 q S_26) H) (_ : va_D A (tk_M c3 q S_26)) (_ : va_S A s.heap H locs) (ls : Array Slot) (_ : lv_has ls 2 [(0, .ref (q 17)), (1, .int x1_26)]) (_ : f_X7_declares_26 n_26 x1_26 S_26 = some S0), W p l e rm_X7_declares s m ([.ref (q 17)] : List Value).toArray below meth c H locs 0 0 Q (F0 m 26 ls []) := by
    intro n_26
    induction n_26 with
    | zero =>
      intro x1_26 S_26 H locs hP hD hS ls hl hf
      exact absurd hf (by intro h9; cases h9)
    | succ n_26 ih_26 =>
      intro x1_26 S_26 H locs hP hD hS ls hl hf
      rw [f_X7_declares_26_s] at hf
      refine lv_iload_n hx hb dX7_declares_26 rfl (lv_at hl 1 rfl) ?_
      refine lv_bipush (v := 6) hx hb dX7_declares_27 (by decide) ?_
      refine lv_icmp_ge (tgt := 55) hx hb dX7_declares_29 (by decide) (fun h1 => ?_) (fun h1 => ?_)
      · have hf := tk_pos hf h1
        refine lv_aload_n hx hb dX7_declares_55 rfl (lv_at hl 0 rfl) ?_
        obtain ⟨S4, h3, hf⟩ := tk_b1s hf
        refine tk_cv (ws' := (tk_M c3 q S4)) (va_runV (As := []) (rest := []) ⟨hx, hb, hml, hown, hts⟩ (c_X7_begins l G c3 q S_26 S4 h3 H.size) (cwV 0 hts gX7_declares_X7_begins rfl rfl rfl hv_X7_begins ⟨Nat.le_of_ble_eq_true rfl, Nat.le_of_ble_eq_true rfl⟩) (tk_pV hE hP hD 0 rfl rfl) rfl rfl hl.1 rfl (lv_room (Nat.le_of_ble_eq_true rfl)) dX7_declares_56 ⟨Nat.zero_le _, Nat.zero_le _⟩) hD hS hA (fun H locs hP hD hS => ?_)
        refine lv_goto (tgt := 79) hx hb dX7_declares_59 (by decide) ?_
        exact tk_rv hQ (congrArg (tk_M c3 q) (tk_s1 hf)) hx hb hr hlocks hP hD hS dX7_declares_79
      · have hf := tk_neg hf h1
        refine lv_aload_n hx hb dX7_declares_32 rfl (lv_at hl 0 rfl) ?_
        refine lv_dup hx hb dX7_declares_33 rfl ?_
        refine va_get (D := G) (ci := 7) (v := .long (S_26.2.1 1)) (C := RX7) (T := TX7) (N := 29) hx hb hts i_X7_declares_X7 hown hE.1 hP 0 rfl rfl 18 (by decide) (hts _ m_X7_declares_f95) (fun _ h9 => h9) rfl dX7_declares_34 ?_
        refine lv_aload_n hx hb dX7_declares_37 rfl (lv_at hl 0 rfl) ?_
        refine lv_iload_n hx hb dX7_declares_38 rfl (lv_at hl 1 rfl) ?_
        obtain ⟨r5, h6, hf⟩ := tk_b1s hf
        refine tk_ci (ws' := (tk_M c3 q S_26)) (va_runV (As := [.int x1_26]) (rest := [.long (S_26.2.1 1), .ref (q 17)]) ⟨hx, hb, hml, hown, hts⟩ (c_X7_talon l G c3 q S_26 x1_26 r5 h6 H.size) (cwV 1 hts gX7_declares_X7_talon rfl rfl rfl hv_X7_talon ⟨Nat.le_of_ble_eq_true rfl, Nat.le_of_ble_eq_true rfl⟩) (tk_pV hE hP hD 0 rfl rfl) rfl rfl hl.1 rfl (lv_room (Nat.le_of_ble_eq_true rfl)) dX7_declares_39 ⟨Nat.zero_le _, Nat.zero_le _⟩) hD hS hA (fun H locs hP hD hS => ?_)
        obtain ⟨r8, h9, hf⟩ := tk_b1s hf
        refine tk_cl (ws' := (tk_M c3 q S_26)) (va_runS (As := [.int r5]) (rest := [.long (S_26.2.1 1), .ref (q 17)]) ⟨hx, hb, hml, hown, hts⟩ (c_X7_bit l G c3 (tk_M c3 q S_26) r5 r8 h9 H.size) (va_cwS 1 hts gX7_declares_X7_bit rfl rfl rfl hs_X7_bit ⟨Nat.le_of_ble_eq_true rfl, Nat.le_of_ble_eq_true rfl⟩) (tk_pS hE hP hD) rfl rfl hl.1 rfl (lv_room (Nat.le_of_ble_eq_true rfl)) dX7_declares_42 ⟨Nat.zero_le _, Nat.zero_le _⟩) hD hS hA (fun H locs hP hD hS => ?_)
        refine lv_lor hx hb dX7_declares_45 ?_
        refine va_put (D := G) (ci := 7) (v := .long ((S_26.2.1 1) ||| r8)) (ty := .long) (C := RX7) (T := TX7) (N := 29) hx hb hts i_X7_declares_X7 tyX7 tyX7_ok nmX7 hown hE.1 hP hD hS 0 rfl rfl 18 (by decide) (hts _ m_X7_declares_f95) (fun _ h9 => h9) rfl (by decide +kernel) rfl rfl (Nat.le_of_ble_eq_true rfl) dX7_declares_46 (fun H locs hP hD hS => ?_)
        have hP : va_P G vwCl (tk_M c3 q (tk_L S_26 1 ((S_26.2.1 1) ||| r8))) H := hP
        have hD : va_D A (tk_M c3 q (tk_L S_26 1 ((S_26.2.1 1) ||| r8))) := hD
        refine lv_iinc (v := (x1_26 + (1 : Int32))) (lv' := [(1, .int (x1_26 + (1 : Int32))), (0, .ref (q 17))]) hx hb dX7_declares_49 hl (k := 1) rfl rfl (by decide) rfl (fun ls hl => ?_)
        refine lv_goto (tgt := 26) hx hb dX7_declares_52 (by decide) ?_
        exact ih_26 (x1_26 + (1 : Int32)) (tk_L S_26 1 ((S_26.2.1 1) ||| r8)) H locs hP hD hS ls (lv_sub hl [1, 0] rfl) hf
  have J_76 : ∀ (k1_76 : Int32) (S_76 : tk_ST) (H : Heap) (locs : List Loc) (_ : va_P G vwCl (tk_M c3 q S_76) H) (_ : va_D A (tk_M c3 q S_76)) (_ : va_S A s.heap H locs) (ls : Array Slot) (_ : lv_has ls 2 []) (_ : f_X7_declares_76 k1_76 S_76 = some S0), W p l e rm_X7_declares s m ([.ref (q 17)] : List Value).toArray below meth c H locs 0 0 Q (F0 m 76 ls [.int k1_76, .ref (q 17)]) := by
    intro k1_76 S_76 H locs hP hD hS ls hl hf
    unfold f_X7_declares_76 at hf
    refine va_put (D := G) (ci := 7) (v := .int k1_76) (ty := .int) (C := RX7) (T := TX7) (N := 29) hx hb hts i_X7_declares_X7 tyX7 tyX7_ok nmX7 hown hE.1 hP hD hS 0 rfl rfl 1 (by decide) (hts _ m_X7_declares_f9) (fun _ h9 => h9) rfl (by decide +kernel) rfl rfl (Nat.le_of_ble_eq_true rfl) dX7_declares_76 (fun H locs hP hD hS => ?_)
    have hP : va_P G vwCl (tk_M c3 q (tk_I S_76 1 k1_76)) H := hP
    have hD : va_D A (tk_M c3 q (tk_I S_76 1 k1_76)) := hD
    exact tk_rv hQ (congrArg (tk_M c3 q) (tk_s1 hf)) hx hb hr hlocks hP hD hS dX7_declares_79
  unfold f_X7_declares at hf
  refine lv_aload_n hx hb dX7_declares_0 rfl (lv_at hl 0 rfl) ?_
  refine lv_aload_n hx hb dX7_declares_1 rfl (lv_at hl 0 rfl) ?_
  refine va_get (D := G) (ci := 7) (v := .int (S.1 7)) (C := RX7) (T := TX7) (N := 29) hx hb hts i_X7_declares_X7 hown hE.1 hP 0 rfl rfl 10 (by decide) (hts _ m_X7_declares_f28) (fun _ h9 => h9) rfl dX7_declares_2 ?_
  refine va_put (D := G) (ci := 7) (v := .int (S.1 7)) (ty := .int) (C := RX7) (T := TX7) (N := 29) hx hb hts i_X7_declares_X7 tyX7 tyX7_ok nmX7 hown hE.1 hP hD hS 0 rfl rfl 11 (by decide) (hts _ m_X7_declares_f31) (fun _ h9 => h9) rfl (by decide +kernel) rfl rfl (Nat.le_of_ble_eq_true rfl) dX7_declares_5 (fun H locs hP hD hS => ?_)
  have hP : va_P G vwCl (tk_M c3 q (tk_I S 8 (S.1 7))) H := hP
  have hD : va_D A (tk_M c3 q (tk_I S 8 (S.1 7))) := hD
  refine lv_aload_n hx hb dX7_declares_8 rfl (lv_at hl 0 rfl) ?_
  refine lv_aload_n hx hb dX7_declares_9 rfl (lv_at hl 0 rfl) ?_
  refine va_get (D := G) (ci := 7) (v := .int (S.1 7)) (C := RX7) (T := TX7) (N := 29) hx hb hts i_X7_declares_X7 hown hE.1 hP 0 rfl rfl 11 (by decide) (hts _ m_X7_declares_f31) (fun _ h9 => h9) rfl dX7_declares_10 ?_
  refine va_put (D := G) (ci := 7) (v := .int (S.1 7)) (ty := .int) (C := RX7) (T := TX7) (N := 29) hx hb hts i_X7_declares_X7 tyX7 tyX7_ok nmX7 hown hE.1 hP hD hS 0 rfl rfl 4 (by decide) (hts _ m_X7_declares_f13) (fun _ h9 => h9) rfl (by decide +kernel) rfl rfl (Nat.le_of_ble_eq_true rfl) dX7_declares_13 (fun H locs hP hD hS => ?_)
  have hP : va_P G vwCl (tk_M c3 q (tk_I (tk_I S 8 (S.1 7)) 4 (S.1 7))) H := hP
  have hD : va_D A (tk_M c3 q (tk_I (tk_I S 8 (S.1 7)) 4 (S.1 7))) := hD
  refine lv_aload_n hx hb dX7_declares_16 rfl (lv_at hl 0 rfl) ?_
  refine va_get (D := G) (ci := 7) (v := .int (S.1 6)) (C := RX7) (T := TX7) (N := 29) hx hb hts i_X7_declares_X7 hown hE.1 hP 0 rfl rfl 9 (by decide) (hts _ m_X7_declares_f84) (fun _ h9 => h9) rfl dX7_declares_17 ?_
  refine lv_iconst (v := 5) hx hb dX7_declares_20 (by decide) ?_
  refine lv_icmp_ne (tgt := 62) hx hb dX7_declares_21 (by decide) (fun h11 => ?_) (fun h11 => ?_)
  · have hf := tk_neg hf h11
    refine lv_aload_n hx hb dX7_declares_62 rfl (lv_at hl 0 rfl) ?_
    refine lv_aload_n hx hb dX7_declares_63 rfl (lv_at hl 0 rfl) ?_
    refine va_get (D := G) (ci := 7) (v := .int (S.1 6)) (C := RX7) (T := TX7) (N := 29) hx hb hts i_X7_declares_X7 hown hE.1 hP 0 rfl rfl 9 (by decide) (hts _ m_X7_declares_f84) (fun _ h9 => h9) rfl dX7_declares_64 ?_
    refine lv_iconst (v := 4) hx hb dX7_declares_67 (by decide) ?_
    refine lv_icmp_ne (tgt := 75) hx hb dX7_declares_68 (by decide) (fun h12 => ?_) (fun h12 => ?_)
    · have hf := tk_neg hf h12
      refine lv_iconst (v := 2) hx hb dX7_declares_75 (by decide) ?_
      exact J_76 (2 : Int32) (tk_I (tk_I S 8 (S.1 7)) 4 (S.1 7)) H locs hP hD hS ls (lv_sub hl [] rfl) hf
    · have hf := tk_pos hf h12
      refine lv_iconst (v := 3) hx hb dX7_declares_71 (by decide) ?_
      refine lv_goto (tgt := 76) hx hb dX7_declares_72 (by decide) ?_
      exact J_76 (3 : Int32) (tk_I (tk_I S 8 (S.1 7)) 4 (S.1 7)) H locs hP hD hS ls (lv_sub hl [] rfl) hf
  · have hf := tk_pos hf h11
    refine lv_iconst (v := 0) hx hb dX7_declares_24 (by decide) ?_
    refine lv_istore_n (lv' := [(1, .int (0 : Int32)), (0, .ref (q 17))]) hx hb dX7_declares_25 rfl hl (by decide) rfl (fun ls hl => ?_)
    exact J_26 64 (0 : Int32) (tk_I (tk_I S 8 (S.1 7)) 4 (S.1 7)) H locs hP hD hS ls (lv_sub hl [1, 0] rfl) hf
abbrev rm_X7_bid : Room := { frames := 2, cells := 0, slots := 0, locals := 42 }
set_option maxHeartbeats 4000000 in
set_option maxRecDepth 100000 in
theorem c_X7_bid (l : Launch) (G : va_G) (c3 : ClassId × ClassId × ClassId) (q : Nat → Nat) (S : tk_ST) (p0 : Int32) (r0 : Int32) (S0 : tk_ST) (hf : f_X7_bid p0 S = some (r0, S0)) : tk_Mi l yX7_bid wsX7_bid rm_X7_bid G c3 [.ref (q 17), .int p0] (tk_M c3 q S) (tk_M c3 q S0) r0 := by
  refine tk_ofi (cc := cX7_bid) (maxL := 2) (ret := some .int) (by decide) rfl (Nat.le_of_ble_eq_true rfl) ?_
  intro p e s m below meth c A Q ls H locs hx hb hml hr hts hown hlocks hE hA hP hD hS hZ hQ hl
  have hl : lv_has ls 2 [(0, .ref (q 17)), (1, .int p0)] := hl
  have hown : s.vm.findClass RX7 = some m.cls := hown
  have J_143 : ∀ (n_143 : Nat), ∀ (S_143 : tk_ST) (H : Heap) (locs : List Loc) (_ : va_P G vwCl (tk_M c3 q S_143) H) (_ : va_D A (tk_M c3 q S_143)) (_ : va_S A s.heap H locs) (ls : Array Slot) (_ : lv_has ls 2 [(0, .ref (q 17))]) (_ : f_X7_bid_143 n_143 S_143 = some (r0, S0)), W p l e rm_X7_bid s m ([.ref (q 17), .int p0] : List Value).toArray below meth c H locs 0 0 Q (F0 m 143 ls []) := by
    intro n_143
    induction n_143 with
    | zero =>
      intro S_143 H locs hP hD hS ls hl hf
      exact absurd hf (by intro h9; cases h9)
    | succ n_143 ih_143 =>
      intro S_143 H locs hP hD hS ls hl hf
      rw [f_X7_bid_143_s] at hf
      refine lv_aload_n hx hb dX7_bid_143 rfl (lv_at hl 0 rfl) ?_
      refine va_get (D := G) (ci := 7) (v := .ref (q 20)) (C := RX7) (T := TX7) (N := 29) hx hb hts i_X7_bid_X7 hown hE.1 hP 0 rfl rfl 7 (by decide) (hts _ m_X7_bid_f24) (fun _ h9 => h9) rfl dX7_bid_144 ?_
      refine lv_aload_n hx hb dX7_bid_147 rfl (lv_at hl 0 rfl) ?_
      refine va_get (D := G) (ci := 7) (v := .int (S_143.1 4)) (C := RX7) (T := TX7) (N := 29) hx hb hts i_X7_bid_X7 hown hE.1 hP 0 rfl rfl 4 (by decide) (hts _ m_X7_bid_f13) (fun _ h9 => h9) rfl dX7_bid_148 ?_
      obtain ⟨h1, hf⟩ := tk_ok hf
      refine va_zald (f := (S_143.2.2.1 1)) hx hb hE.1 hP 3 2 rfl rfl h1 dX7_bid_151 ?_
      refine lv_if_eq (tgt := 170) hx hb dX7_bid_152 (by decide) (fun h2 => ?_) (fun h2 => ?_)
      · have hf := tk_pos hf h2
        refine lv_aload_n hx hb dX7_bid_170 rfl (lv_at hl 0 rfl) ?_
        refine va_get (D := G) (ci := 7) (v := .int (S_143.1 1)) (C := RX7) (T := TX7) (N := 29) hx hb hts i_X7_bid_X7 hown hE.1 hP 0 rfl rfl 1 (by decide) (hts _ m_X7_bid_f9) (fun _ h9 => h9) rfl dX7_bid_171 ?_
        exact tk_ri hQ (tk_s2 hf).1 (congrArg (tk_M c3 q) (tk_s2 hf).2) hx hb hr hlocks hP hD hS dX7_bid_174
      · have hf := tk_neg hf h2
        refine lv_aload_n hx hb dX7_bid_155 rfl (lv_at hl 0 rfl) ?_
        refine lv_aload_n hx hb dX7_bid_156 rfl (lv_at hl 0 rfl) ?_
        refine va_get (D := G) (ci := 7) (v := .int (S_143.1 4)) (C := RX7) (T := TX7) (N := 29) hx hb hts i_X7_bid_X7 hown hE.1 hP 0 rfl rfl 4 (by decide) (hts _ m_X7_bid_f13) (fun _ h9 => h9) rfl dX7_bid_157 ?_
        refine lv_iconst (v := 1) hx hb dX7_bid_160 (by decide) ?_
        refine lv_iadd hx hb dX7_bid_161 ?_
        refine lv_iconst (v := 4) hx hb dX7_bid_162 (by decide) ?_
        refine tk_irem hx hb dX7_bid_163 (by decide) ?_
        refine va_put (D := G) (ci := 7) (v := .int (tk_rem ((S_143.1 4) + (1 : Int32)) (4 : Int32))) (ty := .int) (C := RX7) (T := TX7) (N := 29) hx hb hts i_X7_bid_X7 tyX7 tyX7_ok nmX7 hown hE.1 hP hD hS 0 rfl rfl 4 (by decide) (hts _ m_X7_bid_f13) (fun _ h9 => h9) rfl (by decide +kernel) rfl rfl (Nat.le_of_ble_eq_true rfl) dX7_bid_164 (fun H locs hP hD hS => ?_)
        have hP : va_P G vwCl (tk_M c3 q (tk_I S_143 4 (tk_rem ((S_143.1 4) + (1 : Int32)) (4 : Int32)))) H := hP
        have hD : va_D A (tk_M c3 q (tk_I S_143 4 (tk_rem ((S_143.1 4) + (1 : Int32)) (4 : Int32)))) := hD
        refine lv_goto (tgt := 143) hx hb dX7_bid_167 (by decide) ?_
        exact ih_143 (tk_I S_143 4 (tk_rem ((S_143.1 4) + (1 : Int32)) (4 : Int32))) H locs hP hD hS ls (lv_sub hl [0] rfl) hf
  have J_131 : ∀ (S_131 : tk_ST) (H : Heap) (locs : List Loc) (_ : va_P G vwCl (tk_M c3 q S_131) H) (_ : va_D A (tk_M c3 q S_131)) (_ : va_S A s.heap H locs) (ls : Array Slot) (_ : lv_has ls 2 [(0, .ref (q 17))]) (_ : f_X7_bid_131 S_131 = some (r0, S0)), W p l e rm_X7_bid s m ([.ref (q 17), .int p0] : List Value).toArray below meth c H locs 0 0 Q (F0 m 131 ls []) := by
    intro S_131 H locs hP hD hS ls hl hf
    unfold f_X7_bid_131 at hf
    refine lv_aload_n hx hb dX7_bid_131 rfl (lv_at hl 0 rfl) ?_
    refine lv_aload_n hx hb dX7_bid_132 rfl (lv_at hl 0 rfl) ?_
    refine va_get (D := G) (ci := 7) (v := .int (S_131.1 4)) (C := RX7) (T := TX7) (N := 29) hx hb hts i_X7_bid_X7 hown hE.1 hP 0 rfl rfl 4 (by decide) (hts _ m_X7_bid_f13) (fun _ h9 => h9) rfl dX7_bid_133 ?_
    refine lv_iconst (v := 1) hx hb dX7_bid_136 (by decide) ?_
    refine lv_iadd hx hb dX7_bid_137 ?_
    refine lv_iconst (v := 4) hx hb dX7_bid_138 (by decide) ?_
    refine tk_irem hx hb dX7_bid_139 (by decide) ?_
    refine va_put (D := G) (ci := 7) (v := .int (tk_rem ((S_131.1 4) + (1 : Int32)) (4 : Int32))) (ty := .int) (C := RX7) (T := TX7) (N := 29) hx hb hts i_X7_bid_X7 tyX7 tyX7_ok nmX7 hown hE.1 hP hD hS 0 rfl rfl 4 (by decide) (hts _ m_X7_bid_f13) (fun _ h9 => h9) rfl (by decide +kernel) rfl rfl (Nat.le_of_ble_eq_true rfl) dX7_bid_140 (fun H locs hP hD hS => ?_)
    have hP : va_P G vwCl (tk_M c3 q (tk_I S_131 4 (tk_rem ((S_131.1 4) + (1 : Int32)) (4 : Int32)))) H := hP
    have hD : va_D A (tk_M c3 q (tk_I S_131 4 (tk_rem ((S_131.1 4) + (1 : Int32)) (4 : Int32)))) := hD
    exact J_143 64 (tk_I S_131 4 (tk_rem ((S_131.1 4) + (1 : Int32)) (4 : Int32))) H locs hP hD hS ls (lv_sub hl [0] rfl) hf
  have J_87 : ∀ (S_87 : tk_ST) (H : Heap) (locs : List Loc) (_ : va_P G vwCl (tk_M c3 q S_87) H) (_ : va_D A (tk_M c3 q S_87)) (_ : va_S A s.heap H locs) (ls : Array Slot) (_ : lv_has ls 2 [(0, .ref (q 17))]) (_ : f_X7_bid_87 S_87 = some (r0, S0)), W p l e rm_X7_bid s m ([.ref (q 17), .int p0] : List Value).toArray below meth c H locs 0 0 Q (F0 m 87 ls []) := by
    intro S_87 H locs hP hD hS ls hl hf
    unfold f_X7_bid_87 at hf
    refine lv_aload_n hx hb dX7_bid_87 rfl (lv_at hl 0 rfl) ?_
    refine va_get (D := G) (ci := 7) (v := .int (S_87.1 5)) (C := RX7) (T := TX7) (N := 29) hx hb hts i_X7_bid_X7 hown hE.1 hP 0 rfl rfl 8 (by decide) (hts _ m_X7_bid_f81) (fun _ h9 => h9) rfl dX7_bid_88 ?_
    refine lv_iconst (v := 4) hx hb dX7_bid_91 (by decide) ?_
    refine lv_icmp_ne (tgt := 108) hx hb dX7_bid_92 (by decide) (fun h3 => ?_) (fun h3 => ?_)
    · have hf := tk_neg hf h3
      refine lv_aload_n hx hb dX7_bid_108 rfl (lv_at hl 0 rfl) ?_
      refine va_get (D := G) (ci := 7) (v := .int (S_87.1 5)) (C := RX7) (T := TX7) (N := 29) hx hb hts i_X7_bid_X7 hown hE.1 hP 0 rfl rfl 8 (by decide) (hts _ m_X7_bid_f81) (fun _ h9 => h9) rfl dX7_bid_109 ?_
      refine lv_iconst (v := 3) hx hb dX7_bid_112 (by decide) ?_
      refine lv_icmp_ne (tgt := 131) hx hb dX7_bid_113 (by decide) (fun h4 => ?_) (fun h4 => ?_)
      · have hf := tk_neg hf h4
        exact J_131 S_87 H locs hP hD hS ls (lv_sub hl [0] rfl) hf
      · have hf := tk_pos hf h4
        refine lv_aload_n hx hb dX7_bid_116 rfl (lv_at hl 0 rfl) ?_
        refine va_get (D := G) (ci := 7) (v := .int (S_87.1 7)) (C := RX7) (T := TX7) (N := 29) hx hb hts i_X7_bid_X7 hown hE.1 hP 0 rfl rfl 10 (by decide) (hts _ m_X7_bid_f28) (fun _ h9 => h9) rfl dX7_bid_117 ?_
        refine lv_iconst (v := -1) hx hb dX7_bid_120 (by decide) ?_
        refine lv_icmp_eq (tgt := 131) hx hb dX7_bid_121 (by decide) (fun h5 => ?_) (fun h5 => ?_)
        · have hf := tk_pos hf h5
          exact J_131 S_87 H locs hP hD hS ls (lv_sub hl [0] rfl) hf
        · have hf := tk_neg hf h5
          refine lv_aload_n hx hb dX7_bid_124 rfl (lv_at hl 0 rfl) ?_
          obtain ⟨S8, h7, hf⟩ := tk_b1s hf
          refine tk_cv (ws' := (tk_M c3 q S8)) (va_runV (As := []) (rest := []) ⟨hx, hb, hml, hown, hts⟩ (c_X7_declares l G c3 q S_87 S8 h7 H.size) (cwV 0 hts gX7_bid_X7_declares rfl rfl rfl hv_X7_declares ⟨Nat.le_of_ble_eq_true rfl, Nat.le_of_ble_eq_true rfl⟩) (tk_pV hE hP hD 0 rfl rfl) rfl rfl hl.1 rfl (lv_room (Nat.le_of_ble_eq_true rfl)) dX7_bid_125 ⟨Nat.zero_le _, Nat.zero_le _⟩) hD hS hA (fun H locs hP hD hS => ?_)
          refine lv_goto (tgt := 170) hx hb dX7_bid_128 (by decide) ?_
          refine lv_aload_n hx hb dX7_bid_170 rfl (lv_at hl 0 rfl) ?_
          refine va_get (D := G) (ci := 7) (v := .int (S8.1 1)) (C := RX7) (T := TX7) (N := 29) hx hb hts i_X7_bid_X7 hown hE.1 hP 0 rfl rfl 1 (by decide) (hts _ m_X7_bid_f9) (fun _ h9 => h9) rfl dX7_bid_171 ?_
          exact tk_ri hQ (tk_s2 hf).1 (congrArg (tk_M c3 q) (tk_s2 hf).2) hx hb hr hlocks hP hD hS dX7_bid_174
    · have hf := tk_pos hf h3
      refine lv_aload_n hx hb dX7_bid_95 rfl (lv_at hl 0 rfl) ?_
      refine lv_iconst (v := 0) hx hb dX7_bid_96 (by decide) ?_
      refine va_put (D := G) (ci := 7) (v := .int (0 : Int32)) (ty := .int) (C := RX7) (T := TX7) (N := 29) hx hb hts i_X7_bid_X7 tyX7 tyX7_ok nmX7 hown hE.1 hP hD hS 0 rfl rfl 1 (by decide) (hts _ m_X7_bid_f9) (fun _ h9 => h9) rfl (by decide +kernel) rfl rfl (Nat.le_of_ble_eq_true rfl) dX7_bid_97 (fun H locs hP hD hS => ?_)
      have hP : va_P G vwCl (tk_M c3 q (tk_I S_87 1 (0 : Int32))) H := hP
      have hD : va_D A (tk_M c3 q (tk_I S_87 1 (0 : Int32))) := hD
      refine lv_aload_n hx hb dX7_bid_100 rfl (lv_at hl 0 rfl) ?_
      refine lv_iconst (v := -1) hx hb dX7_bid_101 (by decide) ?_
      refine va_put (D := G) (ci := 7) (v := .int (-1 : Int32)) (ty := .int) (C := RX7) (T := TX7) (N := 29) hx hb hts i_X7_bid_X7 tyX7 tyX7_ok nmX7 hown hE.1 hP hD hS 0 rfl rfl 4 (by decide) (hts _ m_X7_bid_f13) (fun _ h9 => h9) rfl (by decide +kernel) rfl rfl (Nat.le_of_ble_eq_true rfl) dX7_bid_102 (fun H locs hP hD hS => ?_)
      have hP : va_P G vwCl (tk_M c3 q (tk_I (tk_I S_87 1 (0 : Int32)) 4 (-1 : Int32))) H := hP
      have hD : va_D A (tk_M c3 q (tk_I (tk_I S_87 1 (0 : Int32)) 4 (-1 : Int32))) := hD
      refine lv_goto (tgt := 170) hx hb dX7_bid_105 (by decide) ?_
      refine lv_aload_n hx hb dX7_bid_170 rfl (lv_at hl 0 rfl) ?_
      refine va_get (D := G) (ci := 7) (v := .int (0 : Int32)) (C := RX7) (T := TX7) (N := 29) hx hb hts i_X7_bid_X7 hown hE.1 hP 0 rfl rfl 1 (by decide) (hts _ m_X7_bid_f9) (fun _ h9 => h9) rfl dX7_bid_171 ?_
      exact tk_ri hQ (tk_s2 hf).1 (congrArg (tk_M c3 q) (tk_s2 hf).2) hx hb hr hlocks hP hD hS dX7_bid_174
  have J_39 : ∀ (x1_39 : Int32) (k1_39 : Int32) (S_39 : tk_ST) (H : Heap) (locs : List Loc) (_ : va_P G vwCl (tk_M c3 q S_39) H) (_ : va_D A (tk_M c3 q S_39)) (_ : va_S A s.heap H locs) (ls : Array Slot) (_ : lv_has ls 2 [(0, .ref (q 17)), (1, .int x1_39)]) (_ : f_X7_bid_39 x1_39 k1_39 S_39 = some (r0, S0)), W p l e rm_X7_bid s m ([.ref (q 17), .int p0] : List Value).toArray below meth c H locs 0 0 Q (F0 m 39 ls [.int k1_39, .ref (q 17)]) := by
    intro x1_39 k1_39 S_39 H locs hP hD hS ls hl hf
    unfold f_X7_bid_39 at hf
    obtain ⟨r9, S11, h10, hf⟩ := tk_b2s hf
    refine tk_ci (ws' := (tk_M c3 q S11)) (va_runV (As := [.int k1_39]) (rest := []) ⟨hx, hb, hml, hown, hts⟩ (c_X7_isFine l G c3 q S_39 k1_39 r9 S11 h10 H.size) (cwV 1 hts gX7_bid_X7_isFine rfl rfl rfl hv_X7_isFine ⟨Nat.le_of_ble_eq_true rfl, Nat.le_of_ble_eq_true rfl⟩) (tk_pV hE hP hD 0 rfl rfl) rfl rfl hl.1 rfl (lv_room (Nat.le_of_ble_eq_true rfl)) dX7_bid_39 ⟨Nat.zero_le _, Nat.zero_le _⟩) hD hS hA (fun H locs hP hD hS => ?_)
    refine lv_if_ne (tgt := 47) hx hb dX7_bid_42 (by decide) (fun h12 => ?_) (fun h12 => ?_)
    · have hf := tk_neg hf h12
      refine lv_iload_n hx hb dX7_bid_47 rfl (lv_at hl 1 rfl) ?_
      refine lv_if_ne (tgt := 74) hx hb dX7_bid_48 (by decide) (fun h13 => ?_) (fun h13 => ?_)
      · have hf := tk_neg hf h13
        refine lv_aload_n hx hb dX7_bid_74 rfl (lv_at hl 0 rfl) ?_
        refine lv_iload_n hx hb dX7_bid_75 rfl (lv_at hl 1 rfl) ?_
        refine va_put (D := G) (ci := 7) (v := .int x1_39) (ty := .int) (C := RX7) (T := TX7) (N := 29) hx hb hts i_X7_bid_X7 tyX7 tyX7_ok nmX7 hown hE.1 hP hD hS 0 rfl rfl 9 (by decide) (hts _ m_X7_bid_f84) (fun _ h9 => h9) rfl (by decide +kernel) rfl rfl (Nat.le_of_ble_eq_true rfl) dX7_bid_76 (fun H locs hP hD hS => ?_)
        have hP : va_P G vwCl (tk_M c3 q (tk_I S11 6 x1_39)) H := hP
        have hD : va_D A (tk_M c3 q (tk_I S11 6 x1_39)) := hD
        refine lv_aload_n hx hb dX7_bid_79 rfl (lv_at hl 0 rfl) ?_
        refine lv_aload_n hx hb dX7_bid_80 rfl (lv_at hl 0 rfl) ?_
        refine va_get (D := G) (ci := 7) (v := .int (S11.1 4)) (C := RX7) (T := TX7) (N := 29) hx hb hts i_X7_bid_X7 hown hE.1 hP 0 rfl rfl 4 (by decide) (hts _ m_X7_bid_f13) (fun _ h9 => h9) rfl dX7_bid_81 ?_
        refine va_put (D := G) (ci := 7) (v := .int (S11.1 4)) (ty := .int) (C := RX7) (T := TX7) (N := 29) hx hb hts i_X7_bid_X7 tyX7 tyX7_ok nmX7 hown hE.1 hP hD hS 0 rfl rfl 10 (by decide) (hts _ m_X7_bid_f28) (fun _ h9 => h9) rfl (by decide +kernel) rfl rfl (Nat.le_of_ble_eq_true rfl) dX7_bid_84 (fun H locs hP hD hS => ?_)
        have hP : va_P G vwCl (tk_M c3 q (tk_I (tk_I S11 6 x1_39) 7 (S11.1 4))) H := hP
        have hD : va_D A (tk_M c3 q (tk_I (tk_I S11 6 x1_39) 7 (S11.1 4))) := hD
        exact J_87 (tk_I (tk_I S11 6 x1_39) 7 (S11.1 4)) H locs hP hD hS ls (lv_sub hl [0] rfl) hf
      · have hf := tk_pos hf h13
        refine lv_aload_n hx hb dX7_bid_51 rfl (lv_at hl 0 rfl) ?_
        refine va_get (D := G) (ci := 7) (v := .ref (q 20)) (C := RX7) (T := TX7) (N := 29) hx hb hts i_X7_bid_X7 hown hE.1 hP 0 rfl rfl 7 (by decide) (hts _ m_X7_bid_f24) (fun _ h9 => h9) rfl dX7_bid_52 ?_
        refine lv_aload_n hx hb dX7_bid_55 rfl (lv_at hl 0 rfl) ?_
        refine va_get (D := G) (ci := 7) (v := .int (S11.1 4)) (C := RX7) (T := TX7) (N := 29) hx hb hts i_X7_bid_X7 hown hE.1 hP 0 rfl rfl 4 (by decide) (hts _ m_X7_bid_f13) (fun _ h9 => h9) rfl dX7_bid_56 ?_
        refine lv_iconst (v := 1) hx hb dX7_bid_59 (by decide) ?_
        obtain ⟨h14, hf⟩ := tk_ok hf
        refine tk_zast (v := (1 : Int32)) (f := (S11.2.2.1 1)) hx hb hE.1 hP hD hS 3 2 rfl rfl (by decide) h14 dX7_bid_60 (fun H locs hP hD hS => ?_)
        have hP : va_P G vwCl (tk_M c3 q (tk_A S11 1 (upd (S11.2.2.1 1) (S11.1 4).toNatClampNeg (1 : Int32)))) H := hP
        have hD : va_D A (tk_M c3 q (tk_A S11 1 (upd (S11.2.2.1 1) (S11.1 4).toNatClampNeg (1 : Int32)))) := hD
        obtain ⟨S15, eS15⟩ : ∃ z : tk_ST, z = (tk_A S11 1 (upd (S11.2.2.1 1) (S11.1 4).toNatClampNeg (1 : Int32))) := ⟨_, rfl⟩
        rw [← eS15] at hP hD
        have hf := tk_nm hf eS15
        refine lv_aload_n hx hb dX7_bid_61 rfl (lv_at hl 0 rfl) ?_
        refine lv_dup hx hb dX7_bid_62 rfl ?_
        refine va_get (D := G) (ci := 7) (v := .int (S15.1 5)) (C := RX7) (T := TX7) (N := 29) hx hb hts i_X7_bid_X7 hown hE.1 hP 0 rfl rfl 8 (by decide) (hts _ m_X7_bid_f81) (fun _ h9 => h9) rfl dX7_bid_63 ?_
        refine lv_iconst (v := 1) hx hb dX7_bid_66 (by decide) ?_
        refine lv_iadd hx hb dX7_bid_67 ?_
        refine va_put (D := G) (ci := 7) (v := .int ((S15.1 5) + (1 : Int32))) (ty := .int) (C := RX7) (T := TX7) (N := 29) hx hb hts i_X7_bid_X7 tyX7 tyX7_ok nmX7 hown hE.1 hP hD hS 0 rfl rfl 8 (by decide) (hts _ m_X7_bid_f81) (fun _ h9 => h9) rfl (by decide +kernel) rfl rfl (Nat.le_of_ble_eq_true rfl) dX7_bid_68 (fun H locs hP hD hS => ?_)
        have hP : va_P G vwCl (tk_M c3 q (tk_I S15 5 ((S15.1 5) + (1 : Int32)))) H := hP
        have hD : va_D A (tk_M c3 q (tk_I S15 5 ((S15.1 5) + (1 : Int32)))) := hD
        refine lv_goto (tgt := 87) hx hb dX7_bid_71 (by decide) ?_
        exact J_87 (tk_I S15 5 ((S15.1 5) + (1 : Int32))) H locs hP hD hS ls (lv_sub hl [0] rfl) hf
    · have hf := tk_pos hf h12
      refine lv_iconst (v := 0) hx hb dX7_bid_45 (by decide) ?_
      exact tk_ri hQ (tk_s2 hf).1 (congrArg (tk_M c3 q) (tk_s2 hf).2) hx hb hr hlocks hP hD hS dX7_bid_46
  have J_34 : ∀ (x1_34 : Int32) (S_34 : tk_ST) (H : Heap) (locs : List Loc) (_ : va_P G vwCl (tk_M c3 q S_34) H) (_ : va_D A (tk_M c3 q S_34)) (_ : va_S A s.heap H locs) (ls : Array Slot) (_ : lv_has ls 2 [(0, .ref (q 17)), (1, .int x1_34)]) (_ : f_X7_bid_34 x1_34 S_34 = some (r0, S0)), W p l e rm_X7_bid s m ([.ref (q 17), .int p0] : List Value).toArray below meth c H locs 0 0 Q (F0 m 34 ls [.ref (q 17)]) := by
    intro x1_34 S_34 H locs hP hD hS ls hl hf
    unfold f_X7_bid_34 at hf
    refine lv_iconst (v := 2) hx hb dX7_bid_34 (by decide) ?_
    refine lv_goto (tgt := 39) hx hb dX7_bid_35 (by decide) ?_
    exact J_39 x1_34 (2 : Int32) S_34 H locs hP hD hS ls (lv_sub hl [0, 1] rfl) hf
  have J_38 : ∀ (x1_38 : Int32) (S_38 : tk_ST) (H : Heap) (locs : List Loc) (_ : va_P G vwCl (tk_M c3 q S_38) H) (_ : va_D A (tk_M c3 q S_38)) (_ : va_S A s.heap H locs) (ls : Array Slot) (_ : lv_has ls 2 [(0, .ref (q 17)), (1, .int x1_38)]) (_ : f_X7_bid_38 x1_38 S_38 = some (r0, S0)), W p l e rm_X7_bid s m ([.ref (q 17), .int p0] : List Value).toArray below meth c H locs 0 0 Q (F0 m 38 ls [.ref (q 17)]) := by
    intro x1_38 S_38 H locs hP hD hS ls hl hf
    unfold f_X7_bid_38 at hf
    refine lv_iconst (v := 0) hx hb dX7_bid_38 (by decide) ?_
    exact J_39 x1_38 (0 : Int32) S_38 H locs hP hD hS ls (lv_sub hl [0, 1] rfl) hf
  unfold f_X7_bid at hf
  refine lv_aload_n hx hb dX7_bid_0 rfl (lv_at hl 0 rfl) ?_
  refine lv_iload_n hx hb dX7_bid_1 rfl (lv_at hl 1 rfl) ?_
  refine lv_iconst (v := 0) hx hb dX7_bid_2 (by decide) ?_
  refine lv_iconst (v := 5) hx hb dX7_bid_3 (by decide) ?_
  obtain ⟨r16, h17, hf⟩ := tk_b1s hf
  refine tk_ci (ws' := (tk_M c3 q S)) (va_runS (As := [.int p0, .int (0 : Int32), .int (5 : Int32)]) (rest := [.ref (q 17)]) ⟨hx, hb, hml, hown, hts⟩ (c_X7_isIn l G c3 (tk_M c3 q S) p0 (0 : Int32) (5 : Int32) r16 h17 H.size) (va_cwS 3 hts gX7_bid_X7_isIn rfl rfl rfl hs_X7_isIn ⟨Nat.le_of_ble_eq_true rfl, Nat.le_of_ble_eq_true rfl⟩) (tk_pS hE hP hD) rfl rfl hl.1 rfl (lv_room (Nat.le_of_ble_eq_true rfl)) dX7_bid_4 ⟨Nat.zero_le _, Nat.zero_le _⟩) hD hS hA (fun H locs hP hD hS => ?_)
  refine lv_if_ne (tgt := 14) hx hb dX7_bid_7 (by decide) (fun h19 => ?_) (fun h19 => ?_)
  · have hf := tk_neg hf h19
    refine lv_aload_n hx hb dX7_bid_14 rfl (lv_at hl 0 rfl) ?_
    refine va_get (D := G) (ci := 7) (v := .int (S.1 1)) (C := RX7) (T := TX7) (N := 29) hx hb hts i_X7_bid_X7 hown hE.1 hP 0 rfl rfl 1 (by decide) (hts _ m_X7_bid_f9) (fun _ h9 => h9) rfl dX7_bid_15 ?_
    refine lv_iconst (v := 1) hx hb dX7_bid_18 (by decide) ?_
    refine lv_icmp_ne (tgt := 34) hx hb dX7_bid_19 (by decide) (fun h20 => ?_) (fun h20 => ?_)
    · have hf := tk_neg hf h20
      exact J_34 p0 S H locs hP hD hS ls (lv_sub hl [0, 1] rfl) hf
    · have hf := tk_pos hf h20
      refine lv_iload_n hx hb dX7_bid_22 rfl (lv_at hl 1 rfl) ?_
      refine lv_if_le (tgt := 38) hx hb dX7_bid_23 (by decide) (fun h21 => ?_) (fun h21 => ?_)
      · have hf := tk_pos hf h21
        exact J_38 p0 S H locs hP hD hS ls (lv_sub hl [0, 1] rfl) hf
      · have hf := tk_neg hf h21
        refine lv_iload_n hx hb dX7_bid_26 rfl (lv_at hl 1 rfl) ?_
        refine lv_aload_n hx hb dX7_bid_27 rfl (lv_at hl 0 rfl) ?_
        refine va_get (D := G) (ci := 7) (v := .int (S.1 6)) (C := RX7) (T := TX7) (N := 29) hx hb hts i_X7_bid_X7 hown hE.1 hP 0 rfl rfl 9 (by decide) (hts _ m_X7_bid_f84) (fun _ h9 => h9) rfl dX7_bid_28 ?_
        refine lv_icmp_gt (tgt := 38) hx hb dX7_bid_31 (by decide) (fun h22 => ?_) (fun h22 => ?_)
        · have hf := tk_pos hf h22
          exact J_38 p0 S H locs hP hD hS ls (lv_sub hl [0, 1] rfl) hf
        · have hf := tk_neg hf h22
          exact J_34 p0 S H locs hP hD hS ls (lv_sub hl [0, 1] rfl) hf
  · have hf := tk_pos hf h19
    refine lv_iconst (v := 1) hx hb dX7_bid_10 (by decide) ?_
    refine lv_goto (tgt := 39) hx hb dX7_bid_11 (by decide) ?_
    exact J_39 p0 (1 : Int32) S H locs hP hD hS ls (lv_sub hl [0, 1] rfl) hf
abbrev rm_X7_call : Room := { frames := 1, cells := 0, slots := 0, locals := 22 }
set_option maxHeartbeats 4000000 in
set_option maxRecDepth 100000 in
theorem c_X7_call (l : Launch) (G : va_G) (c3 : ClassId × ClassId × ClassId) (q : Nat → Nat) (S : tk_ST) (p0 : Int32) (r0 : Int32) (S0 : tk_ST) (hf : f_X7_call p0 S = some (r0, S0)) : tk_Mi l yX7_call wsX7_call rm_X7_call G c3 [.ref (q 17), .int p0] (tk_M c3 q S) (tk_M c3 q S0) r0 := by
  refine tk_ofi (cc := cX7_call) (maxL := 3) (ret := some .int) (by decide) rfl (Nat.le_of_ble_eq_true rfl) ?_
  intro p e s m below meth c A Q ls H locs hx hb hml hr hts hown hlocks hE hA hP hD hS hZ hQ hl
  have hl : lv_has ls 3 [(0, .ref (q 17)), (1, .int p0)] := hl
  have hown : s.vm.findClass RX7 = some m.cls := hown
  have J_101 : ∀ (k1_101 : Int32) (S_101 : tk_ST) (H : Heap) (locs : List Loc) (_ : va_P G vwCl (tk_M c3 q S_101) H) (_ : va_D A (tk_M c3 q S_101)) (_ : va_S A s.heap H locs) (ls : Array Slot) (_ : lv_has ls 3 [(0, .ref (q 17))]) (_ : f_X7_call_101 k1_101 S_101 = some (r0, S0)), W p l e rm_X7_call s m ([.ref (q 17), .int p0] : List Value).toArray below meth c H locs 0 0 Q (F0 m 101 ls [.int k1_101, .ref (q 17)]) := by
    intro k1_101 S_101 H locs hP hD hS ls hl hf
    unfold f_X7_call_101 at hf
    refine va_put (D := G) (ci := 7) (v := .int k1_101) (ty := .int) (C := RX7) (T := TX7) (N := 29) hx hb hts i_X7_call_X7 tyX7 tyX7_ok nmX7 hown hE.1 hP hD hS 0 rfl rfl 13 (by decide) (hts _ m_X7_call_f37) (fun _ h9 => h9) rfl (by decide +kernel) rfl rfl (Nat.le_of_ble_eq_true rfl) dX7_call_101 (fun H locs hP hD hS => ?_)
    have hP : va_P G vwCl (tk_M c3 q (tk_I S_101 10 k1_101)) H := hP
    have hD : va_D A (tk_M c3 q (tk_I S_101 10 k1_101)) := hD
    refine lv_aload_n hx hb dX7_call_104 rfl (lv_at hl 0 rfl) ?_
    refine lv_iconst (v := 3) hx hb dX7_call_105 (by decide) ?_
    refine va_put (D := G) (ci := 7) (v := .int (3 : Int32)) (ty := .int) (C := RX7) (T := TX7) (N := 29) hx hb hts i_X7_call_X7 tyX7 tyX7_ok nmX7 hown hE.1 hP hD hS 0 rfl rfl 1 (by decide) (hts _ m_X7_call_f9) (fun _ h9 => h9) rfl (by decide +kernel) rfl rfl (Nat.le_of_ble_eq_true rfl) dX7_call_106 (fun H locs hP hD hS => ?_)
    have hP : va_P G vwCl (tk_M c3 q (tk_I (tk_I S_101 10 k1_101) 1 (3 : Int32))) H := hP
    have hD : va_D A (tk_M c3 q (tk_I (tk_I S_101 10 k1_101) 1 (3 : Int32))) := hD
    refine lv_aload_n hx hb dX7_call_109 rfl (lv_at hl 0 rfl) ?_
    refine va_get (D := G) (ci := 7) (v := .int (3 : Int32)) (C := RX7) (T := TX7) (N := 29) hx hb hts i_X7_call_X7 hown hE.1 hP 0 rfl rfl 1 (by decide) (hts _ m_X7_call_f9) (fun _ h9 => h9) rfl dX7_call_110 ?_
    exact tk_ri hQ (tk_s2 hf).1 (congrArg (tk_M c3 q) (tk_s2 hf).2) hx hb hr hlocks hP hD hS dX7_call_113
  have J_42 : ∀ (n_42 : Nat), ∀ (x2_42 : Int32) (S_42 : tk_ST) (H : Heap) (locs : List Loc) (_ : va_P G vwCl (tk_M c3 q S_42) H) (_ : va_D A (tk_M c3 q S_42)) (_ : va_S A s.heap H locs) (ls : Array Slot) (_ : lv_has ls 3 [(0, .ref (q 17)), (2, .int x2_42)]) (_ : f_X7_call_42 n_42 x2_42 S_42 = some (r0, S0)), W p l e rm_X7_call s m ([.ref (q 17), .int p0] : List Value).toArray below meth c H locs 0 0 Q (F0 m 42 ls []) := by
    intro n_42
    induction n_42 with
    | zero =>
      intro x2_42 S_42 H locs hP hD hS ls hl hf
      exact absurd hf (by intro h9; cases h9)
    | succ n_42 ih_42 =>
      have J_72 : ∀ (x2_72 : Int32) (k1_72 : Int32) (S_72 : tk_ST) (H : Heap) (locs : List Loc) (_ : va_P G vwCl (tk_M c3 q S_72) H) (_ : va_D A (tk_M c3 q S_72)) (_ : va_S A s.heap H locs) (ls : Array Slot) (_ : lv_has ls 3 [(0, .ref (q 17)), (2, .int x2_72)]) (_ : f_X7_call_72 (f_X7_call_42 n_42) x2_72 k1_72 S_72 = some (r0, S0)), W p l e rm_X7_call s m ([.ref (q 17), .int p0] : List Value).toArray below meth c H locs 0 0 Q (F0 m 72 ls [.int k1_72, .ref (q 17)]) := by
        intro x2_72 k1_72 S_72 H locs hP hD hS ls hl hf
        unfold f_X7_call_72 at hf
        refine va_put (D := G) (ci := 7) (v := .int k1_72) (ty := .int) (C := RX7) (T := TX7) (N := 29) hx hb hts i_X7_call_X7 tyX7 tyX7_ok nmX7 hown hE.1 hP hD hS 0 rfl rfl 14 (by decide) (hts _ m_X7_call_f40) (fun _ h9 => h9) rfl (by decide +kernel) rfl rfl (Nat.le_of_ble_eq_true rfl) dX7_call_72 (fun H locs hP hD hS => ?_)
        have hP : va_P G vwCl (tk_M c3 q (tk_I S_72 11 k1_72)) H := hP
        have hD : va_D A (tk_M c3 q (tk_I S_72 11 k1_72)) := hD
        refine lv_iinc (v := (x2_72 + (1 : Int32))) (lv' := [(2, .int (x2_72 + (1 : Int32))), (0, .ref (q 17))]) hx hb dX7_call_75 hl (k := 1) rfl rfl (by decide) rfl (fun ls hl => ?_)
        refine lv_goto (tgt := 42) hx hb dX7_call_78 (by decide) ?_
        exact ih_42 (x2_72 + (1 : Int32)) (tk_I S_72 11 k1_72) H locs hP hD hS ls (lv_sub hl [1, 0] rfl) hf
      intro x2_42 S_42 H locs hP hD hS ls hl hf
      rw [f_X7_call_42_s] at hf
      refine lv_iload_n hx hb dX7_call_42 rfl (lv_at hl 1 rfl) ?_
      refine lv_iconst (v := 4) hx hb dX7_call_43 (by decide) ?_
      refine lv_icmp_ge (tgt := 81) hx hb dX7_call_44 (by decide) (fun h1 => ?_) (fun h1 => ?_)
      · have hf := tk_pos hf h1
        refine lv_aload_n hx hb dX7_call_81 rfl (lv_at hl 0 rfl) ?_
        refine lv_aload_n hx hb dX7_call_82 rfl (lv_at hl 0 rfl) ?_
        refine va_get (D := G) (ci := 7) (v := .int (S_42.1 11)) (C := RX7) (T := TX7) (N := 29) hx hb hts i_X7_call_X7 hown hE.1 hP 0 rfl rfl 14 (by decide) (hts _ m_X7_call_f40) (fun _ h9 => h9) rfl dX7_call_83 ?_
        refine lv_aload_n hx hb dX7_call_86 rfl (lv_at hl 0 rfl) ?_
        refine va_get (D := G) (ci := 7) (v := .int (S_42.1 8)) (C := RX7) (T := TX7) (N := 29) hx hb hts i_X7_call_X7 hown hE.1 hP 0 rfl rfl 11 (by decide) (hts _ m_X7_call_f31) (fun _ h9 => h9) rfl dX7_call_87 ?_
        refine lv_icmp_ne (tgt := 97) hx hb dX7_call_90 (by decide) (fun h2 => ?_) (fun h2 => ?_)
        · have hf := tk_neg hf h2
          refine lv_aload_n hx hb dX7_call_97 rfl (lv_at hl 0 rfl) ?_
          refine va_get (D := G) (ci := 7) (v := .int (S_42.1 11)) (C := RX7) (T := TX7) (N := 29) hx hb hts i_X7_call_X7 hown hE.1 hP 0 rfl rfl 14 (by decide) (hts _ m_X7_call_f40) (fun _ h9 => h9) rfl dX7_call_98 ?_
          exact J_101 (S_42.1 11) S_42 H locs hP hD hS ls (lv_sub hl [0] rfl) hf
        · have hf := tk_pos hf h2
          refine lv_iconst (v := -1) hx hb dX7_call_93 (by decide) ?_
          refine lv_goto (tgt := 101) hx hb dX7_call_94 (by decide) ?_
          exact J_101 (-1 : Int32) S_42 H locs hP hD hS ls (lv_sub hl [0] rfl) hf
      · have hf := tk_neg hf h1
        refine lv_aload_n hx hb dX7_call_47 rfl (lv_at hl 0 rfl) ?_
        refine lv_aload_n hx hb dX7_call_48 rfl (lv_at hl 0 rfl) ?_
        refine va_get (D := G) (ci := 7) (v := .ref (q 19)) (C := RX7) (T := TX7) (N := 29) hx hb hts i_X7_call_X7 hown hE.1 hP 0 rfl rfl 6 (by decide) (hts _ m_X7_call_f20) (fun _ h9 => h9) rfl dX7_call_49 ?_
        refine lv_iload_n hx hb dX7_call_52 rfl (lv_at hl 1 rfl) ?_
        obtain ⟨h3, hf⟩ := tk_ok hf
        refine va_lald (f := (S_42.2.2.2 0)) hx hb hE.1 hP 2 1 rfl rfl h3 dX7_call_53 ?_
        refine lv_aload_n hx hb dX7_call_54 rfl (lv_at hl 0 rfl) ?_
        obtain ⟨r4, h5, hf⟩ := tk_b1s hf
        refine tk_ci (ws' := (tk_M c3 q S_42)) (va_runV (As := []) (rest := [.long ((S_42.2.2.2 0) x2_42.toNatClampNeg), .ref (q 17)]) ⟨hx, hb, hml, hown, hts⟩ (c_X7_king l G c3 q S_42 r4 h5 H.size) (cwV 0 hts gX7_call_X7_king rfl rfl rfl hv_X7_king ⟨Nat.le_of_ble_eq_true rfl, Nat.le_of_ble_eq_true rfl⟩) (tk_pV hE hP hD 0 rfl rfl) rfl rfl hl.1 rfl (lv_room (Nat.le_of_ble_eq_true rfl)) dX7_call_55 ⟨Nat.zero_le _, Nat.zero_le _⟩) hD hS hA (fun H locs hP hD hS => ?_)
        obtain ⟨r7, h8, hf⟩ := tk_b1s hf
        refine tk_ci (ws' := (tk_M c3 q S_42)) (va_runS (As := [.long ((S_42.2.2.2 0) x2_42.toNatClampNeg), .int r4]) (rest := [.ref (q 17)]) ⟨hx, hb, hml, hown, hts⟩ (c_X7_has l G c3 (tk_M c3 q S_42) ((S_42.2.2.2 0) x2_42.toNatClampNeg) r4 r7 h8 H.size) (va_cwS 2 hts gX7_call_X7_has rfl rfl rfl hs_X7_has ⟨Nat.le_of_ble_eq_true rfl, Nat.le_of_ble_eq_true rfl⟩) (tk_pS hE hP hD) rfl rfl hl.1 rfl (lv_room (Nat.le_of_ble_eq_true rfl)) dX7_call_58 ⟨Nat.zero_le _, Nat.zero_le _⟩) hD hS hA (fun H locs hP hD hS => ?_)
        refine lv_if_eq (tgt := 68) hx hb dX7_call_61 (by decide) (fun h10 => ?_) (fun h10 => ?_)
        · have hf := tk_pos hf h10
          refine lv_aload_n hx hb dX7_call_68 rfl (lv_at hl 0 rfl) ?_
          refine va_get (D := G) (ci := 7) (v := .int (S_42.1 11)) (C := RX7) (T := TX7) (N := 29) hx hb hts i_X7_call_X7 hown hE.1 hP 0 rfl rfl 14 (by decide) (hts _ m_X7_call_f40) (fun _ h9 => h9) rfl dX7_call_69 ?_
          exact J_72 x2_42 (S_42.1 11) S_42 H locs hP hD hS ls (lv_sub hl [0, 1] rfl) hf
        · have hf := tk_neg hf h10
          refine lv_iload_n hx hb dX7_call_64 rfl (lv_at hl 1 rfl) ?_
          refine lv_goto (tgt := 72) hx hb dX7_call_65 (by decide) ?_
          exact J_72 x2_42 x2_42 S_42 H locs hP hD hS ls (lv_sub hl [0, 1] rfl) hf
  have J_27 : ∀ (x1_27 : Int32) (k1_27 : Int32) (S_27 : tk_ST) (H : Heap) (locs : List Loc) (_ : va_P G vwCl (tk_M c3 q S_27) H) (_ : va_D A (tk_M c3 q S_27)) (_ : va_S A s.heap H locs) (ls : Array Slot) (_ : lv_has ls 3 [(0, .ref (q 17)), (1, .int x1_27)]) (_ : f_X7_call_27 x1_27 k1_27 S_27 = some (r0, S0)), W p l e rm_X7_call s m ([.ref (q 17), .int p0] : List Value).toArray below meth c H locs 0 0 Q (F0 m 27 ls [.int k1_27, .ref (q 17)]) := by
    intro x1_27 k1_27 S_27 H locs hP hD hS ls hl hf
    unfold f_X7_call_27 at hf
    obtain ⟨r11, S13, h12, hf⟩ := tk_b2s hf
    refine tk_ci (ws' := (tk_M c3 q S13)) (va_runV (As := [.int k1_27]) (rest := []) ⟨hx, hb, hml, hown, hts⟩ (c_X7_isFine l G c3 q S_27 k1_27 r11 S13 h12 H.size) (cwV 1 hts gX7_call_X7_isFine rfl rfl rfl hv_X7_isFine ⟨Nat.le_of_ble_eq_true rfl, Nat.le_of_ble_eq_true rfl⟩) (tk_pV hE hP hD 0 rfl rfl) rfl rfl hl.1 rfl (lv_room (Nat.le_of_ble_eq_true rfl)) dX7_call_27 ⟨Nat.zero_le _, Nat.zero_le _⟩) hD hS hA (fun H locs hP hD hS => ?_)
    refine lv_if_ne (tgt := 35) hx hb dX7_call_30 (by decide) (fun h14 => ?_) (fun h14 => ?_)
    · have hf := tk_neg hf h14
      refine lv_aload_n hx hb dX7_call_35 rfl (lv_at hl 0 rfl) ?_
      refine lv_iload_n hx hb dX7_call_36 rfl (lv_at hl 1 rfl) ?_
      refine va_put (D := G) (ci := 7) (v := .int x1_27) (ty := .int) (C := RX7) (T := TX7) (N := 29) hx hb hts i_X7_call_X7 tyX7 tyX7_ok nmX7 hown hE.1 hP hD hS 0 rfl rfl 12 (by decide) (hts _ m_X7_call_f34) (fun _ h9 => h9) rfl (by decide +kernel) rfl rfl (Nat.le_of_ble_eq_true rfl) dX7_call_37 (fun H locs hP hD hS => ?_)
      have hP : va_P G vwCl (tk_M c3 q (tk_I S13 9 x1_27)) H := hP
      have hD : va_D A (tk_M c3 q (tk_I S13 9 x1_27)) := hD
      refine lv_iconst (v := 0) hx hb dX7_call_40 (by decide) ?_
      refine lv_istore_n (lv' := [(2, .int (0 : Int32)), (0, .ref (q 17)), (1, .int x1_27)]) hx hb dX7_call_41 rfl hl (by decide) rfl (fun ls hl => ?_)
      exact J_42 64 (0 : Int32) (tk_I S13 9 x1_27) H locs hP hD hS ls (lv_sub hl [1, 0] rfl) hf
    · have hf := tk_pos hf h14
      refine lv_iconst (v := 0) hx hb dX7_call_33 (by decide) ?_
      exact tk_ri hQ (tk_s2 hf).1 (congrArg (tk_M c3 q) (tk_s2 hf).2) hx hb hr hlocks hP hD hS dX7_call_34
  unfold f_X7_call at hf
  refine lv_aload_n hx hb dX7_call_0 rfl (lv_at hl 0 rfl) ?_
  refine lv_iload_n hx hb dX7_call_1 rfl (lv_at hl 1 rfl) ?_
  refine lv_iconst (v := 0) hx hb dX7_call_2 (by decide) ?_
  refine lv_iconst (v := 3) hx hb dX7_call_3 (by decide) ?_
  obtain ⟨r15, h16, hf⟩ := tk_b1s hf
  refine tk_ci (ws' := (tk_M c3 q S)) (va_runS (As := [.int p0, .int (0 : Int32), .int (3 : Int32)]) (rest := [.ref (q 17)]) ⟨hx, hb, hml, hown, hts⟩ (c_X7_isIn l G c3 (tk_M c3 q S) p0 (0 : Int32) (3 : Int32) r15 h16 H.size) (va_cwS 3 hts gX7_call_X7_isIn rfl rfl rfl hs_X7_isIn ⟨Nat.le_of_ble_eq_true rfl, Nat.le_of_ble_eq_true rfl⟩) (tk_pS hE hP hD) rfl rfl hl.1 rfl (lv_room (Nat.le_of_ble_eq_true rfl)) dX7_call_4 ⟨Nat.zero_le _, Nat.zero_le _⟩) hD hS hA (fun H locs hP hD hS => ?_)
  refine lv_if_ne (tgt := 14) hx hb dX7_call_7 (by decide) (fun h18 => ?_) (fun h18 => ?_)
  · have hf := tk_neg hf h18
    refine lv_aload_n hx hb dX7_call_14 rfl (lv_at hl 0 rfl) ?_
    refine va_get (D := G) (ci := 7) (v := .int (S.1 1)) (C := RX7) (T := TX7) (N := 29) hx hb hts i_X7_call_X7 hown hE.1 hP 0 rfl rfl 1 (by decide) (hts _ m_X7_call_f9) (fun _ h9 => h9) rfl dX7_call_15 ?_
    refine lv_iconst (v := 2) hx hb dX7_call_18 (by decide) ?_
    refine lv_icmp_eq (tgt := 26) hx hb dX7_call_19 (by decide) (fun h19 => ?_) (fun h19 => ?_)
    · have hf := tk_pos hf h19
      refine lv_iconst (v := 0) hx hb dX7_call_26 (by decide) ?_
      exact J_27 p0 (0 : Int32) S H locs hP hD hS ls (lv_sub hl [0, 1] rfl) hf
    · have hf := tk_neg hf h19
      refine lv_iconst (v := 2) hx hb dX7_call_22 (by decide) ?_
      refine lv_goto (tgt := 27) hx hb dX7_call_23 (by decide) ?_
      exact J_27 p0 (2 : Int32) S H locs hP hD hS ls (lv_sub hl [0, 1] rfl) hf
  · have hf := tk_pos hf h18
    refine lv_iconst (v := 1) hx hb dX7_call_10 (by decide) ?_
    refine lv_goto (tgt := 27) hx hb dX7_call_11 (by decide) ?_
    exact J_27 p0 (1 : Int32) S H locs hP hD hS ls (lv_sub hl [0, 1] rfl) hf
abbrev rm_X7_take : Room := { frames := 1, cells := 0, slots := 0, locals := 22 }
set_option maxHeartbeats 4000000 in
set_option maxRecDepth 100000 in
theorem c_X7_take (l : Launch) (G : va_G) (c3 : ClassId × ClassId × ClassId) (q : Nat → Nat) (S : tk_ST) (p0 : Int32) (r0 : Int32) (S0 : tk_ST) (hf : f_X7_take p0 S = some (r0, S0)) : tk_Mi l yX7_take wsX7_take rm_X7_take G c3 [.ref (q 17), .int p0] (tk_M c3 q S) (tk_M c3 q S0) r0 := by
  refine tk_ofi (cc := cX7_take) (maxL := 4) (ret := some .int) (by decide) rfl (Nat.le_of_ble_eq_true rfl) ?_
  intro p e s m below meth c A Q ls H locs hx hb hml hr hts hown hlocks hE hA hP hD hS hZ hQ hl
  have hl : lv_has ls 4 [(0, .ref (q 17)), (1, .int p0)] := hl
  have hown : s.vm.findClass RX7 = some m.cls := hown
  have J_69 : ∀ (n_69 : Nat), ∀ (x1_69 : Int32) (x2_69 : Int32) (x3_69 : Int32) (S_69 : tk_ST) (H : Heap) (locs : List Loc) (_ : va_P G vwCl (tk_M c3 q S_69) H) (_ : va_D A (tk_M c3 q S_69)) (_ : va_S A s.heap H locs) (ls : Array Slot) (_ : lv_has ls 4 [(0, .ref (q 17)), (1, .int x1_69), (2, .int x2_69), (3, .int x3_69)]) (_ : f_X7_take_69 n_69 x1_69 x2_69 x3_69 S_69 = some (r0, S0)), W p l e rm_X7_take s m ([.ref (q 17), .int p0] : List Value).toArray below meth c H locs 0 0 Q (F0 m 69 ls []) := by
    intro n_69
    induction n_69 with
    | zero =>
      intro x1_69 x2_69 x3_69 S_69 H locs hP hD hS ls hl hf
      exact absurd hf (by intro h9; cases h9)
    | succ n_69 ih_69 =>
      have J_122 : ∀ (x1_122 : Int32) (x2_122 : Int32) (x3_122 : Int32) (S_122 : tk_ST) (H : Heap) (locs : List Loc) (_ : va_P G vwCl (tk_M c3 q S_122) H) (_ : va_D A (tk_M c3 q S_122)) (_ : va_S A s.heap H locs) (ls : Array Slot) (_ : lv_has ls 4 [(0, .ref (q 17)), (1, .int x1_122), (2, .int x2_122), (3, .int x3_122)]) (_ : f_X7_take_122 (f_X7_take_69 n_69) x1_122 x2_122 x3_122 S_122 = some (r0, S0)), W p l e rm_X7_take s m ([.ref (q 17), .int p0] : List Value).toArray below meth c H locs 0 0 Q (F0 m 122 ls []) := by
        intro x1_122 x2_122 x3_122 S_122 H locs hP hD hS ls hl hf
        unfold f_X7_take_122 at hf
        refine lv_iinc (v := (x3_122 + (1 : Int32))) (lv' := [(3, .int (x3_122 + (1 : Int32))), (0, .ref (q 17)), (1, .int x1_122), (2, .int x2_122)]) hx hb dX7_take_122 hl (k := 3) rfl rfl (by decide) rfl (fun ls hl => ?_)
        refine lv_goto (tgt := 69) hx hb dX7_take_125 (by decide) ?_
        exact ih_69 x1_122 x2_122 (x3_122 + (1 : Int32)) S_122 H locs hP hD hS ls (lv_sub hl [1, 2, 3, 0] rfl) hf
      intro x1_69 x2_69 x3_69 S_69 H locs hP hD hS ls hl hf
      rw [f_X7_take_69_s] at hf
      refine lv_iload_n hx hb dX7_take_69 rfl (lv_at hl 3 rfl) ?_
      refine lv_bipush (v := 6) hx hb dX7_take_70 (by decide) ?_
      refine lv_icmp_ge (tgt := 128) hx hb dX7_take_72 (by decide) (fun h1 => ?_) (fun h1 => ?_)
      · have hf := tk_pos hf h1
        refine lv_aload_n hx hb dX7_take_128 rfl (lv_at hl 0 rfl) ?_
        refine lv_iload_n hx hb dX7_take_129 rfl (lv_at hl 2 rfl) ?_
        refine va_put (D := G) (ci := 7) (v := .int x2_69) (ty := .int) (C := RX7) (T := TX7) (N := 29) hx hb hts i_X7_take_X7 tyX7 tyX7_ok nmX7 hown hE.1 hP hD hS 0 rfl rfl 16 (by decide) (hts _ m_X7_take_f128) (fun _ h9 => h9) rfl (by decide +kernel) rfl rfl (Nat.le_of_ble_eq_true rfl) dX7_take_130 (fun H locs hP hD hS => ?_)
        have hP : va_P G vwCl (tk_M c3 q (tk_I S_69 13 x2_69)) H := hP
        have hD : va_D A (tk_M c3 q (tk_I S_69 13 x2_69)) := hD
        refine lv_aload_n hx hb dX7_take_133 rfl (lv_at hl 0 rfl) ?_
        refine lv_iconst (v := 4) hx hb dX7_take_134 (by decide) ?_
        refine va_put (D := G) (ci := 7) (v := .int (4 : Int32)) (ty := .int) (C := RX7) (T := TX7) (N := 29) hx hb hts i_X7_take_X7 tyX7 tyX7_ok nmX7 hown hE.1 hP hD hS 0 rfl rfl 1 (by decide) (hts _ m_X7_take_f9) (fun _ h9 => h9) rfl (by decide +kernel) rfl rfl (Nat.le_of_ble_eq_true rfl) dX7_take_135 (fun H locs hP hD hS => ?_)
        have hP : va_P G vwCl (tk_M c3 q (tk_I (tk_I S_69 13 x2_69) 1 (4 : Int32))) H := hP
        have hD : va_D A (tk_M c3 q (tk_I (tk_I S_69 13 x2_69) 1 (4 : Int32))) := hD
        refine lv_iload_n hx hb dX7_take_138 rfl (lv_at hl 2 rfl) ?_
        exact tk_ri hQ (tk_s2 hf).1 (congrArg (tk_M c3 q) (tk_s2 hf).2) hx hb hr hlocks hP hD hS dX7_take_139
      · have hf := tk_neg hf h1
        refine lv_iload_n hx hb dX7_take_75 rfl (lv_at hl 3 rfl) ?_
        refine lv_iload_n hx hb dX7_take_76 rfl (lv_at hl 2 rfl) ?_
        obtain ⟨h2, hf⟩ := tk_ok hf
        refine lv_idiv hx hb dX7_take_77 h2 ?_
        refine lv_iload_n hx hb dX7_take_78 rfl (lv_at hl 1 rfl) ?_
        refine lv_icmp_ne (tgt := 105) hx hb dX7_take_79 (by decide) (fun h3 => ?_) (fun h3 => ?_)
        · have hf := tk_neg hf h3
          refine lv_aload_n hx hb dX7_take_105 rfl (lv_at hl 0 rfl) ?_
          refine lv_dup hx hb dX7_take_106 rfl ?_
          refine va_get (D := G) (ci := 7) (v := .long (S_69.2.1 1)) (C := RX7) (T := TX7) (N := 29) hx hb hts i_X7_take_X7 hown hE.1 hP 0 rfl rfl 18 (by decide) (hts _ m_X7_take_f95) (fun _ h9 => h9) rfl dX7_take_107 ?_
          refine lv_aload_n hx hb dX7_take_110 rfl (lv_at hl 0 rfl) ?_
          refine lv_iload_n hx hb dX7_take_111 rfl (lv_at hl 3 rfl) ?_
          obtain ⟨r4, h5, hf⟩ := tk_b1s hf
          refine tk_ci (ws' := (tk_M c3 q S_69)) (va_runV (As := [.int x3_69]) (rest := [.long (S_69.2.1 1), .ref (q 17)]) ⟨hx, hb, hml, hown, hts⟩ (c_X7_talon l G c3 q S_69 x3_69 r4 h5 H.size) (cwV 1 hts gX7_take_X7_talon rfl rfl rfl hv_X7_talon ⟨Nat.le_of_ble_eq_true rfl, Nat.le_of_ble_eq_true rfl⟩) (tk_pV hE hP hD 0 rfl rfl) rfl rfl hl.1 rfl (lv_room (Nat.le_of_ble_eq_true rfl)) dX7_take_112 ⟨Nat.zero_le _, Nat.zero_le _⟩) hD hS hA (fun H locs hP hD hS => ?_)
          obtain ⟨r7, h8, hf⟩ := tk_b1s hf
          refine tk_cl (ws' := (tk_M c3 q S_69)) (va_runS (As := [.int r4]) (rest := [.long (S_69.2.1 1), .ref (q 17)]) ⟨hx, hb, hml, hown, hts⟩ (c_X7_bit l G c3 (tk_M c3 q S_69) r4 r7 h8 H.size) (va_cwS 1 hts gX7_take_X7_bit rfl rfl rfl hs_X7_bit ⟨Nat.le_of_ble_eq_true rfl, Nat.le_of_ble_eq_true rfl⟩) (tk_pS hE hP hD) rfl rfl hl.1 rfl (lv_room (Nat.le_of_ble_eq_true rfl)) dX7_take_115 ⟨Nat.zero_le _, Nat.zero_le _⟩) hD hS hA (fun H locs hP hD hS => ?_)
          refine lv_lor hx hb dX7_take_118 ?_
          refine va_put (D := G) (ci := 7) (v := .long ((S_69.2.1 1) ||| r7)) (ty := .long) (C := RX7) (T := TX7) (N := 29) hx hb hts i_X7_take_X7 tyX7 tyX7_ok nmX7 hown hE.1 hP hD hS 0 rfl rfl 18 (by decide) (hts _ m_X7_take_f95) (fun _ h9 => h9) rfl (by decide +kernel) rfl rfl (Nat.le_of_ble_eq_true rfl) dX7_take_119 (fun H locs hP hD hS => ?_)
          have hP : va_P G vwCl (tk_M c3 q (tk_L S_69 1 ((S_69.2.1 1) ||| r7))) H := hP
          have hD : va_D A (tk_M c3 q (tk_L S_69 1 ((S_69.2.1 1) ||| r7))) := hD
          exact J_122 x1_69 x2_69 x3_69 (tk_L S_69 1 ((S_69.2.1 1) ||| r7)) H locs hP hD hS ls (lv_sub hl [0, 1, 2, 3] rfl) hf
        · have hf := tk_pos hf h3
          refine lv_aload_n hx hb dX7_take_82 rfl (lv_at hl 0 rfl) ?_
          refine va_get (D := G) (ci := 7) (v := .ref (q 19)) (C := RX7) (T := TX7) (N := 29) hx hb hts i_X7_take_X7 hown hE.1 hP 0 rfl rfl 6 (by decide) (hts _ m_X7_take_f20) (fun _ h9 => h9) rfl dX7_take_83 ?_
          refine lv_aload_n hx hb dX7_take_86 rfl (lv_at hl 0 rfl) ?_
          refine va_get (D := G) (ci := 7) (v := .int (S_69.1 8)) (C := RX7) (T := TX7) (N := 29) hx hb hts i_X7_take_X7 hown hE.1 hP 0 rfl rfl 11 (by decide) (hts _ m_X7_take_f31) (fun _ h9 => h9) rfl dX7_take_87 ?_
          refine lv_dup2_11 hx hb dX7_take_90 rfl rfl ?_
          obtain ⟨h10, hf⟩ := tk_ok hf
          refine va_lald (f := (S_69.2.2.2 0)) hx hb hE.1 hP 2 1 rfl rfl h10 dX7_take_91 ?_
          refine lv_aload_n hx hb dX7_take_92 rfl (lv_at hl 0 rfl) ?_
          refine lv_iload_n hx hb dX7_take_93 rfl (lv_at hl 3 rfl) ?_
          obtain ⟨r11, h12, hf⟩ := tk_b1s hf
          refine tk_ci (ws' := (tk_M c3 q S_69)) (va_runV (As := [.int x3_69]) (rest := [.long ((S_69.2.2.2 0) (S_69.1 8).toNatClampNeg), .int (S_69.1 8), .ref (q 19)]) ⟨hx, hb, hml, hown, hts⟩ (c_X7_talon l G c3 q S_69 x3_69 r11 h12 H.size) (cwV 1 hts gX7_take_X7_talon rfl rfl rfl hv_X7_talon ⟨Nat.le_of_ble_eq_true rfl, Nat.le_of_ble_eq_true rfl⟩) (tk_pV hE hP hD 0 rfl rfl) rfl rfl hl.1 rfl (lv_room (Nat.le_of_ble_eq_true rfl)) dX7_take_94 ⟨Nat.zero_le _, Nat.zero_le _⟩) hD hS hA (fun H locs hP hD hS => ?_)
          obtain ⟨r14, h15, hf⟩ := tk_b1s hf
          refine tk_cl (ws' := (tk_M c3 q S_69)) (va_runS (As := [.int r11]) (rest := [.long ((S_69.2.2.2 0) (S_69.1 8).toNatClampNeg), .int (S_69.1 8), .ref (q 19)]) ⟨hx, hb, hml, hown, hts⟩ (c_X7_bit l G c3 (tk_M c3 q S_69) r11 r14 h15 H.size) (va_cwS 1 hts gX7_take_X7_bit rfl rfl rfl hs_X7_bit ⟨Nat.le_of_ble_eq_true rfl, Nat.le_of_ble_eq_true rfl⟩) (tk_pS hE hP hD) rfl rfl hl.1 rfl (lv_room (Nat.le_of_ble_eq_true rfl)) dX7_take_97 ⟨Nat.zero_le _, Nat.zero_le _⟩) hD hS hA (fun H locs hP hD hS => ?_)
          refine lv_lor hx hb dX7_take_100 ?_
          obtain ⟨h17, hf⟩ := tk_ok hf
          refine va_last (f := (S_69.2.2.2 0)) hx hb hE.1 hP hD hS 2 1 rfl rfl h17 dX7_take_101 (fun H locs hP hD hS => ?_)
          have hP : va_P G vwCl (tk_M c3 q (tk_B S_69 0 (vp_updL (S_69.2.2.2 0) (S_69.1 8).toNatClampNeg (((S_69.2.2.2 0) (S_69.1 8).toNatClampNeg) ||| r14)))) H := hP
          have hD : va_D A (tk_M c3 q (tk_B S_69 0 (vp_updL (S_69.2.2.2 0) (S_69.1 8).toNatClampNeg (((S_69.2.2.2 0) (S_69.1 8).toNatClampNeg) ||| r14)))) := hD
          obtain ⟨S18, eS18⟩ : ∃ z : tk_ST, z = (tk_B S_69 0 (vp_updL (S_69.2.2.2 0) (S_69.1 8).toNatClampNeg (((S_69.2.2.2 0) (S_69.1 8).toNatClampNeg) ||| r14))) := ⟨_, rfl⟩
          rw [← eS18] at hP hD
          have hf := tk_nm hf eS18
          refine lv_goto (tgt := 122) hx hb dX7_take_102 (by decide) ?_
          exact J_122 x1_69 x2_69 x3_69 S18 H locs hP hD hS ls (lv_sub hl [0, 1, 2, 3] rfl) hf
  have J_59 : ∀ (x1_59 : Int32) (x2_59 : Int32) (k1_59 : Int32) (S_59 : tk_ST) (H : Heap) (locs : List Loc) (_ : va_P G vwCl (tk_M c3 q S_59) H) (_ : va_D A (tk_M c3 q S_59)) (_ : va_S A s.heap H locs) (ls : Array Slot) (_ : lv_has ls 4 [(0, .ref (q 17)), (1, .int x1_59), (2, .int x2_59)]) (_ : f_X7_take_59 x1_59 x2_59 k1_59 S_59 = some (r0, S0)), W p l e rm_X7_take s m ([.ref (q 17), .int p0] : List Value).toArray below meth c H locs 0 0 Q (F0 m 59 ls [.int k1_59, .ref (q 17)]) := by
    intro x1_59 x2_59 k1_59 S_59 H locs hP hD hS ls hl hf
    unfold f_X7_take_59 at hf
    obtain ⟨r19, S21, h20, hf⟩ := tk_b2s hf
    refine tk_ci (ws' := (tk_M c3 q S21)) (va_runV (As := [.int k1_59]) (rest := []) ⟨hx, hb, hml, hown, hts⟩ (c_X7_isFine l G c3 q S_59 k1_59 r19 S21 h20 H.size) (cwV 1 hts gX7_take_X7_isFine rfl rfl rfl hv_X7_isFine ⟨Nat.le_of_ble_eq_true rfl, Nat.le_of_ble_eq_true rfl⟩) (tk_pV hE hP hD 0 rfl rfl) rfl rfl hl.1 rfl (lv_room (Nat.le_of_ble_eq_true rfl)) dX7_take_59 ⟨Nat.zero_le _, Nat.zero_le _⟩) hD hS hA (fun H locs hP hD hS => ?_)
    refine lv_if_ne (tgt := 67) hx hb dX7_take_62 (by decide) (fun h22 => ?_) (fun h22 => ?_)
    · have hf := tk_neg hf h22
      refine lv_iconst (v := 0) hx hb dX7_take_67 (by decide) ?_
      refine lv_istore_n (lv' := [(3, .int (0 : Int32)), (0, .ref (q 17)), (1, .int x1_59), (2, .int x2_59)]) hx hb dX7_take_68 rfl hl (by decide) rfl (fun ls hl => ?_)
      exact J_69 64 x1_59 x2_59 (0 : Int32) S21 H locs hP hD hS ls (lv_sub hl [1, 2, 3, 0] rfl) hf
    · have hf := tk_pos hf h22
      refine lv_iconst (v := 0) hx hb dX7_take_65 (by decide) ?_
      exact tk_ri hQ (tk_s2 hf).1 (congrArg (tk_M c3 q) (tk_s2 hf).2) hx hb hr hlocks hP hD hS dX7_take_66
  have J_26 : ∀ (x1_26 : Int32) (k0_26 : Int32) (S_26 : tk_ST) (H : Heap) (locs : List Loc) (_ : va_P G vwCl (tk_M c3 q S_26) H) (_ : va_D A (tk_M c3 q S_26)) (_ : va_S A s.heap H locs) (ls : Array Slot) (_ : lv_has ls 4 [(0, .ref (q 17)), (1, .int x1_26)]) (_ : f_X7_take_26 x1_26 k0_26 S_26 = some (r0, S0)), W p l e rm_X7_take s m ([.ref (q 17), .int p0] : List Value).toArray below meth c H locs 0 0 Q (F0 m 26 ls [.int k0_26]) := by
    intro x1_26 k0_26 S_26 H locs hP hD hS ls hl hf
    unfold f_X7_take_26 at hf
    refine lv_istore_n (lv' := [(2, .int k0_26), (0, .ref (q 17)), (1, .int x1_26)]) hx hb dX7_take_26 rfl hl (by decide) rfl (fun ls hl => ?_)
    refine lv_aload_n hx hb dX7_take_27 rfl (lv_at hl 1 rfl) ?_
    refine lv_iload_n hx hb dX7_take_28 rfl (lv_at hl 2 rfl) ?_
    refine lv_iconst (v := 0) hx hb dX7_take_29 (by decide) ?_
    refine lv_bipush (v := 6) hx hb dX7_take_30 (by decide) ?_
    refine lv_iload_n hx hb dX7_take_32 rfl (lv_at hl 0 rfl) ?_
    obtain ⟨h23, hf⟩ := tk_ok hf
    refine lv_idiv hx hb dX7_take_33 h23 ?_
    refine lv_iconst (v := 1) hx hb dX7_take_34 (by decide) ?_
    refine lv_isub hx hb dX7_take_35 ?_
    obtain ⟨r24, h25, hf⟩ := tk_b1s hf
    refine tk_ci (ws' := (tk_M c3 q S_26)) (va_runS (As := [.int x1_26, .int (0 : Int32), .int (((6 : Int32) / k0_26) - (1 : Int32))]) (rest := [.ref (q 17)]) ⟨hx, hb, hml, hown, hts⟩ (c_X7_isIn l G c3 (tk_M c3 q S_26) x1_26 (0 : Int32) (((6 : Int32) / k0_26) - (1 : Int32)) r24 h25 H.size) (va_cwS 3 hts gX7_take_X7_isIn rfl rfl rfl hs_X7_isIn ⟨Nat.le_of_ble_eq_true rfl, Nat.le_of_ble_eq_true rfl⟩) (tk_pS hE hP hD) rfl rfl hl.1 rfl (lv_room (Nat.le_of_ble_eq_true rfl)) dX7_take_36 ⟨Nat.zero_le _, Nat.zero_le _⟩) hD hS hA (fun H locs hP hD hS => ?_)
    refine lv_if_ne (tgt := 46) hx hb dX7_take_39 (by decide) (fun h27 => ?_) (fun h27 => ?_)
    · have hf := tk_neg hf h27
      refine lv_aload_n hx hb dX7_take_46 rfl (lv_at hl 1 rfl) ?_
      refine va_get (D := G) (ci := 7) (v := .int (S_26.1 1)) (C := RX7) (T := TX7) (N := 29) hx hb hts i_X7_take_X7 hown hE.1 hP 0 rfl rfl 1 (by decide) (hts _ m_X7_take_f9) (fun _ h9 => h9) rfl dX7_take_47 ?_
      refine lv_iconst (v := 3) hx hb dX7_take_50 (by decide) ?_
      refine lv_icmp_eq (tgt := 58) hx hb dX7_take_51 (by decide) (fun h28 => ?_) (fun h28 => ?_)
      · have hf := tk_pos hf h28
        refine lv_iconst (v := 0) hx hb dX7_take_58 (by decide) ?_
        exact J_59 x1_26 k0_26 (0 : Int32) S_26 H locs hP hD hS ls (lv_sub hl [1, 2, 0] rfl) hf
      · have hf := tk_neg hf h28
        refine lv_iconst (v := 2) hx hb dX7_take_54 (by decide) ?_
        refine lv_goto (tgt := 59) hx hb dX7_take_55 (by decide) ?_
        exact J_59 x1_26 k0_26 (2 : Int32) S_26 H locs hP hD hS ls (lv_sub hl [1, 2, 0] rfl) hf
    · have hf := tk_pos hf h27
      refine lv_iconst (v := 1) hx hb dX7_take_42 (by decide) ?_
      refine lv_goto (tgt := 59) hx hb dX7_take_43 (by decide) ?_
      exact J_59 x1_26 k0_26 (1 : Int32) S_26 H locs hP hD hS ls (lv_sub hl [1, 2, 0] rfl) hf
  have J_25 : ∀ (x1_25 : Int32) (S_25 : tk_ST) (H : Heap) (locs : List Loc) (_ : va_P G vwCl (tk_M c3 q S_25) H) (_ : va_D A (tk_M c3 q S_25)) (_ : va_S A s.heap H locs) (ls : Array Slot) (_ : lv_has ls 4 [(0, .ref (q 17)), (1, .int x1_25)]) (_ : f_X7_take_25 x1_25 S_25 = some (r0, S0)), W p l e rm_X7_take s m ([.ref (q 17), .int p0] : List Value).toArray below meth c H locs 0 0 Q (F0 m 25 ls []) := by
    intro x1_25 S_25 H locs hP hD hS ls hl hf
    unfold f_X7_take_25 at hf
    refine lv_iconst (v := 1) hx hb dX7_take_25 (by decide) ?_
    exact J_26 x1_25 (1 : Int32) S_25 H locs hP hD hS ls (lv_sub hl [0, 1] rfl) hf
  unfold f_X7_take at hf
  refine lv_aload_n hx hb dX7_take_0 rfl (lv_at hl 0 rfl) ?_
  refine va_get (D := G) (ci := 7) (v := .int (S.1 1)) (C := RX7) (T := TX7) (N := 29) hx hb hts i_X7_take_X7 hown hE.1 hP 0 rfl rfl 1 (by decide) (hts _ m_X7_take_f9) (fun _ h9 => h9) rfl dX7_take_1 ?_
  refine lv_iconst (v := 3) hx hb dX7_take_4 (by decide) ?_
  refine lv_icmp_ne (tgt := 25) hx hb dX7_take_5 (by decide) (fun h29 => ?_) (fun h29 => ?_)
  · have hf := tk_neg hf h29
    exact J_25 p0 S H locs hP hD hS ls (lv_sub hl [0, 1] rfl) hf
  · have hf := tk_pos hf h29
    refine lv_aload_n hx hb dX7_take_8 rfl (lv_at hl 0 rfl) ?_
    refine va_get (D := G) (ci := 7) (v := .int (S.1 6)) (C := RX7) (T := TX7) (N := 29) hx hb hts i_X7_take_X7 hown hE.1 hP 0 rfl rfl 9 (by decide) (hts _ m_X7_take_f84) (fun _ h9 => h9) rfl dX7_take_9 ?_
    refine lv_iconst (v := 3) hx hb dX7_take_12 (by decide) ?_
    refine lv_icmp_ge (tgt := 25) hx hb dX7_take_13 (by decide) (fun h30 => ?_) (fun h30 => ?_)
    · have hf := tk_pos hf h30
      exact J_25 p0 S H locs hP hD hS ls (lv_sub hl [0, 1] rfl) hf
    · have hf := tk_neg hf h30
      refine lv_iconst (v := 4) hx hb dX7_take_16 (by decide) ?_
      refine lv_aload_n hx hb dX7_take_17 rfl (lv_at hl 0 rfl) ?_
      refine va_get (D := G) (ci := 7) (v := .int (S.1 6)) (C := RX7) (T := TX7) (N := 29) hx hb hts i_X7_take_X7 hown hE.1 hP 0 rfl rfl 9 (by decide) (hts _ m_X7_take_f84) (fun _ h9 => h9) rfl dX7_take_18 ?_
      refine lv_isub hx hb dX7_take_21 ?_
      refine lv_goto (tgt := 26) hx hb dX7_take_22 (by decide) ?_
      exact J_26 p0 ((4 : Int32) - (S.1 6)) S H locs hP hD hS ls (lv_sub hl [0, 1] rfl) hf
abbrev rm_X7_discard : Room := { frames := 2, cells := 0, slots := 0, locals := 42 }
set_option maxHeartbeats 4000000 in
set_option maxRecDepth 100000 in
theorem c_X7_discard (l : Launch) (G : va_G) (c3 : ClassId × ClassId × ClassId) (q : Nat → Nat) (S : tk_ST) (p0 : Int32) (r0 : Int32) (S0 : tk_ST) (hf : f_X7_discard p0 S = some (r0, S0)) : tk_Mi l yX7_discard wsX7_discard rm_X7_discard G c3 [.ref (q 17), .int p0] (tk_M c3 q S) (tk_M c3 q S0) r0 := by
  refine tk_ofi (cc := cX7_discard) (maxL := 3) (ret := some .int) (by decide) rfl (Nat.le_of_ble_eq_true rfl) ?_
  intro p e s m below meth c A Q ls H locs hx hb hml hr hts hown hlocks hE hA hP hD hS hZ hQ hl
  have hl : lv_has ls 3 [(0, .ref (q 17)), (1, .int p0)] := hl
  have hown : s.vm.findClass RX7 = some m.cls := hown
  have J_66 : ∀ (x1_66 : Int32) (k1_66 : Int32) (S_66 : tk_ST) (H : Heap) (locs : List Loc) (_ : va_P G vwCl (tk_M c3 q S_66) H) (_ : va_D A (tk_M c3 q S_66)) (_ : va_S A s.heap H locs) (ls : Array Slot) (_ : lv_has ls 3 [(0, .ref (q 17)), (1, .int x1_66)]) (_ : f_X7_discard_66 x1_66 k1_66 S_66 = some (r0, S0)), W p l e rm_X7_discard s m ([.ref (q 17), .int p0] : List Value).toArray below meth c H locs 0 0 Q (F0 m 66 ls [.int k1_66, .ref (q 17)]) := by
    intro x1_66 k1_66 S_66 H locs hP hD hS ls hl hf
    unfold f_X7_discard_66 at hf
    obtain ⟨r1, S3, h2, hf⟩ := tk_b2s hf
    refine tk_ci (ws' := (tk_M c3 q S3)) (va_runV (As := [.int k1_66]) (rest := []) ⟨hx, hb, hml, hown, hts⟩ (c_X7_isFine l G c3 q S_66 k1_66 r1 S3 h2 H.size) (cwV 1 hts gX7_discard_X7_isFine rfl rfl rfl hv_X7_isFine ⟨Nat.le_of_ble_eq_true rfl, Nat.le_of_ble_eq_true rfl⟩) (tk_pV hE hP hD 0 rfl rfl) rfl rfl hl.1 rfl (lv_room (Nat.le_of_ble_eq_true rfl)) dX7_discard_66 ⟨Nat.zero_le _, Nat.zero_le _⟩) hD hS hA (fun H locs hP hD hS => ?_)
    refine lv_if_ne (tgt := 74) hx hb dX7_discard_69 (by decide) (fun h4 => ?_) (fun h4 => ?_)
    · have hf := tk_neg hf h4
      refine lv_aload_n hx hb dX7_discard_74 rfl (lv_at hl 0 rfl) ?_
      refine va_get (D := G) (ci := 7) (v := .ref (q 19)) (C := RX7) (T := TX7) (N := 29) hx hb hts i_X7_discard_X7 hown hE.1 hP 0 rfl rfl 6 (by decide) (hts _ m_X7_discard_f20) (fun _ h9 => h9) rfl dX7_discard_75 ?_
      refine lv_aload_n hx hb dX7_discard_78 rfl (lv_at hl 0 rfl) ?_
      refine va_get (D := G) (ci := 7) (v := .int (S3.1 8)) (C := RX7) (T := TX7) (N := 29) hx hb hts i_X7_discard_X7 hown hE.1 hP 0 rfl rfl 11 (by decide) (hts _ m_X7_discard_f31) (fun _ h9 => h9) rfl dX7_discard_79 ?_
      refine lv_dup2_11 hx hb dX7_discard_82 rfl rfl ?_
      obtain ⟨h5, hf⟩ := tk_ok hf
      refine va_lald (f := (S3.2.2.2 0)) hx hb hE.1 hP 2 1 rfl rfl h5 dX7_discard_83 ?_
      refine lv_iload_n hx hb dX7_discard_84 rfl (lv_at hl 1 rfl) ?_
      obtain ⟨r6, h7, hf⟩ := tk_b1s hf
      refine tk_cl (ws' := (tk_M c3 q S3)) (va_runS (As := [.int x1_66]) (rest := [.long ((S3.2.2.2 0) (S3.1 8).toNatClampNeg), .int (S3.1 8), .ref (q 19)]) ⟨hx, hb, hml, hown, hts⟩ (c_X7_bit l G c3 (tk_M c3 q S3) x1_66 r6 h7 H.size) (va_cwS 1 hts gX7_discard_X7_bit rfl rfl rfl hs_X7_bit ⟨Nat.le_of_ble_eq_true rfl, Nat.le_of_ble_eq_true rfl⟩) (tk_pS hE hP hD) rfl rfl hl.1 rfl (lv_room (Nat.le_of_ble_eq_true rfl)) dX7_discard_85 ⟨Nat.zero_le _, Nat.zero_le _⟩) hD hS hA (fun H locs hP hD hS => ?_)
      refine lv_lsub hx hb dX7_discard_88 ?_
      obtain ⟨h9, hf⟩ := tk_ok hf
      refine va_last (f := (S3.2.2.2 0)) hx hb hE.1 hP hD hS 2 1 rfl rfl h9 dX7_discard_89 (fun H locs hP hD hS => ?_)
      have hP : va_P G vwCl (tk_M c3 q (tk_B S3 0 (vp_updL (S3.2.2.2 0) (S3.1 8).toNatClampNeg (((S3.2.2.2 0) (S3.1 8).toNatClampNeg) - r6)))) H := hP
      have hD : va_D A (tk_M c3 q (tk_B S3 0 (vp_updL (S3.2.2.2 0) (S3.1 8).toNatClampNeg (((S3.2.2.2 0) (S3.1 8).toNatClampNeg) - r6)))) := hD
      obtain ⟨S10, eS10⟩ : ∃ z : tk_ST, z = (tk_B S3 0 (vp_updL (S3.2.2.2 0) (S3.1 8).toNatClampNeg (((S3.2.2.2 0) (S3.1 8).toNatClampNeg) - r6))) := ⟨_, rfl⟩
      rw [← eS10] at hP hD
      have hf := tk_nm hf eS10
      refine lv_aload_n hx hb dX7_discard_90 rfl (lv_at hl 0 rfl) ?_
      refine lv_dup hx hb dX7_discard_91 rfl ?_
      refine va_get (D := G) (ci := 7) (v := .long (S10.2.1 0)) (C := RX7) (T := TX7) (N := 29) hx hb hts i_X7_discard_X7 hown hE.1 hP 0 rfl rfl 17 (by decide) (hts _ m_X7_discard_f91) (fun _ h9 => h9) rfl dX7_discard_92 ?_
      refine lv_iload_n hx hb dX7_discard_95 rfl (lv_at hl 1 rfl) ?_
      obtain ⟨r11, h12, hf⟩ := tk_b1s hf
      refine tk_cl (ws' := (tk_M c3 q S10)) (va_runS (As := [.int x1_66]) (rest := [.long (S10.2.1 0), .ref (q 17)]) ⟨hx, hb, hml, hown, hts⟩ (c_X7_bit l G c3 (tk_M c3 q S10) x1_66 r11 h12 H.size) (va_cwS 1 hts gX7_discard_X7_bit rfl rfl rfl hs_X7_bit ⟨Nat.le_of_ble_eq_true rfl, Nat.le_of_ble_eq_true rfl⟩) (tk_pS hE hP hD) rfl rfl hl.1 rfl (lv_room (Nat.le_of_ble_eq_true rfl)) dX7_discard_96 ⟨Nat.zero_le _, Nat.zero_le _⟩) hD hS hA (fun H locs hP hD hS => ?_)
      refine lv_lor hx hb dX7_discard_99 ?_
      refine va_put (D := G) (ci := 7) (v := .long ((S10.2.1 0) ||| r11)) (ty := .long) (C := RX7) (T := TX7) (N := 29) hx hb hts i_X7_discard_X7 tyX7 tyX7_ok nmX7 hown hE.1 hP hD hS 0 rfl rfl 17 (by decide) (hts _ m_X7_discard_f91) (fun _ h9 => h9) rfl (by decide +kernel) rfl rfl (Nat.le_of_ble_eq_true rfl) dX7_discard_100 (fun H locs hP hD hS => ?_)
      have hP : va_P G vwCl (tk_M c3 q (tk_L S10 0 ((S10.2.1 0) ||| r11))) H := hP
      have hD : va_D A (tk_M c3 q (tk_L S10 0 ((S10.2.1 0) ||| r11))) := hD
      refine lv_aload_n hx hb dX7_discard_103 rfl (lv_at hl 0 rfl) ?_
      refine lv_dup hx hb dX7_discard_104 rfl ?_
      refine va_get (D := G) (ci := 7) (v := .int (S10.1 13)) (C := RX7) (T := TX7) (N := 29) hx hb hts i_X7_discard_X7 hown hE.1 hP 0 rfl rfl 16 (by decide) (hts _ m_X7_discard_f128) (fun _ h9 => h9) rfl dX7_discard_105 ?_
      refine lv_iconst (v := 1) hx hb dX7_discard_108 (by decide) ?_
      refine lv_isub hx hb dX7_discard_109 ?_
      refine va_put (D := G) (ci := 7) (v := .int ((S10.1 13) - (1 : Int32))) (ty := .int) (C := RX7) (T := TX7) (N := 29) hx hb hts i_X7_discard_X7 tyX7 tyX7_ok nmX7 hown hE.1 hP hD hS 0 rfl rfl 16 (by decide) (hts _ m_X7_discard_f128) (fun _ h9 => h9) rfl (by decide +kernel) rfl rfl (Nat.le_of_ble_eq_true rfl) dX7_discard_110 (fun H locs hP hD hS => ?_)
      have hP : va_P G vwCl (tk_M c3 q (tk_I (tk_L S10 0 ((S10.2.1 0) ||| r11)) 13 ((S10.1 13) - (1 : Int32)))) H := hP
      have hD : va_D A (tk_M c3 q (tk_I (tk_L S10 0 ((S10.2.1 0) ||| r11)) 13 ((S10.1 13) - (1 : Int32)))) := hD
      refine lv_aload_n hx hb dX7_discard_113 rfl (lv_at hl 0 rfl) ?_
      refine va_get (D := G) (ci := 7) (v := .int ((S10.1 13) - (1 : Int32))) (C := RX7) (T := TX7) (N := 29) hx hb hts i_X7_discard_X7 hown hE.1 hP 0 rfl rfl 16 (by decide) (hts _ m_X7_discard_f128) (fun _ h9 => h9) rfl dX7_discard_114 ?_
      refine lv_if_ne (tgt := 124) hx hb dX7_discard_117 (by decide) (fun h14 => ?_) (fun h14 => ?_)
      · have hf := tk_neg hf h14
        refine lv_aload_n hx hb dX7_discard_124 rfl (lv_at hl 0 rfl) ?_
        refine va_get (D := G) (ci := 7) (v := .int ((S10.1 13) - (1 : Int32))) (C := RX7) (T := TX7) (N := 29) hx hb hts i_X7_discard_X7 hown hE.1 hP 0 rfl rfl 16 (by decide) (hts _ m_X7_discard_f128) (fun _ h9 => h9) rfl dX7_discard_125 ?_
        exact tk_ri hQ (tk_s2 hf).1 (congrArg (tk_M c3 q) (tk_s2 hf).2) hx hb hr hlocks hP hD hS dX7_discard_128
      · have hf := tk_pos hf h14
        refine lv_aload_n hx hb dX7_discard_120 rfl (lv_at hl 0 rfl) ?_
        obtain ⟨S17, h16, hf⟩ := tk_b1s hf
        refine tk_cv (ws' := (tk_M c3 q S17)) (va_runV (As := []) (rest := []) ⟨hx, hb, hml, hown, hts⟩ (c_X7_begins l G c3 q (tk_I (tk_L S10 0 ((S10.2.1 0) ||| r11)) 13 ((S10.1 13) - (1 : Int32))) S17 h16 H.size) (cwV 0 hts gX7_discard_X7_begins rfl rfl rfl hv_X7_begins ⟨Nat.le_of_ble_eq_true rfl, Nat.le_of_ble_eq_true rfl⟩) (tk_pV hE hP hD 0 rfl rfl) rfl rfl hl.1 rfl (lv_room (Nat.le_of_ble_eq_true rfl)) dX7_discard_121 ⟨Nat.zero_le _, Nat.zero_le _⟩) hD hS hA (fun H locs hP hD hS => ?_)
        refine lv_aload_n hx hb dX7_discard_124 rfl (lv_at hl 0 rfl) ?_
        refine va_get (D := G) (ci := 7) (v := .int (S17.1 13)) (C := RX7) (T := TX7) (N := 29) hx hb hts i_X7_discard_X7 hown hE.1 hP 0 rfl rfl 16 (by decide) (hts _ m_X7_discard_f128) (fun _ h9 => h9) rfl dX7_discard_125 ?_
        exact tk_ri hQ (tk_s2 hf).1 (congrArg (tk_M c3 q) (tk_s2 hf).2) hx hb hr hlocks hP hD hS dX7_discard_128
    · have hf := tk_pos hf h4
      refine lv_iconst (v := 0) hx hb dX7_discard_72 (by decide) ?_
      exact tk_ri hQ (tk_s2 hf).1 (congrArg (tk_M c3 q) (tk_s2 hf).2) hx hb hr hlocks hP hD hS dX7_discard_73
  have J_44 : ∀ (x1_44 : Int32) (k0_44 : Int32) (S_44 : tk_ST) (H : Heap) (locs : List Loc) (_ : va_P G vwCl (tk_M c3 q S_44) H) (_ : va_D A (tk_M c3 q S_44)) (_ : va_S A s.heap H locs) (ls : Array Slot) (_ : lv_has ls 3 [(0, .ref (q 17)), (1, .int x1_44)]) (_ : f_X7_discard_44 x1_44 k0_44 S_44 = some (r0, S0)), W p l e rm_X7_discard s m ([.ref (q 17), .int p0] : List Value).toArray below meth c H locs 0 0 Q (F0 m 44 ls [.int k0_44]) := by
    intro x1_44 k0_44 S_44 H locs hP hD hS ls hl hf
    unfold f_X7_discard_44 at hf
    refine lv_istore_n (lv' := [(2, .int k0_44), (0, .ref (q 17)), (1, .int x1_44)]) hx hb dX7_discard_44 rfl hl (by decide) rfl (fun ls hl => ?_)
    refine lv_aload_n hx hb dX7_discard_45 rfl (lv_at hl 1 rfl) ?_
    refine lv_iload_n hx hb dX7_discard_46 rfl (lv_at hl 2 rfl) ?_
    obtain ⟨r18, h19, hf⟩ := tk_b1s hf
    refine tk_ci (ws' := (tk_M c3 q S_44)) (va_runS (As := [.int x1_44]) (rest := [.ref (q 17)]) ⟨hx, hb, hml, hown, hts⟩ (c_X7_isCard l G c3 (tk_M c3 q S_44) x1_44 r18 h19 H.size) (va_cwS 1 hts gX7_discard_X7_isCard rfl rfl rfl hs_X7_isCard ⟨Nat.le_of_ble_eq_true rfl, Nat.le_of_ble_eq_true rfl⟩) (tk_pS hE hP hD) rfl rfl hl.1 rfl (lv_room (Nat.le_of_ble_eq_true rfl)) dX7_discard_47 ⟨Nat.zero_le _, Nat.zero_le _⟩) hD hS hA (fun H locs hP hD hS => ?_)
    refine lv_if_ne (tgt := 57) hx hb dX7_discard_50 (by decide) (fun h21 => ?_) (fun h21 => ?_)
    · have hf := tk_neg hf h21
      refine lv_iload_n hx hb dX7_discard_57 rfl (lv_at hl 0 rfl) ?_
      refine lv_if_ne (tgt := 65) hx hb dX7_discard_58 (by decide) (fun h22 => ?_) (fun h22 => ?_)
      · have hf := tk_neg hf h22
        refine lv_iconst (v := 0) hx hb dX7_discard_65 (by decide) ?_
        exact J_66 x1_44 (0 : Int32) S_44 H locs hP hD hS ls (lv_sub hl [1, 2] rfl) hf
      · have hf := tk_pos hf h22
        refine lv_iconst (v := 2) hx hb dX7_discard_61 (by decide) ?_
        refine lv_goto (tgt := 66) hx hb dX7_discard_62 (by decide) ?_
        exact J_66 x1_44 (2 : Int32) S_44 H locs hP hD hS ls (lv_sub hl [1, 2] rfl) hf
    · have hf := tk_pos hf h21
      refine lv_iconst (v := 1) hx hb dX7_discard_53 (by decide) ?_
      refine lv_goto (tgt := 66) hx hb dX7_discard_54 (by decide) ?_
      exact J_66 x1_44 (1 : Int32) S_44 H locs hP hD hS ls (lv_sub hl [1, 2] rfl) hf
  have J_43 : ∀ (x1_43 : Int32) (S_43 : tk_ST) (H : Heap) (locs : List Loc) (_ : va_P G vwCl (tk_M c3 q S_43) H) (_ : va_D A (tk_M c3 q S_43)) (_ : va_S A s.heap H locs) (ls : Array Slot) (_ : lv_has ls 3 [(0, .ref (q 17)), (1, .int x1_43)]) (_ : f_X7_discard_43 x1_43 S_43 = some (r0, S0)), W p l e rm_X7_discard s m ([.ref (q 17), .int p0] : List Value).toArray below meth c H locs 0 0 Q (F0 m 43 ls []) := by
    intro x1_43 S_43 H locs hP hD hS ls hl hf
    unfold f_X7_discard_43 at hf
    refine lv_iconst (v := 0) hx hb dX7_discard_43 (by decide) ?_
    exact J_44 x1_43 (0 : Int32) S_43 H locs hP hD hS ls (lv_sub hl [0, 1] rfl) hf
  unfold f_X7_discard at hf
  refine lv_iload_n hx hb dX7_discard_0 rfl (lv_at hl 1 rfl) ?_
  obtain ⟨r23, h24, hf⟩ := tk_b1s hf
  refine tk_ci (ws' := (tk_M c3 q S)) (va_runS (As := [.int p0]) (rest := []) ⟨hx, hb, hml, hown, hts⟩ (c_X7_isCard l G c3 (tk_M c3 q S) p0 r23 h24 H.size) (va_cwS 1 hts gX7_discard_X7_isCard rfl rfl rfl hs_X7_isCard ⟨Nat.le_of_ble_eq_true rfl, Nat.le_of_ble_eq_true rfl⟩) (tk_pS hE hP hD) rfl rfl hl.1 rfl (lv_room (Nat.le_of_ble_eq_true rfl)) dX7_discard_1 ⟨Nat.zero_le _, Nat.zero_le _⟩) hD hS hA (fun H locs hP hD hS => ?_)
  refine lv_if_eq (tgt := 43) hx hb dX7_discard_4 (by decide) (fun h26 => ?_) (fun h26 => ?_)
  · have hf := tk_pos hf h26
    exact J_43 p0 S H locs hP hD hS ls (lv_sub hl [0, 1] rfl) hf
  · have hf := tk_neg hf h26
    refine lv_aload_n hx hb dX7_discard_7 rfl (lv_at hl 0 rfl) ?_
    refine va_get (D := G) (ci := 7) (v := .int (S.1 1)) (C := RX7) (T := TX7) (N := 29) hx hb hts i_X7_discard_X7 hown hE.1 hP 0 rfl rfl 1 (by decide) (hts _ m_X7_discard_f9) (fun _ h9 => h9) rfl dX7_discard_8 ?_
    refine lv_iconst (v := 4) hx hb dX7_discard_11 (by decide) ?_
    refine lv_icmp_ne (tgt := 43) hx hb dX7_discard_12 (by decide) (fun h27 => ?_) (fun h27 => ?_)
    · have hf := tk_neg hf h27
      exact J_43 p0 S H locs hP hD hS ls (lv_sub hl [0, 1] rfl) hf
    · have hf := tk_pos hf h27
      refine lv_aload_n hx hb dX7_discard_15 rfl (lv_at hl 0 rfl) ?_
      refine va_get (D := G) (ci := 7) (v := .ref (q 19)) (C := RX7) (T := TX7) (N := 29) hx hb hts i_X7_discard_X7 hown hE.1 hP 0 rfl rfl 6 (by decide) (hts _ m_X7_discard_f20) (fun _ h9 => h9) rfl dX7_discard_16 ?_
      refine lv_aload_n hx hb dX7_discard_19 rfl (lv_at hl 0 rfl) ?_
      refine va_get (D := G) (ci := 7) (v := .int (S.1 8)) (C := RX7) (T := TX7) (N := 29) hx hb hts i_X7_discard_X7 hown hE.1 hP 0 rfl rfl 11 (by decide) (hts _ m_X7_discard_f31) (fun _ h9 => h9) rfl dX7_discard_20 ?_
      obtain ⟨h28, hf⟩ := tk_ok hf
      refine va_lald (f := (S.2.2.2 0)) hx hb hE.1 hP 2 1 rfl rfl h28 dX7_discard_23 ?_
      refine lv_iload_n hx hb dX7_discard_24 rfl (lv_at hl 1 rfl) ?_
      obtain ⟨r29, h30, hf⟩ := tk_b1s hf
      refine tk_ci (ws' := (tk_M c3 q S)) (va_runS (As := [.long ((S.2.2.2 0) (S.1 8).toNatClampNeg), .int p0]) (rest := []) ⟨hx, hb, hml, hown, hts⟩ (c_X7_has l G c3 (tk_M c3 q S) ((S.2.2.2 0) (S.1 8).toNatClampNeg) p0 r29 h30 H.size) (va_cwS 2 hts gX7_discard_X7_has rfl rfl rfl hs_X7_has ⟨Nat.le_of_ble_eq_true rfl, Nat.le_of_ble_eq_true rfl⟩) (tk_pS hE hP hD) rfl rfl hl.1 rfl (lv_room (Nat.le_of_ble_eq_true rfl)) dX7_discard_25 ⟨Nat.zero_le _, Nat.zero_le _⟩) hD hS hA (fun H locs hP hD hS => ?_)
      refine lv_if_eq (tgt := 43) hx hb dX7_discard_28 (by decide) (fun h32 => ?_) (fun h32 => ?_)
      · have hf := tk_pos hf h32
        exact J_43 p0 S H locs hP hD hS ls (lv_sub hl [0, 1] rfl) hf
      · have hf := tk_neg hf h32
        refine lv_iload_n hx hb dX7_discard_31 rfl (lv_at hl 1 rfl) ?_
        obtain ⟨r33, h34, hf⟩ := tk_b1s hf
        refine tk_ci (ws' := (tk_M c3 q S)) (va_runS (As := [.int p0]) (rest := []) ⟨hx, hb, hml, hown, hts⟩ (c_X7_worth l G c3 (tk_M c3 q S) p0 r33 h34 H.size) (va_cwS 1 hts gX7_discard_X7_worth rfl rfl rfl hs_X7_worth ⟨Nat.le_of_ble_eq_true rfl, Nat.le_of_ble_eq_true rfl⟩) (tk_pS hE hP hD) rfl rfl hl.1 rfl (lv_room (Nat.le_of_ble_eq_true rfl)) dX7_discard_32 ⟨Nat.zero_le _, Nat.zero_le _⟩) hD hS hA (fun H locs hP hD hS => ?_)
        refine lv_iconst (v := 5) hx hb dX7_discard_35 (by decide) ?_
        refine lv_icmp_ge (tgt := 43) hx hb dX7_discard_36 (by decide) (fun h36 => ?_) (fun h36 => ?_)
        · have hf := tk_pos hf h36
          exact J_43 p0 S H locs hP hD hS ls (lv_sub hl [0, 1] rfl) hf
        · have hf := tk_neg hf h36
          refine lv_iconst (v := 1) hx hb dX7_discard_39 (by decide) ?_
          refine lv_goto (tgt := 44) hx hb dX7_discard_40 (by decide) ?_
          exact J_44 p0 (1 : Int32) S H locs hP hD hS ls (lv_sub hl [0, 1] rfl) hf
abbrev rm_X7_announce : Room := { frames := 1, cells := 0, slots := 0, locals := 22 }
set_option maxHeartbeats 4000000 in
set_option maxRecDepth 100000 in
theorem c_X7_announce (l : Launch) (G : va_G) (c3 : ClassId × ClassId × ClassId) (q : Nat → Nat) (S : tk_ST) (p0 : Int32) (r0 : Int32) (S0 : tk_ST) (hf : f_X7_announce p0 S = some (r0, S0)) : tk_Mi l yX7_announce wsX7_announce rm_X7_announce G c3 [.ref (q 17), .int p0] (tk_M c3 q S) (tk_M c3 q S0) r0 := by
  refine tk_ofi (cc := cX7_announce) (maxL := 4) (ret := some .int) (by decide) rfl (Nat.le_of_ble_eq_true rfl) ?_
  intro p e s m below meth c A Q ls H locs hx hb hml hr hts hown hlocks hE hA hP hD hS hZ hQ hl
  have hl : lv_has ls 4 [(0, .ref (q 17)), (1, .int p0)] := hl
  have hown : s.vm.findClass RX7 = some m.cls := hown
  have J_107 : ∀ (k0_107 : Int32) (S_107 : tk_ST) (H : Heap) (locs : List Loc) (_ : va_P G vwCl (tk_M c3 q S_107) H) (_ : va_D A (tk_M c3 q S_107)) (_ : va_S A s.heap H locs) (ls : Array Slot) (_ : lv_has ls 4 [(0, .ref (q 17))]) (_ : f_X7_announce_107 k0_107 S_107 = some (r0, S0)), W p l e rm_X7_announce s m ([.ref (q 17), .int p0] : List Value).toArray below meth c H locs 0 0 Q (F0 m 107 ls [.int k0_107]) := by
    intro k0_107 S_107 H locs hP hD hS ls hl hf
    unfold f_X7_announce_107 at hf
    refine lv_aload_n hx hb dX7_announce_107 rfl (lv_at hl 0 rfl) ?_
    refine va_get (D := G) (ci := 7) (v := .ref (q 21)) (C := RX7) (T := TX7) (N := 29) hx hb hts i_X7_announce_X7 hown hE.1 hP 0 rfl rfl 20 (by decide) (hts _ m_X7_announce_f43) (fun _ h9 => h9) rfl dX7_announce_108 ?_
    refine lv_iconst (v := 1) hx hb dX7_announce_111 (by decide) ?_
    obtain ⟨h1, hf⟩ := tk_ok hf
    refine va_zald (f := (S_107.2.2.1 2)) hx hb hE.1 hP 4 2 rfl rfl h1 dX7_announce_112 ?_
    refine lv_if_eq (tgt := 120) hx hb dX7_announce_113 (by decide) (fun h2 => ?_) (fun h2 => ?_)
    · have hf := tk_pos hf h2
      refine lv_iconst (v := 0) hx hb dX7_announce_120 (by decide) ?_
      refine lv_iadd hx hb dX7_announce_121 ?_
      exact tk_ri hQ (tk_s2 hf).1 (congrArg (tk_M c3 q) (tk_s2 hf).2) hx hb hr hlocks hP hD hS dX7_announce_122
    · have hf := tk_neg hf h2
      refine lv_iconst (v := 1) hx hb dX7_announce_116 (by decide) ?_
      refine lv_goto (tgt := 121) hx hb dX7_announce_117 (by decide) ?_
      refine lv_iadd hx hb dX7_announce_121 ?_
      exact tk_ri hQ (tk_s2 hf).1 (congrArg (tk_M c3 q) (tk_s2 hf).2) hx hb hr hlocks hP hD hS dX7_announce_122
  have J_78 : ∀ (x1_78 : Int32) (k1_78 : Int32) (S_78 : tk_ST) (H : Heap) (locs : List Loc) (_ : va_P G vwCl (tk_M c3 q S_78) H) (_ : va_D A (tk_M c3 q S_78)) (_ : va_S A s.heap H locs) (ls : Array Slot) (_ : lv_has ls 4 [(0, .ref (q 17)), (1, .int x1_78)]) (_ : f_X7_announce_78 x1_78 k1_78 S_78 = some (r0, S0)), W p l e rm_X7_announce s m ([.ref (q 17), .int p0] : List Value).toArray below meth c H locs 0 0 Q (F0 m 78 ls [.int k1_78, .ref (q 17)]) := by
    intro x1_78 k1_78 S_78 H locs hP hD hS ls hl hf
    unfold f_X7_announce_78 at hf
    obtain ⟨r3, S5, h4, hf⟩ := tk_b2s hf
    refine tk_ci (ws' := (tk_M c3 q S5)) (va_runV (As := [.int k1_78]) (rest := []) ⟨hx, hb, hml, hown, hts⟩ (c_X7_isFine l G c3 q S_78 k1_78 r3 S5 h4 H.size) (cwV 1 hts gX7_announce_X7_isFine rfl rfl rfl hv_X7_isFine ⟨Nat.le_of_ble_eq_true rfl, Nat.le_of_ble_eq_true rfl⟩) (tk_pV hE hP hD 0 rfl rfl) rfl rfl hl.1 rfl (lv_room (Nat.le_of_ble_eq_true rfl)) dX7_announce_78 ⟨Nat.zero_le _, Nat.zero_le _⟩) hD hS hA (fun H locs hP hD hS => ?_)
    refine lv_if_ne (tgt := 86) hx hb dX7_announce_81 (by decide) (fun h6 => ?_) (fun h6 => ?_)
    · have hf := tk_neg hf h6
      refine lv_aload_n hx hb dX7_announce_86 rfl (lv_at hl 0 rfl) ?_
      refine va_get (D := G) (ci := 7) (v := .ref (q 21)) (C := RX7) (T := TX7) (N := 29) hx hb hts i_X7_announce_X7 hown hE.1 hP 0 rfl rfl 20 (by decide) (hts _ m_X7_announce_f43) (fun _ h9 => h9) rfl dX7_announce_87 ?_
      refine lv_iload_n hx hb dX7_announce_90 rfl (lv_at hl 1 rfl) ?_
      refine lv_iconst (v := 1) hx hb dX7_announce_91 (by decide) ?_
      obtain ⟨h7, hf⟩ := tk_ok hf
      refine tk_zast (v := (1 : Int32)) (f := (S5.2.2.1 2)) hx hb hE.1 hP hD hS 4 2 rfl rfl (by decide) h7 dX7_announce_92 (fun H locs hP hD hS => ?_)
      have hP : va_P G vwCl (tk_M c3 q (tk_A S5 2 (upd (S5.2.2.1 2) x1_78.toNatClampNeg (1 : Int32)))) H := hP
      have hD : va_D A (tk_M c3 q (tk_A S5 2 (upd (S5.2.2.1 2) x1_78.toNatClampNeg (1 : Int32)))) := hD
      obtain ⟨S8, eS8⟩ : ∃ z : tk_ST, z = (tk_A S5 2 (upd (S5.2.2.1 2) x1_78.toNatClampNeg (1 : Int32))) := ⟨_, rfl⟩
      rw [← eS8] at hP hD
      have hf := tk_nm hf eS8
      refine lv_aload_n hx hb dX7_announce_93 rfl (lv_at hl 0 rfl) ?_
      refine va_get (D := G) (ci := 7) (v := .ref (q 21)) (C := RX7) (T := TX7) (N := 29) hx hb hts i_X7_announce_X7 hown hE.1 hP 0 rfl rfl 20 (by decide) (hts _ m_X7_announce_f43) (fun _ h9 => h9) rfl dX7_announce_94 ?_
      refine lv_iconst (v := 0) hx hb dX7_announce_97 (by decide) ?_
      obtain ⟨h9, hf⟩ := tk_ok hf
      refine va_zald (f := (S8.2.2.1 2)) hx hb hE.1 hP 4 2 rfl rfl h9 dX7_announce_98 ?_
      refine lv_if_eq (tgt := 106) hx hb dX7_announce_99 (by decide) (fun h10 => ?_) (fun h10 => ?_)
      · have hf := tk_pos hf h10
        refine lv_iconst (v := 0) hx hb dX7_announce_106 (by decide) ?_
        exact J_107 (0 : Int32) S8 H locs hP hD hS ls (lv_sub hl [0] rfl) hf
      · have hf := tk_neg hf h10
        refine lv_iconst (v := 1) hx hb dX7_announce_102 (by decide) ?_
        refine lv_goto (tgt := 107) hx hb dX7_announce_103 (by decide) ?_
        exact J_107 (1 : Int32) S8 H locs hP hD hS ls (lv_sub hl [0] rfl) hf
    · have hf := tk_pos hf h6
      refine lv_iconst (v := 0) hx hb dX7_announce_84 (by decide) ?_
      exact tk_ri hQ (tk_s2 hf).1 (congrArg (tk_M c3 q) (tk_s2 hf).2) hx hb hr hlocks hP hD hS dX7_announce_85
  have J_59 : ∀ (x1_59 : Int32) (x2_59 : Int32) (k0_59 : Int32) (S_59 : tk_ST) (H : Heap) (locs : List Loc) (_ : va_P G vwCl (tk_M c3 q S_59) H) (_ : va_D A (tk_M c3 q S_59)) (_ : va_S A s.heap H locs) (ls : Array Slot) (_ : lv_has ls 4 [(0, .ref (q 17)), (1, .int x1_59), (2, .int x2_59)]) (_ : f_X7_announce_59 x1_59 x2_59 k0_59 S_59 = some (r0, S0)), W p l e rm_X7_announce s m ([.ref (q 17), .int p0] : List Value).toArray below meth c H locs 0 0 Q (F0 m 59 ls [.int k0_59]) := by
    intro x1_59 x2_59 k0_59 S_59 H locs hP hD hS ls hl hf
    unfold f_X7_announce_59 at hf
    refine lv_istore_n (lv' := [(3, .int k0_59), (0, .ref (q 17)), (1, .int x1_59), (2, .int x2_59)]) hx hb dX7_announce_59 rfl hl (by decide) rfl (fun ls hl => ?_)
    refine lv_aload_n hx hb dX7_announce_60 rfl (lv_at hl 1 rfl) ?_
    refine lv_iload_n hx hb dX7_announce_61 rfl (lv_at hl 3 rfl) ?_
    refine lv_if_ne (tgt := 69) hx hb dX7_announce_62 (by decide) (fun h11 => ?_) (fun h11 => ?_)
    · have hf := tk_neg hf h11
      refine lv_iload_n hx hb dX7_announce_69 rfl (lv_at hl 0 rfl) ?_
      refine lv_if_ne (tgt := 77) hx hb dX7_announce_70 (by decide) (fun h12 => ?_) (fun h12 => ?_)
      · have hf := tk_neg hf h12
        refine lv_iconst (v := 0) hx hb dX7_announce_77 (by decide) ?_
        exact J_78 x1_59 (0 : Int32) S_59 H locs hP hD hS ls (lv_sub hl [1, 2] rfl) hf
      · have hf := tk_pos hf h12
        refine lv_iconst (v := 2) hx hb dX7_announce_73 (by decide) ?_
        refine lv_goto (tgt := 78) hx hb dX7_announce_74 (by decide) ?_
        exact J_78 x1_59 (2 : Int32) S_59 H locs hP hD hS ls (lv_sub hl [1, 2] rfl) hf
    · have hf := tk_pos hf h11
      refine lv_iconst (v := 1) hx hb dX7_announce_65 (by decide) ?_
      refine lv_goto (tgt := 78) hx hb dX7_announce_66 (by decide) ?_
      exact J_78 x1_59 (1 : Int32) S_59 H locs hP hD hS ls (lv_sub hl [1, 2] rfl) hf
  have J_54 : ∀ (x1_54 : Int32) (x2_54 : Int32) (S_54 : tk_ST) (H : Heap) (locs : List Loc) (_ : va_P G vwCl (tk_M c3 q S_54) H) (_ : va_D A (tk_M c3 q S_54)) (_ : va_S A s.heap H locs) (ls : Array Slot) (_ : lv_has ls 4 [(0, .ref (q 17)), (1, .int x1_54), (2, .int x2_54)]) (_ : f_X7_announce_54 x1_54 x2_54 S_54 = some (r0, S0)), W p l e rm_X7_announce s m ([.ref (q 17), .int p0] : List Value).toArray below meth c H locs 0 0 Q (F0 m 54 ls []) := by
    intro x1_54 x2_54 S_54 H locs hP hD hS ls hl hf
    unfold f_X7_announce_54 at hf
    refine lv_iconst (v := 1) hx hb dX7_announce_54 (by decide) ?_
    refine lv_goto (tgt := 59) hx hb dX7_announce_55 (by decide) ?_
    exact J_59 x1_54 x2_54 (1 : Int32) S_54 H locs hP hD hS ls (lv_sub hl [0, 1, 2] rfl) hf
  have J_58 : ∀ (x1_58 : Int32) (x2_58 : Int32) (S_58 : tk_ST) (H : Heap) (locs : List Loc) (_ : va_P G vwCl (tk_M c3 q S_58) H) (_ : va_D A (tk_M c3 q S_58)) (_ : va_S A s.heap H locs) (ls : Array Slot) (_ : lv_has ls 4 [(0, .ref (q 17)), (1, .int x1_58), (2, .int x2_58)]) (_ : f_X7_announce_58 x1_58 x2_58 S_58 = some (r0, S0)), W p l e rm_X7_announce s m ([.ref (q 17), .int p0] : List Value).toArray below meth c H locs 0 0 Q (F0 m 58 ls []) := by
    intro x1_58 x2_58 S_58 H locs hP hD hS ls hl hf
    unfold f_X7_announce_58 at hf
    refine lv_iconst (v := 0) hx hb dX7_announce_58 (by decide) ?_
    exact J_59 x1_58 x2_58 (0 : Int32) S_58 H locs hP hD hS ls (lv_sub hl [0, 1, 2] rfl) hf
  unfold f_X7_announce at hf
  refine lv_iload_n hx hb dX7_announce_0 rfl (lv_at hl 1 rfl) ?_
  refine lv_iconst (v := 0) hx hb dX7_announce_1 (by decide) ?_
  refine lv_iconst (v := 1) hx hb dX7_announce_2 (by decide) ?_
  obtain ⟨r13, h14, hf⟩ := tk_b1s hf
  refine tk_ci (ws' := (tk_M c3 q S)) (va_runS (As := [.int p0, .int (0 : Int32), .int (1 : Int32)]) (rest := []) ⟨hx, hb, hml, hown, hts⟩ (c_X7_isIn l G c3 (tk_M c3 q S) p0 (0 : Int32) (1 : Int32) r13 h14 H.size) (va_cwS 3 hts gX7_announce_X7_isIn rfl rfl rfl hs_X7_isIn ⟨Nat.le_of_ble_eq_true rfl, Nat.le_of_ble_eq_true rfl⟩) (tk_pS hE hP hD) rfl rfl hl.1 rfl (lv_room (Nat.le_of_ble_eq_true rfl)) dX7_announce_3 ⟨Nat.zero_le _, Nat.zero_le _⟩) hD hS hA (fun H locs hP hD hS => ?_)
  refine lv_istore_n (lv' := [(2, .int r13), (0, .ref (q 17)), (1, .int p0)]) hx hb dX7_announce_6 rfl hl (by decide) rfl (fun ls hl => ?_)
  refine lv_iload_n hx hb dX7_announce_7 rfl (lv_at hl 0 rfl) ?_
  refine lv_if_eq (tgt := 58) hx hb dX7_announce_8 (by decide) (fun h16 => ?_) (fun h16 => ?_)
  · have hf := tk_pos hf h16
    exact J_58 p0 r13 S H locs hP hD hS ls (lv_sub hl [1, 2, 0] rfl) hf
  · have hf := tk_neg hf h16
    refine lv_aload_n hx hb dX7_announce_11 rfl (lv_at hl 1 rfl) ?_
    refine va_get (D := G) (ci := 7) (v := .int (S.1 1)) (C := RX7) (T := TX7) (N := 29) hx hb hts i_X7_announce_X7 hown hE.1 hP 0 rfl rfl 1 (by decide) (hts _ m_X7_announce_f9) (fun _ h9 => h9) rfl dX7_announce_12 ?_
    refine lv_iconst (v := 5) hx hb dX7_announce_15 (by decide) ?_
    refine lv_icmp_ne (tgt := 58) hx hb dX7_announce_16 (by decide) (fun h17 => ?_) (fun h17 => ?_)
    · have hf := tk_neg hf h17
      exact J_58 p0 r13 S H locs hP hD hS ls (lv_sub hl [1, 2, 0] rfl) hf
    · have hf := tk_pos hf h17
      refine lv_aload_n hx hb dX7_announce_19 rfl (lv_at hl 1 rfl) ?_
      refine va_get (D := G) (ci := 7) (v := .int (S.1 17)) (C := RX7) (T := TX7) (N := 29) hx hb hts i_X7_announce_X7 hown hE.1 hP 0 rfl rfl 24 (by decide) (hts _ m_X7_announce_f104) (fun _ h9 => h9) rfl dX7_announce_20 ?_
      refine lv_if_ne (tgt := 58) hx hb dX7_announce_23 (by decide) (fun h18 => ?_) (fun h18 => ?_)
      · have hf := tk_neg hf h18
        exact J_58 p0 r13 S H locs hP hD hS ls (lv_sub hl [1, 2, 0] rfl) hf
      · have hf := tk_pos hf h18
        refine lv_aload_n hx hb dX7_announce_26 rfl (lv_at hl 1 rfl) ?_
        refine va_get (D := G) (ci := 7) (v := .int (S.1 15)) (C := RX7) (T := TX7) (N := 29) hx hb hts i_X7_announce_X7 hown hE.1 hP 0 rfl rfl 22 (by decide) (hts _ m_X7_announce_f101) (fun _ h9 => h9) rfl dX7_announce_27 ?_
        refine lv_if_ne (tgt := 58) hx hb dX7_announce_30 (by decide) (fun h19 => ?_) (fun h19 => ?_)
        · have hf := tk_neg hf h19
          exact J_58 p0 r13 S H locs hP hD hS ls (lv_sub hl [1, 2, 0] rfl) hf
        · have hf := tk_pos hf h19
          refine lv_aload_n hx hb dX7_announce_33 rfl (lv_at hl 1 rfl) ?_
          refine va_get (D := G) (ci := 7) (v := .ref (q 21)) (C := RX7) (T := TX7) (N := 29) hx hb hts i_X7_announce_X7 hown hE.1 hP 0 rfl rfl 20 (by decide) (hts _ m_X7_announce_f43) (fun _ h9 => h9) rfl dX7_announce_34 ?_
          refine lv_iload_n hx hb dX7_announce_37 rfl (lv_at hl 2 rfl) ?_
          obtain ⟨h20, hf⟩ := tk_ok hf
          refine va_zald (f := (S.2.2.1 2)) hx hb hE.1 hP 4 2 rfl rfl h20 dX7_announce_38 ?_
          refine lv_if_ne (tgt := 58) hx hb dX7_announce_39 (by decide) (fun h21 => ?_) (fun h21 => ?_)
          · have hf := tk_neg hf h21
            exact J_58 p0 r13 S H locs hP hD hS ls (lv_sub hl [1, 2, 0] rfl) hf
          · have hf := tk_pos hf h21
            refine lv_iload_n hx hb dX7_announce_42 rfl (lv_at hl 2 rfl) ?_
            refine lv_if_eq (tgt := 54) hx hb dX7_announce_43 (by decide) (fun h22 => ?_) (fun h22 => ?_)
            · have hf := tk_pos hf h22
              exact J_54 p0 r13 S H locs hP hD hS ls (lv_sub hl [1, 2, 0] rfl) hf
            · have hf := tk_neg hf h22
              refine lv_aload_n hx hb dX7_announce_46 rfl (lv_at hl 1 rfl) ?_
              refine va_get (D := G) (ci := 7) (v := .int (S.1 6)) (C := RX7) (T := TX7) (N := 29) hx hb hts i_X7_announce_X7 hown hE.1 hP 0 rfl rfl 9 (by decide) (hts _ m_X7_announce_f84) (fun _ h9 => h9) rfl dX7_announce_47 ?_
              refine lv_iconst (v := 4) hx hb dX7_announce_50 (by decide) ?_
              refine lv_icmp_ge (tgt := 58) hx hb dX7_announce_51 (by decide) (fun h23 => ?_) (fun h23 => ?_)
              · have hf := tk_pos hf h23
                exact J_58 p0 r13 S H locs hP hD hS ls (lv_sub hl [1, 2, 0] rfl) hf
              · have hf := tk_neg hf h23
                exact J_54 p0 r13 S H locs hP hD hS ls (lv_sub hl [1, 2, 0] rfl) hf
abbrev rm_X7_hasSuit : Room := { frames := 1, cells := 0, slots := 0, locals := 22 }
set_option maxHeartbeats 4000000 in
set_option maxRecDepth 100000 in
theorem c_X7_hasSuit (l : Launch) (G : va_G) (c3 : ClassId × ClassId × ClassId) (ws : va_W) (p0 : Int64) (p1 : Int32) (r0 : Int32) (hf : f_X7_hasSuit p0 p1 = some r0) : tk_Mi l yX7_hasSuit wsX7_hasSuit rm_X7_hasSuit G c3 [.long p0, .int p1] ws ws r0 := by
  refine tk_ofi (cc := cX7_hasSuit) (maxL := 5) (ret := some .boolean) (by decide) rfl (Nat.le_of_ble_eq_true rfl) ?_
  intro p e s m below meth c A Q ls H locs hx hb hml hr hts hown hlocks hE hA hP hD hS hZ hQ hl
  have hl : lv_has ls 5 [(0, .long p0), (2, .int p1)] := hl
  have hown : s.vm.findClass RX7 = some m.cls := hown
  have J_5 : ∀ (n_5 : Nat), ∀ (x0_5 : Int64) (x2_5 : Int32) (x3_5 : Int32) (x4_5 : Int32) (H : Heap) (locs : List Loc) (_ : va_P G vwCl ws H) (_ : va_D A ws) (_ : va_S A s.heap H locs) (ls : Array Slot) (_ : lv_has ls 5 [(0, .long x0_5), (2, .int x2_5), (3, .int x3_5), (4, .int x4_5)]) (_ : f_X7_hasSuit_5 n_5 x0_5 x2_5 x3_5 x4_5 = some r0), W p l e rm_X7_hasSuit s m ([.long p0, .int p1] : List Value).toArray below meth c H locs 0 0 Q (F0 m 5 ls []) := by
    intro n_5
    induction n_5 with
    | zero =>
      intro x0_5 x2_5 x3_5 x4_5 H locs hP hD hS ls hl hf
      exact absurd hf (by intro h9; cases h9)
    | succ n_5 ih_5 =>
      have J_39 : ∀ (x0_39 : Int64) (x2_39 : Int32) (x4_39 : Int32) (k0_39 : Int32) (H : Heap) (locs : List Loc) (_ : va_P G vwCl ws H) (_ : va_D A ws) (_ : va_S A s.heap H locs) (ls : Array Slot) (_ : lv_has ls 5 [(0, .long x0_39), (2, .int x2_39), (4, .int x4_39)]) (_ : f_X7_hasSuit_39 (f_X7_hasSuit_5 n_5) x0_39 x2_39 x4_39 k0_39 = some r0), W p l e rm_X7_hasSuit s m ([.long p0, .int p1] : List Value).toArray below meth c H locs 0 0 Q (F0 m 39 ls [.int k0_39]) := by
        intro x0_39 x2_39 x4_39 k0_39 H locs hP hD hS ls hl hf
        unfold f_X7_hasSuit_39 at hf
        refine lv_istore_n (lv' := [(3, .int k0_39), (0, .long x0_39), (2, .int x2_39), (4, .int x4_39)]) hx hb dX7_hasSuit_39 rfl hl (by decide) rfl (fun ls hl => ?_)
        refine lv_iinc (v := (x4_39 + (1 : Int32))) (lv' := [(4, .int (x4_39 + (1 : Int32))), (3, .int k0_39), (0, .long x0_39), (2, .int x2_39)]) hx hb dX7_hasSuit_40 hl (k := 3) rfl rfl (by decide) rfl (fun ls hl => ?_)
        refine lv_goto (tgt := 5) hx hb dX7_hasSuit_43 (by decide) ?_
        exact ih_5 x0_39 x2_39 k0_39 (x4_39 + (1 : Int32)) H locs hP hD hS ls (lv_sub hl [2, 3, 1, 0] rfl) hf
      have J_34 : ∀ (x0_34 : Int64) (x2_34 : Int32) (x4_34 : Int32) (H : Heap) (locs : List Loc) (_ : va_P G vwCl ws H) (_ : va_D A ws) (_ : va_S A s.heap H locs) (ls : Array Slot) (_ : lv_has ls 5 [(0, .long x0_34), (2, .int x2_34), (4, .int x4_34)]) (_ : f_X7_hasSuit_34 (f_X7_hasSuit_5 n_5) x0_34 x2_34 x4_34 = some r0), W p l e rm_X7_hasSuit s m ([.long p0, .int p1] : List Value).toArray below meth c H locs 0 0 Q (F0 m 34 ls []) := by
        intro x0_34 x2_34 x4_34 H locs hP hD hS ls hl hf
        unfold f_X7_hasSuit_34 at hf
        refine lv_iconst (v := 1) hx hb dX7_hasSuit_34 (by decide) ?_
        refine lv_goto (tgt := 39) hx hb dX7_hasSuit_35 (by decide) ?_
        exact J_39 x0_34 x2_34 x4_34 (1 : Int32) H locs hP hD hS ls (lv_sub hl [0, 1, 2] rfl) hf
      have J_38 : ∀ (x0_38 : Int64) (x2_38 : Int32) (x4_38 : Int32) (H : Heap) (locs : List Loc) (_ : va_P G vwCl ws H) (_ : va_D A ws) (_ : va_S A s.heap H locs) (ls : Array Slot) (_ : lv_has ls 5 [(0, .long x0_38), (2, .int x2_38), (4, .int x4_38)]) (_ : f_X7_hasSuit_38 (f_X7_hasSuit_5 n_5) x0_38 x2_38 x4_38 = some r0), W p l e rm_X7_hasSuit s m ([.long p0, .int p1] : List Value).toArray below meth c H locs 0 0 Q (F0 m 38 ls []) := by
        intro x0_38 x2_38 x4_38 H locs hP hD hS ls hl hf
        unfold f_X7_hasSuit_38 at hf
        refine lv_iconst (v := 0) hx hb dX7_hasSuit_38 (by decide) ?_
        exact J_39 x0_38 x2_38 x4_38 (0 : Int32) H locs hP hD hS ls (lv_sub hl [0, 1, 2] rfl) hf
      intro x0_5 x2_5 x3_5 x4_5 H locs hP hD hS ls hl hf
      rw [f_X7_hasSuit_5_s] at hf
      refine lv_iload hx hb dX7_hasSuit_5 (lv_at hl 3 rfl) ?_
      refine lv_bipush (v := 54) hx hb dX7_hasSuit_7 (by decide) ?_
      refine lv_icmp_ge (tgt := 46) hx hb dX7_hasSuit_9 (by decide) (fun h1 => ?_) (fun h1 => ?_)
      · have hf := tk_pos hf h1
        refine lv_iload_n hx hb dX7_hasSuit_46 rfl (lv_at hl 2 rfl) ?_
        obtain ⟨h2, hf⟩ := tk_yes hf
        exact tk_rz hQ (tk_s1 hf) rfl h2 hx hb hr hlocks hP hD hS dX7_hasSuit_47
      · have hf := tk_neg hf h1
        refine lv_iload_n hx hb dX7_hasSuit_12 rfl (lv_at hl 2 rfl) ?_
        refine lv_if_ne (tgt := 34) hx hb dX7_hasSuit_13 (by decide) (fun h3 => ?_) (fun h3 => ?_)
        · have hf := tk_neg hf h3
          exact J_34 x0_5 x2_5 x4_5 H locs hP hD hS ls (lv_sub hl [0, 1, 3] rfl) hf
        · have hf := tk_pos hf h3
          refine lv_lload_n hx hb dX7_hasSuit_16 rfl (lv_at hl 0 rfl) ?_
          refine lv_iload hx hb dX7_hasSuit_17 (lv_at hl 3 rfl) ?_
          obtain ⟨r4, h5, hf⟩ := tk_b1s hf
          refine tk_ci (ws' := ws) (va_runS (As := [.long x0_5, .int x4_5]) (rest := []) ⟨hx, hb, hml, hown, hts⟩ (c_X7_has l G c3 ws x0_5 x4_5 r4 h5 H.size) (va_cwS 2 hts gX7_hasSuit_X7_has rfl rfl rfl hs_X7_has ⟨Nat.le_of_ble_eq_true rfl, Nat.le_of_ble_eq_true rfl⟩) (tk_pS hE hP hD) rfl rfl hl.1 rfl (lv_room (Nat.le_of_ble_eq_true rfl)) dX7_hasSuit_19 ⟨Nat.zero_le _, Nat.zero_le _⟩) hD hS hA (fun H locs hP hD hS => ?_)
          refine lv_if_eq (tgt := 38) hx hb dX7_hasSuit_22 (by decide) (fun h7 => ?_) (fun h7 => ?_)
          · have hf := tk_pos hf h7
            exact J_38 x0_5 x2_5 x4_5 H locs hP hD hS ls (lv_sub hl [0, 1, 3] rfl) hf
          · have hf := tk_neg hf h7
            refine lv_iload hx hb dX7_hasSuit_25 (lv_at hl 3 rfl) ?_
            obtain ⟨r8, h9, hf⟩ := tk_b1s hf
            refine tk_ci (ws' := ws) (va_runS (As := [.int x4_5]) (rest := []) ⟨hx, hb, hml, hown, hts⟩ (c_X7_suit l G c3 ws x4_5 r8 h9 H.size) (va_cwS 1 hts gX7_hasSuit_X7_suit rfl rfl rfl hs_X7_suit ⟨Nat.le_of_ble_eq_true rfl, Nat.le_of_ble_eq_true rfl⟩) (tk_pS hE hP hD) rfl rfl hl.1 rfl (lv_room (Nat.le_of_ble_eq_true rfl)) dX7_hasSuit_27 ⟨Nat.zero_le _, Nat.zero_le _⟩) hD hS hA (fun H locs hP hD hS => ?_)
            refine lv_iload_n hx hb dX7_hasSuit_30 rfl (lv_at hl 1 rfl) ?_
            refine lv_icmp_ne (tgt := 38) hx hb dX7_hasSuit_31 (by decide) (fun h11 => ?_) (fun h11 => ?_)
            · have hf := tk_neg hf h11
              exact J_38 x0_5 x2_5 x4_5 H locs hP hD hS ls (lv_sub hl [0, 1, 3] rfl) hf
            · have hf := tk_pos hf h11
              exact J_34 x0_5 x2_5 x4_5 H locs hP hD hS ls (lv_sub hl [0, 1, 3] rfl) hf
  unfold f_X7_hasSuit at hf
  refine lv_iconst (v := 0) hx hb dX7_hasSuit_0 (by decide) ?_
  refine lv_istore_n (lv' := [(3, .int (0 : Int32)), (0, .long p0), (2, .int p1)]) hx hb dX7_hasSuit_1 rfl hl (by decide) rfl (fun ls hl => ?_)
  refine lv_iconst (v := 0) hx hb dX7_hasSuit_2 (by decide) ?_
  refine lv_istore (lv' := [(4, .int (0 : Int32)), (3, .int (0 : Int32)), (0, .long p0), (2, .int p1)]) hx hb dX7_hasSuit_3 hl (by decide) rfl (fun ls hl => ?_)
  exact J_5 64 p0 p1 (0 : Int32) (0 : Int32) H locs hP hD hS ls (lv_sub hl [2, 3, 1, 0] rfl) hf
abbrev rm_X7_isPlayable : Room := { frames := 2, cells := 0, slots := 0, locals := 46 }
set_option maxHeartbeats 4000000 in
set_option maxRecDepth 100000 in
theorem c_X7_isPlayable (l : Launch) (G : va_G) (c3 : ClassId × ClassId × ClassId) (q : Nat → Nat) (S : tk_ST) (p0 : Int32) (r0 : Int32) (hf : f_X7_isPlayable p0 S = some r0) : tk_Mi l yX7_isPlayable wsX7_isPlayable rm_X7_isPlayable G c3 [.ref (q 17), .int p0] (tk_M c3 q S) (tk_M c3 q S) r0 := by
  refine tk_ofi (cc := cX7_isPlayable) (maxL := 3) (ret := some .boolean) (by decide) rfl (Nat.le_of_ble_eq_true rfl) ?_
  intro p e s m below meth c A Q ls H locs hx hb hml hr hts hown hlocks hE hA hP hD hS hZ hQ hl
  have hl : lv_has ls 3 [(0, .ref (q 17)), (1, .int p0)] := hl
  have hown : s.vm.findClass RX7 = some m.cls := hown
  have J_99 : ∀ (H : Heap) (locs : List Loc) (_ : va_P G vwCl (tk_M c3 q S) H) (_ : va_D A (tk_M c3 q S)) (_ : va_S A s.heap H locs) (ls : Array Slot) (_ : lv_has ls 3 []) (_ : f_X7_isPlayable_99 S = some r0), W p l e rm_X7_isPlayable s m ([.ref (q 17), .int p0] : List Value).toArray below meth c H locs 0 0 Q (F0 m 99 ls []) := by
    intro  H locs hP hD hS ls hl hf
    unfold f_X7_isPlayable_99 at hf
    refine lv_iconst (v := 1) hx hb dX7_isPlayable_99 (by decide) ?_
    refine lv_goto (tgt := 104) hx hb dX7_isPlayable_100 (by decide) ?_
    exact tk_rz hQ (tk_s1 hf) rfl (by decide) hx hb hr hlocks hP hD hS dX7_isPlayable_104
  unfold f_X7_isPlayable at hf
  refine lv_aload_n hx hb dX7_isPlayable_0 rfl (lv_at hl 0 rfl) ?_
  refine va_get (D := G) (ci := 7) (v := .int (S.1 1)) (C := RX7) (T := TX7) (N := 29) hx hb hts i_X7_isPlayable_X7 hown hE.1 hP 0 rfl rfl 1 (by decide) (hts _ m_X7_isPlayable_f9) (fun _ h9 => h9) rfl dX7_isPlayable_1 ?_
  refine lv_iconst (v := 5) hx hb dX7_isPlayable_4 (by decide) ?_
  refine lv_icmp_ne (tgt := 24) hx hb dX7_isPlayable_5 (by decide) (fun h1 => ?_) (fun h1 => ?_)
  · have hf := tk_neg hf h1
    refine lv_iconst (v := 0) hx hb dX7_isPlayable_24 (by decide) ?_
    exact tk_rz hQ (tk_s1 hf) rfl (by decide) hx hb hr hlocks hP hD hS dX7_isPlayable_25
  · have hf := tk_pos hf h1
    refine lv_aload_n hx hb dX7_isPlayable_8 rfl (lv_at hl 0 rfl) ?_
    refine va_get (D := G) (ci := 7) (v := .ref (q 19)) (C := RX7) (T := TX7) (N := 29) hx hb hts i_X7_isPlayable_X7 hown hE.1 hP 0 rfl rfl 6 (by decide) (hts _ m_X7_isPlayable_f20) (fun _ h9 => h9) rfl dX7_isPlayable_9 ?_
    refine lv_aload_n hx hb dX7_isPlayable_12 rfl (lv_at hl 0 rfl) ?_
    refine va_get (D := G) (ci := 7) (v := .int (S.1 4)) (C := RX7) (T := TX7) (N := 29) hx hb hts i_X7_isPlayable_X7 hown hE.1 hP 0 rfl rfl 4 (by decide) (hts _ m_X7_isPlayable_f13) (fun _ h9 => h9) rfl dX7_isPlayable_13 ?_
    obtain ⟨h2, hf⟩ := tk_ok hf
    refine va_lald (f := (S.2.2.2 0)) hx hb hE.1 hP 2 1 rfl rfl h2 dX7_isPlayable_16 ?_
    refine lv_iload_n hx hb dX7_isPlayable_17 rfl (lv_at hl 1 rfl) ?_
    obtain ⟨r3, h4, hf⟩ := tk_b1s hf
    refine tk_ci (ws' := (tk_M c3 q S)) (va_runS (As := [.long ((S.2.2.2 0) (S.1 4).toNatClampNeg), .int p0]) (rest := []) ⟨hx, hb, hml, hown, hts⟩ (c_X7_has l G c3 (tk_M c3 q S) ((S.2.2.2 0) (S.1 4).toNatClampNeg) p0 r3 h4 H.size) (va_cwS 2 hts gX7_isPlayable_X7_has rfl rfl rfl hs_X7_has ⟨Nat.le_of_ble_eq_true rfl, Nat.le_of_ble_eq_true rfl⟩) (tk_pS hE hP hD) rfl rfl hl.1 rfl (lv_room (Nat.le_of_ble_eq_true rfl)) dX7_isPlayable_18 ⟨Nat.zero_le _, Nat.zero_le _⟩) hD hS hA (fun H locs hP hD hS => ?_)
    refine lv_if_ne (tgt := 26) hx hb dX7_isPlayable_21 (by decide) (fun h6 => ?_) (fun h6 => ?_)
    · have hf := tk_neg hf h6
      refine lv_aload_n hx hb dX7_isPlayable_26 rfl (lv_at hl 0 rfl) ?_
      refine va_get (D := G) (ci := 7) (v := .int (S.1 15)) (C := RX7) (T := TX7) (N := 29) hx hb hts i_X7_isPlayable_X7 hown hE.1 hP 0 rfl rfl 22 (by decide) (hts _ m_X7_isPlayable_f101) (fun _ h9 => h9) rfl dX7_isPlayable_27 ?_
      refine lv_if_ne (tgt := 35) hx hb dX7_isPlayable_30 (by decide) (fun h7 => ?_) (fun h7 => ?_)
      · have hf := tk_neg hf h7
        refine lv_aload_n hx hb dX7_isPlayable_35 rfl (lv_at hl 0 rfl) ?_
        refine va_get (D := G) (ci := 7) (v := .ref (q 22)) (C := RX7) (T := TX7) (N := 29) hx hb hts i_X7_isPlayable_X7 hown hE.1 hP 0 rfl rfl 21 (by decide) (hts _ m_X7_isPlayable_f46) (fun _ h9 => h9) rfl dX7_isPlayable_36 ?_
        refine lv_iconst (v := 0) hx hb dX7_isPlayable_39 (by decide) ?_
        obtain ⟨h8, hf⟩ := tk_ok hf
        refine va_iald (f := (S.2.2.1 3)) hx hb hE.1 hP 5 0 rfl rfl h8 dX7_isPlayable_40 ?_
        obtain ⟨r9, h10, hf⟩ := tk_b1s hf
        refine tk_ci (ws' := (tk_M c3 q S)) (va_runS (As := [.int ((S.2.2.1 3) (0 : Int32).toNatClampNeg)]) (rest := []) ⟨hx, hb, hml, hown, hts⟩ (c_X7_suit l G c3 (tk_M c3 q S) ((S.2.2.1 3) (0 : Int32).toNatClampNeg) r9 h10 H.size) (va_cwS 1 hts gX7_isPlayable_X7_suit rfl rfl rfl hs_X7_suit ⟨Nat.le_of_ble_eq_true rfl, Nat.le_of_ble_eq_true rfl⟩) (tk_pS hE hP hD) rfl rfl hl.1 rfl (lv_room (Nat.le_of_ble_eq_true rfl)) dX7_isPlayable_41 ⟨Nat.zero_le _, Nat.zero_le _⟩) hD hS hA (fun H locs hP hD hS => ?_)
        refine lv_istore_n (lv' := [(2, .int r9), (0, .ref (q 17)), (1, .int p0)]) hx hb dX7_isPlayable_44 rfl hl (by decide) rfl (fun ls hl => ?_)
        refine lv_aload_n hx hb dX7_isPlayable_45 rfl (lv_at hl 1 rfl) ?_
        refine va_get (D := G) (ci := 7) (v := .ref (q 19)) (C := RX7) (T := TX7) (N := 29) hx hb hts i_X7_isPlayable_X7 hown hE.1 hP 0 rfl rfl 6 (by decide) (hts _ m_X7_isPlayable_f20) (fun _ h9 => h9) rfl dX7_isPlayable_46 ?_
        refine lv_aload_n hx hb dX7_isPlayable_49 rfl (lv_at hl 1 rfl) ?_
        refine va_get (D := G) (ci := 7) (v := .int (S.1 4)) (C := RX7) (T := TX7) (N := 29) hx hb hts i_X7_isPlayable_X7 hown hE.1 hP 0 rfl rfl 4 (by decide) (hts _ m_X7_isPlayable_f13) (fun _ h9 => h9) rfl dX7_isPlayable_50 ?_
        obtain ⟨h12, hf⟩ := tk_ok hf
        refine va_lald (f := (S.2.2.2 0)) hx hb hE.1 hP 2 1 rfl rfl h12 dX7_isPlayable_53 ?_
        refine lv_iload_n hx hb dX7_isPlayable_54 rfl (lv_at hl 0 rfl) ?_
        obtain ⟨r13, h14, hf⟩ := tk_b1s hf
        refine tk_ci (ws' := (tk_M c3 q S)) (va_runS (As := [.long ((S.2.2.2 0) (S.1 4).toNatClampNeg), .int r9]) (rest := []) ⟨hx, hb, hml, hown, hts⟩ (c_X7_hasSuit l G c3 (tk_M c3 q S) ((S.2.2.2 0) (S.1 4).toNatClampNeg) r9 r13 h14 H.size) (va_cwS 2 hts gX7_isPlayable_X7_hasSuit rfl rfl rfl hs_X7_hasSuit ⟨Nat.le_of_ble_eq_true rfl, Nat.le_of_ble_eq_true rfl⟩) (tk_pS hE hP hD) rfl rfl hl.1 rfl (lv_room (Nat.le_of_ble_eq_true rfl)) dX7_isPlayable_55 ⟨Nat.zero_le _, Nat.zero_le _⟩) hD hS hA (fun H locs hP hD hS => ?_)
        refine lv_if_eq (tgt := 75) hx hb dX7_isPlayable_58 (by decide) (fun h16 => ?_) (fun h16 => ?_)
        · have hf := tk_pos hf h16
          refine lv_iload_n hx hb dX7_isPlayable_75 rfl (lv_at hl 2 rfl) ?_
          obtain ⟨r17, h18, hf⟩ := tk_b1s hf
          refine tk_ci (ws' := (tk_M c3 q S)) (va_runS (As := [.int p0]) (rest := []) ⟨hx, hb, hml, hown, hts⟩ (c_X7_suit l G c3 (tk_M c3 q S) p0 r17 h18 H.size) (va_cwS 1 hts gX7_isPlayable_X7_suit rfl rfl rfl hs_X7_suit ⟨Nat.le_of_ble_eq_true rfl, Nat.le_of_ble_eq_true rfl⟩) (tk_pS hE hP hD) rfl rfl hl.1 rfl (lv_room (Nat.le_of_ble_eq_true rfl)) dX7_isPlayable_76 ⟨Nat.zero_le _, Nat.zero_le _⟩) hD hS hA (fun H locs hP hD hS => ?_)
          refine lv_iconst (v := 4) hx hb dX7_isPlayable_79 (by decide) ?_
          refine lv_icmp_eq (tgt := 99) hx hb dX7_isPlayable_80 (by decide) (fun h20 => ?_) (fun h20 => ?_)
          · have hf := tk_pos hf h20
            exact J_99 H locs hP hD hS ls (lv_sub hl [] rfl) hf
          · have hf := tk_neg hf h20
            refine lv_aload_n hx hb dX7_isPlayable_83 rfl (lv_at hl 1 rfl) ?_
            refine va_get (D := G) (ci := 7) (v := .ref (q 19)) (C := RX7) (T := TX7) (N := 29) hx hb hts i_X7_isPlayable_X7 hown hE.1 hP 0 rfl rfl 6 (by decide) (hts _ m_X7_isPlayable_f20) (fun _ h9 => h9) rfl dX7_isPlayable_84 ?_
            refine lv_aload_n hx hb dX7_isPlayable_87 rfl (lv_at hl 1 rfl) ?_
            refine va_get (D := G) (ci := 7) (v := .int (S.1 4)) (C := RX7) (T := TX7) (N := 29) hx hb hts i_X7_isPlayable_X7 hown hE.1 hP 0 rfl rfl 4 (by decide) (hts _ m_X7_isPlayable_f13) (fun _ h9 => h9) rfl dX7_isPlayable_88 ?_
            obtain ⟨h21, hf⟩ := tk_ok hf
            refine va_lald (f := (S.2.2.2 0)) hx hb hE.1 hP 2 1 rfl rfl h21 dX7_isPlayable_91 ?_
            refine lv_iconst (v := 4) hx hb dX7_isPlayable_92 (by decide) ?_
            obtain ⟨r22, h23, hf⟩ := tk_b1s hf
            refine tk_ci (ws' := (tk_M c3 q S)) (va_runS (As := [.long ((S.2.2.2 0) (S.1 4).toNatClampNeg), .int (4 : Int32)]) (rest := []) ⟨hx, hb, hml, hown, hts⟩ (c_X7_hasSuit l G c3 (tk_M c3 q S) ((S.2.2.2 0) (S.1 4).toNatClampNeg) (4 : Int32) r22 h23 H.size) (va_cwS 2 hts gX7_isPlayable_X7_hasSuit rfl rfl rfl hs_X7_hasSuit ⟨Nat.le_of_ble_eq_true rfl, Nat.le_of_ble_eq_true rfl⟩) (tk_pS hE hP hD) rfl rfl hl.1 rfl (lv_room (Nat.le_of_ble_eq_true rfl)) dX7_isPlayable_93 ⟨Nat.zero_le _, Nat.zero_le _⟩) hD hS hA (fun H locs hP hD hS => ?_)
            refine lv_if_ne (tgt := 103) hx hb dX7_isPlayable_96 (by decide) (fun h25 => ?_) (fun h25 => ?_)
            · have hf := tk_neg hf h25
              refine lv_iconst (v := 0) hx hb dX7_isPlayable_103 (by decide) ?_
              exact tk_rz hQ (tk_s1 hf) rfl (by decide) hx hb hr hlocks hP hD hS dX7_isPlayable_104
            · have hf := tk_pos hf h25
              exact J_99 H locs hP hD hS ls (lv_sub hl [] rfl) hf
        · have hf := tk_neg hf h16
          refine lv_iload_n hx hb dX7_isPlayable_61 rfl (lv_at hl 2 rfl) ?_
          obtain ⟨r26, h27, hf⟩ := tk_b1s hf
          refine tk_ci (ws' := (tk_M c3 q S)) (va_runS (As := [.int p0]) (rest := []) ⟨hx, hb, hml, hown, hts⟩ (c_X7_suit l G c3 (tk_M c3 q S) p0 r26 h27 H.size) (va_cwS 1 hts gX7_isPlayable_X7_suit rfl rfl rfl hs_X7_suit ⟨Nat.le_of_ble_eq_true rfl, Nat.le_of_ble_eq_true rfl⟩) (tk_pS hE hP hD) rfl rfl hl.1 rfl (lv_room (Nat.le_of_ble_eq_true rfl)) dX7_isPlayable_62 ⟨Nat.zero_le _, Nat.zero_le _⟩) hD hS hA (fun H locs hP hD hS => ?_)
          refine lv_iload_n hx hb dX7_isPlayable_65 rfl (lv_at hl 0 rfl) ?_
          refine lv_icmp_ne (tgt := 73) hx hb dX7_isPlayable_66 (by decide) (fun h29 => ?_) (fun h29 => ?_)
          · have hf := tk_neg hf h29
            refine lv_iconst (v := 0) hx hb dX7_isPlayable_73 (by decide) ?_
            exact tk_rz hQ (tk_s1 hf) rfl (by decide) hx hb hr hlocks hP hD hS dX7_isPlayable_74
          · have hf := tk_pos hf h29
            refine lv_iconst (v := 1) hx hb dX7_isPlayable_69 (by decide) ?_
            refine lv_goto (tgt := 74) hx hb dX7_isPlayable_70 (by decide) ?_
            exact tk_rz hQ (tk_s1 hf) rfl (by decide) hx hb hr hlocks hP hD hS dX7_isPlayable_74
      · have hf := tk_pos hf h7
        refine lv_iconst (v := 1) hx hb dX7_isPlayable_33 (by decide) ?_
        exact tk_rz hQ (tk_s1 hf) rfl (by decide) hx hb hr hlocks hP hD hS dX7_isPlayable_34
    · have hf := tk_pos hf h6
      refine lv_iconst (v := 0) hx hb dX7_isPlayable_24 (by decide) ?_
      exact tk_rz hQ (tk_s1 hf) rfl (by decide) hx hb hr hlocks hP hD hS dX7_isPlayable_25
abbrev rm_X7_best : Room := { frames := 1, cells := 0, slots := 0, locals := 20 }
set_option maxHeartbeats 4000000 in
set_option maxRecDepth 100000 in
theorem c_X7_best (l : Launch) (G : va_G) (c3 : ClassId × ClassId × ClassId) (q : Nat → Nat) (S : tk_ST) (r0 : Int32) (hf : f_X7_best S = some r0) : tk_Mi l yX7_best wsX7_best rm_X7_best G c3 [.ref (q 17)] (tk_M c3 q S) (tk_M c3 q S) r0 := by
  refine tk_ofi (cc := cX7_best) (maxL := 4) (ret := some .int) (by decide) rfl (Nat.le_of_ble_eq_true rfl) ?_
  intro p e s m below meth c A Q ls H locs hx hb hml hr hts hown hlocks hE hA hP hD hS hZ hQ hl
  have hl : lv_has ls 4 [(0, .ref (q 17))] := hl
  have hown : s.vm.findClass RX7 = some m.cls := hown
  have J_4 : ∀ (n_4 : Nat), ∀ (x1_4 : Int32) (x2_4 : Int32) (H : Heap) (locs : List Loc) (_ : va_P G vwCl (tk_M c3 q S) H) (_ : va_D A (tk_M c3 q S)) (_ : va_S A s.heap H locs) (ls : Array Slot) (_ : lv_has ls 4 [(0, .ref (q 17)), (1, .int x1_4), (2, .int x2_4)]) (_ : f_X7_best_4 n_4 x1_4 x2_4 S = some r0), W p l e rm_X7_best s m ([.ref (q 17)] : List Value).toArray below meth c H locs 0 0 Q (F0 m 4 ls []) := by
    intro n_4
    induction n_4 with
    | zero =>
      intro x1_4 x2_4 H locs hP hD hS ls hl hf
      exact absurd hf (by intro h9; cases h9)
    | succ n_4 ih_4 =>
      have J_84 : ∀ (x2_84 : Int32) (k0_84 : Int32) (H : Heap) (locs : List Loc) (_ : va_P G vwCl (tk_M c3 q S) H) (_ : va_D A (tk_M c3 q S)) (_ : va_S A s.heap H locs) (ls : Array Slot) (_ : lv_has ls 4 [(0, .ref (q 17)), (2, .int x2_84)]) (_ : f_X7_best_84 (f_X7_best_4 n_4) x2_84 k0_84 S = some r0), W p l e rm_X7_best s m ([.ref (q 17)] : List Value).toArray below meth c H locs 0 0 Q (F0 m 84 ls [.int k0_84]) := by
        intro x2_84 k0_84 H locs hP hD hS ls hl hf
        unfold f_X7_best_84 at hf
        refine lv_istore_n (lv' := [(1, .int k0_84), (0, .ref (q 17)), (2, .int x2_84)]) hx hb dX7_best_84 rfl hl (by decide) rfl (fun ls hl => ?_)
        refine lv_iinc (v := (x2_84 + (1 : Int32))) (lv' := [(2, .int (x2_84 + (1 : Int32))), (1, .int k0_84), (0, .ref (q 17))]) hx hb dX7_best_85 hl (k := 2) rfl rfl (by decide) rfl (fun ls hl => ?_)
        refine lv_goto (tgt := 4) hx hb dX7_best_88 (by decide) ?_
        exact ih_4 k0_84 (x2_84 + (1 : Int32)) H locs hP hD hS ls (lv_sub hl [2, 1, 0] rfl) hf
      have J_74 : ∀ (x1_74 : Int32) (x2_74 : Int32) (k0_74 : Int32) (H : Heap) (locs : List Loc) (_ : va_P G vwCl (tk_M c3 q S) H) (_ : va_D A (tk_M c3 q S)) (_ : va_S A s.heap H locs) (ls : Array Slot) (_ : lv_has ls 4 [(0, .ref (q 17)), (1, .int x1_74), (2, .int x2_74)]) (_ : f_X7_best_74 (f_X7_best_4 n_4) x1_74 x2_74 k0_74 S = some r0), W p l e rm_X7_best s m ([.ref (q 17)] : List Value).toArray below meth c H locs 0 0 Q (F0 m 74 ls [.int k0_74]) := by
        intro x1_74 x2_74 k0_74 H locs hP hD hS ls hl hf
        unfold f_X7_best_74 at hf
        refine lv_istore_n (lv' := [(3, .int k0_74), (0, .ref (q 17)), (1, .int x1_74), (2, .int x2_74)]) hx hb dX7_best_74 rfl hl (by decide) rfl (fun ls hl => ?_)
        refine lv_iload_n hx hb dX7_best_75 rfl (lv_at hl 0 rfl) ?_
        refine lv_if_eq (tgt := 83) hx hb dX7_best_76 (by decide) (fun h1 => ?_) (fun h1 => ?_)
        · have hf := tk_pos hf h1
          refine lv_iload_n hx hb dX7_best_83 rfl (lv_at hl 2 rfl) ?_
          exact J_84 x2_74 x1_74 H locs hP hD hS ls (lv_sub hl [1, 3] rfl) hf
        · have hf := tk_neg hf h1
          refine lv_iload_n hx hb dX7_best_79 rfl (lv_at hl 3 rfl) ?_
          refine lv_goto (tgt := 84) hx hb dX7_best_80 (by decide) ?_
          exact J_84 x2_74 x2_74 H locs hP hD hS ls (lv_sub hl [1, 3] rfl) hf
      intro x1_4 x2_4 H locs hP hD hS ls hl hf
      rw [f_X7_best_4_s] at hf
      refine lv_iload_n hx hb dX7_best_4 rfl (lv_at hl 2 rfl) ?_
      refine lv_aload_n hx hb dX7_best_5 rfl (lv_at hl 0 rfl) ?_
      refine va_get (D := G) (ci := 7) (v := .int (S.1 15)) (C := RX7) (T := TX7) (N := 29) hx hb hts i_X7_best_X7 hown hE.1 hP 0 rfl rfl 22 (by decide) (hts _ m_X7_best_f101) (fun _ h9 => h9) rfl dX7_best_6 ?_
      refine lv_icmp_ge (tgt := 91) hx hb dX7_best_9 (by decide) (fun h2 => ?_) (fun h2 => ?_)
      · have hf := tk_pos hf h2
        refine lv_iload_n hx hb dX7_best_91 rfl (lv_at hl 1 rfl) ?_
        exact tk_ri hQ (tk_s1 hf) rfl hx hb hr hlocks hP hD hS dX7_best_92
      · have hf := tk_neg hf h2
        refine lv_aload_n hx hb dX7_best_12 rfl (lv_at hl 0 rfl) ?_
        refine va_get (D := G) (ci := 7) (v := .ref (q 22)) (C := RX7) (T := TX7) (N := 29) hx hb hts i_X7_best_X7 hown hE.1 hP 0 rfl rfl 21 (by decide) (hts _ m_X7_best_f46) (fun _ h9 => h9) rfl dX7_best_13 ?_
        refine lv_iload_n hx hb dX7_best_16 rfl (lv_at hl 2 rfl) ?_
        obtain ⟨h3, hf⟩ := tk_ok hf
        refine va_iald (f := (S.2.2.1 3)) hx hb hE.1 hP 5 0 rfl rfl h3 dX7_best_17 ?_
        obtain ⟨r4, h5, hf⟩ := tk_b1s hf
        refine tk_ci (ws' := (tk_M c3 q S)) (va_runS (As := [.int ((S.2.2.1 3) x2_4.toNatClampNeg)]) (rest := []) ⟨hx, hb, hml, hown, hts⟩ (c_X7_suit l G c3 (tk_M c3 q S) ((S.2.2.1 3) x2_4.toNatClampNeg) r4 h5 H.size) (va_cwS 1 hts gX7_best_X7_suit rfl rfl rfl hs_X7_suit ⟨Nat.le_of_ble_eq_true rfl, Nat.le_of_ble_eq_true rfl⟩) (tk_pS hE hP hD) rfl rfl hl.1 rfl (lv_room (Nat.le_of_ble_eq_true rfl)) dX7_best_18 ⟨Nat.zero_le _, Nat.zero_le _⟩) hD hS hA (fun H locs hP hD hS => ?_)
        refine lv_aload_n hx hb dX7_best_21 rfl (lv_at hl 0 rfl) ?_
        refine va_get (D := G) (ci := 7) (v := .ref (q 22)) (C := RX7) (T := TX7) (N := 29) hx hb hts i_X7_best_X7 hown hE.1 hP 0 rfl rfl 21 (by decide) (hts _ m_X7_best_f46) (fun _ h9 => h9) rfl dX7_best_22 ?_
        refine lv_iload_n hx hb dX7_best_25 rfl (lv_at hl 1 rfl) ?_
        obtain ⟨h7, hf⟩ := tk_ok hf
        refine va_iald (f := (S.2.2.1 3)) hx hb hE.1 hP 5 0 rfl rfl h7 dX7_best_26 ?_
        obtain ⟨r8, h9, hf⟩ := tk_b1s hf
        refine tk_ci (ws' := (tk_M c3 q S)) (va_runS (As := [.int ((S.2.2.1 3) x1_4.toNatClampNeg)]) (rest := [.int r4]) ⟨hx, hb, hml, hown, hts⟩ (c_X7_suit l G c3 (tk_M c3 q S) ((S.2.2.1 3) x1_4.toNatClampNeg) r8 h9 H.size) (va_cwS 1 hts gX7_best_X7_suit rfl rfl rfl hs_X7_suit ⟨Nat.le_of_ble_eq_true rfl, Nat.le_of_ble_eq_true rfl⟩) (tk_pS hE hP hD) rfl rfl hl.1 rfl (lv_room (Nat.le_of_ble_eq_true rfl)) dX7_best_27 ⟨Nat.zero_le _, Nat.zero_le _⟩) hD hS hA (fun H locs hP hD hS => ?_)
        refine lv_icmp_ne (tgt := 56) hx hb dX7_best_30 (by decide) (fun h11 => ?_) (fun h11 => ?_)
        · have hf := tk_neg hf h11
          refine lv_aload_n hx hb dX7_best_56 rfl (lv_at hl 0 rfl) ?_
          refine va_get (D := G) (ci := 7) (v := .ref (q 22)) (C := RX7) (T := TX7) (N := 29) hx hb hts i_X7_best_X7 hown hE.1 hP 0 rfl rfl 21 (by decide) (hts _ m_X7_best_f46) (fun _ h9 => h9) rfl dX7_best_57 ?_
          refine lv_iload_n hx hb dX7_best_60 rfl (lv_at hl 2 rfl) ?_
          obtain ⟨h12, hf⟩ := tk_ok hf
          refine va_iald (f := (S.2.2.1 3)) hx hb hE.1 hP 5 0 rfl rfl h12 dX7_best_61 ?_
          obtain ⟨r13, h14, hf⟩ := tk_b1s hf
          refine tk_ci (ws' := (tk_M c3 q S)) (va_runS (As := [.int ((S.2.2.1 3) x2_4.toNatClampNeg)]) (rest := []) ⟨hx, hb, hml, hown, hts⟩ (c_X7_suit l G c3 (tk_M c3 q S) ((S.2.2.1 3) x2_4.toNatClampNeg) r13 h14 H.size) (va_cwS 1 hts gX7_best_X7_suit rfl rfl rfl hs_X7_suit ⟨Nat.le_of_ble_eq_true rfl, Nat.le_of_ble_eq_true rfl⟩) (tk_pS hE hP hD) rfl rfl hl.1 rfl (lv_room (Nat.le_of_ble_eq_true rfl)) dX7_best_62 ⟨Nat.zero_le _, Nat.zero_le _⟩) hD hS hA (fun H locs hP hD hS => ?_)
          refine lv_iconst (v := 4) hx hb dX7_best_65 (by decide) ?_
          refine lv_icmp_ne (tgt := 73) hx hb dX7_best_66 (by decide) (fun h16 => ?_) (fun h16 => ?_)
          · have hf := tk_neg hf h16
            refine lv_iconst (v := 0) hx hb dX7_best_73 (by decide) ?_
            exact J_74 x1_4 x2_4 (0 : Int32) H locs hP hD hS ls (lv_sub hl [0, 1, 2] rfl) hf
          · have hf := tk_pos hf h16
            refine lv_iconst (v := 1) hx hb dX7_best_69 (by decide) ?_
            refine lv_goto (tgt := 74) hx hb dX7_best_70 (by decide) ?_
            exact J_74 x1_4 x2_4 (1 : Int32) H locs hP hD hS ls (lv_sub hl [0, 1, 2] rfl) hf
        · have hf := tk_pos hf h11
          refine lv_aload_n hx hb dX7_best_33 rfl (lv_at hl 0 rfl) ?_
          refine va_get (D := G) (ci := 7) (v := .ref (q 22)) (C := RX7) (T := TX7) (N := 29) hx hb hts i_X7_best_X7 hown hE.1 hP 0 rfl rfl 21 (by decide) (hts _ m_X7_best_f46) (fun _ h9 => h9) rfl dX7_best_34 ?_
          refine lv_iload_n hx hb dX7_best_37 rfl (lv_at hl 2 rfl) ?_
          obtain ⟨h17, hf⟩ := tk_ok hf
          refine va_iald (f := (S.2.2.1 3)) hx hb hE.1 hP 5 0 rfl rfl h17 dX7_best_38 ?_
          refine lv_aload_n hx hb dX7_best_39 rfl (lv_at hl 0 rfl) ?_
          refine va_get (D := G) (ci := 7) (v := .ref (q 22)) (C := RX7) (T := TX7) (N := 29) hx hb hts i_X7_best_X7 hown hE.1 hP 0 rfl rfl 21 (by decide) (hts _ m_X7_best_f46) (fun _ h9 => h9) rfl dX7_best_40 ?_
          refine lv_iload_n hx hb dX7_best_43 rfl (lv_at hl 1 rfl) ?_
          obtain ⟨h18, hf⟩ := tk_ok hf
          refine va_iald (f := (S.2.2.1 3)) hx hb hE.1 hP 5 0 rfl rfl h18 dX7_best_44 ?_
          refine lv_icmp_le (tgt := 52) hx hb dX7_best_45 (by decide) (fun h19 => ?_) (fun h19 => ?_)
          · have hf := tk_pos hf h19
            refine lv_iconst (v := 0) hx hb dX7_best_52 (by decide) ?_
            refine lv_goto (tgt := 74) hx hb dX7_best_53 (by decide) ?_
            exact J_74 x1_4 x2_4 (0 : Int32) H locs hP hD hS ls (lv_sub hl [0, 1, 2] rfl) hf
          · have hf := tk_neg hf h19
            refine lv_iconst (v := 1) hx hb dX7_best_48 (by decide) ?_
            refine lv_goto (tgt := 74) hx hb dX7_best_49 (by decide) ?_
            exact J_74 x1_4 x2_4 (1 : Int32) H locs hP hD hS ls (lv_sub hl [0, 1, 2] rfl) hf
  unfold f_X7_best at hf
  refine lv_iconst (v := 0) hx hb dX7_best_0 (by decide) ?_
  refine lv_istore_n (lv' := [(1, .int (0 : Int32)), (0, .ref (q 17))]) hx hb dX7_best_1 rfl hl (by decide) rfl (fun ls hl => ?_)
  refine lv_iconst (v := 1) hx hb dX7_best_2 (by decide) ?_
  refine lv_istore_n (lv' := [(2, .int (1 : Int32)), (1, .int (0 : Int32)), (0, .ref (q 17))]) hx hb dX7_best_3 rfl hl (by decide) rfl (fun ls hl => ?_)
  exact J_4 64 (0 : Int32) (1 : Int32) H locs hP hD hS ls (lv_sub hl [2, 1, 0] rfl) hf
abbrev rm_X7_sideOf : Room := { frames := 0, cells := 0, slots := 0, locals := 0 }
set_option maxHeartbeats 4000000 in
set_option maxRecDepth 100000 in
theorem c_X7_sideOf (l : Launch) (G : va_G) (c3 : ClassId × ClassId × ClassId) (q : Nat → Nat) (S : tk_ST) (p0 : Int32) (r0 : Int32) (hf : f_X7_sideOf p0 S = some r0) : tk_Mi l yX7_sideOf wsX7_sideOf rm_X7_sideOf G c3 [.ref (q 17), .int p0] (tk_M c3 q S) (tk_M c3 q S) r0 := by
  refine tk_ofi (cc := cX7_sideOf) (maxL := 2) (ret := some .int) (by decide) rfl (Nat.le_of_ble_eq_true rfl) ?_
  intro p e s m below meth c A Q ls H locs hx hb hml hr hts hown hlocks hE hA hP hD hS hZ hQ hl
  have hl : lv_has ls 2 [(0, .ref (q 17)), (1, .int p0)] := hl
  have hown : s.vm.findClass RX7 = some m.cls := hown
  have J_24 : ∀ (H : Heap) (locs : List Loc) (_ : va_P G vwCl (tk_M c3 q S) H) (_ : va_D A (tk_M c3 q S)) (_ : va_S A s.heap H locs) (ls : Array Slot) (_ : lv_has ls 2 []) (_ : f_X7_sideOf_24 S = some r0), W p l e rm_X7_sideOf s m ([.ref (q 17), .int p0] : List Value).toArray below meth c H locs 0 0 Q (F0 m 24 ls []) := by
    intro  H locs hP hD hS ls hl hf
    unfold f_X7_sideOf_24 at hf
    refine lv_iconst (v := 0) hx hb dX7_sideOf_24 (by decide) ?_
    refine lv_goto (tgt := 29) hx hb dX7_sideOf_25 (by decide) ?_
    exact tk_ri hQ (tk_s1 hf) rfl hx hb hr hlocks hP hD hS dX7_sideOf_29
  unfold f_X7_sideOf at hf
  refine lv_iload_n hx hb dX7_sideOf_0 rfl (lv_at hl 1 rfl) ?_
  refine lv_aload_n hx hb dX7_sideOf_1 rfl (lv_at hl 0 rfl) ?_
  refine va_get (D := G) (ci := 7) (v := .int (S.1 8)) (C := RX7) (T := TX7) (N := 29) hx hb hts i_X7_sideOf_X7 hown hE.1 hP 0 rfl rfl 11 (by decide) (hts _ m_X7_sideOf_f31) (fun _ h9 => h9) rfl dX7_sideOf_2 ?_
  refine lv_icmp_eq (tgt := 24) hx hb dX7_sideOf_5 (by decide) (fun h1 => ?_) (fun h1 => ?_)
  · have hf := tk_pos hf h1
    exact J_24 H locs hP hD hS ls (lv_sub hl [] rfl) hf
  · have hf := tk_neg hf h1
    refine lv_iload_n hx hb dX7_sideOf_8 rfl (lv_at hl 1 rfl) ?_
    refine lv_aload_n hx hb dX7_sideOf_9 rfl (lv_at hl 0 rfl) ?_
    refine va_get (D := G) (ci := 7) (v := .int (S.1 10)) (C := RX7) (T := TX7) (N := 29) hx hb hts i_X7_sideOf_X7 hown hE.1 hP 0 rfl rfl 13 (by decide) (hts _ m_X7_sideOf_f37) (fun _ h9 => h9) rfl dX7_sideOf_10 ?_
    refine lv_icmp_ne (tgt := 28) hx hb dX7_sideOf_13 (by decide) (fun h2 => ?_) (fun h2 => ?_)
    · have hf := tk_neg hf h2
      refine lv_iconst (v := 1) hx hb dX7_sideOf_28 (by decide) ?_
      exact tk_ri hQ (tk_s1 hf) rfl hx hb hr hlocks hP hD hS dX7_sideOf_29
    · have hf := tk_pos hf h2
      refine lv_aload_n hx hb dX7_sideOf_16 rfl (lv_at hl 0 rfl) ?_
      refine va_get (D := G) (ci := 7) (v := .int (S.1 10)) (C := RX7) (T := TX7) (N := 29) hx hb hts i_X7_sideOf_X7 hown hE.1 hP 0 rfl rfl 13 (by decide) (hts _ m_X7_sideOf_f37) (fun _ h9 => h9) rfl dX7_sideOf_17 ?_
      refine lv_iconst (v := -1) hx hb dX7_sideOf_20 (by decide) ?_
      refine lv_icmp_eq (tgt := 28) hx hb dX7_sideOf_21 (by decide) (fun h3 => ?_) (fun h3 => ?_)
      · have hf := tk_pos hf h3
        refine lv_iconst (v := 1) hx hb dX7_sideOf_28 (by decide) ?_
        exact tk_ri hQ (tk_s1 hf) rfl hx hb hr hlocks hP hD hS dX7_sideOf_29
      · have hf := tk_neg hf h3
        exact J_24 H locs hP hD hS ls (lv_sub hl [] rfl) hf
abbrev rm_X7_cardsOf : Room := { frames := 1, cells := 0, slots := 0, locals := 21 }
set_option maxHeartbeats 4000000 in
set_option maxRecDepth 100000 in
theorem c_X7_cardsOf (l : Launch) (G : va_G) (c3 : ClassId × ClassId × ClassId) (q : Nat → Nat) (S : tk_ST) (p0 : Int32) (r0 : Int64) (hf : f_X7_cardsOf p0 S = some r0) : tk_Ml l yX7_cardsOf wsX7_cardsOf rm_X7_cardsOf G c3 [.ref (q 17), .int p0] (tk_M c3 q S) (tk_M c3 q S) r0 := by
  refine tk_ofl (cc := cX7_cardsOf) (maxL := 5) (ret := some .long) (by decide) rfl (Nat.le_of_ble_eq_true rfl) ?_
  intro p e s m below meth c A Q ls H locs hx hb hml hr hts hown hlocks hE hA hP hD hS hZ hQ hl
  have hl : lv_has ls 5 [(0, .ref (q 17)), (1, .int p0)] := hl
  have hown : s.vm.findClass RX7 = some m.cls := hown
  have J_19 : ∀ (n_19 : Nat), ∀ (x1_19 : Int32) (x2_19 : Int64) (x4_19 : Int32) (H : Heap) (locs : List Loc) (_ : va_P G vwCl (tk_M c3 q S) H) (_ : va_D A (tk_M c3 q S)) (_ : va_S A s.heap H locs) (ls : Array Slot) (_ : lv_has ls 5 [(0, .ref (q 17)), (1, .int x1_19), (2, .long x2_19), (4, .int x4_19)]) (_ : f_X7_cardsOf_19 n_19 x1_19 x2_19 x4_19 S = some r0), W p l e rm_X7_cardsOf s m ([.ref (q 17), .int p0] : List Value).toArray below meth c H locs 0 0 Q (F0 m 19 ls []) := by
    intro n_19
    induction n_19 with
    | zero =>
      intro x1_19 x2_19 x4_19 H locs hP hD hS ls hl hf
      exact absurd hf (by intro h9; cases h9)
    | succ n_19 ih_19 =>
      have J_47 : ∀ (x1_47 : Int32) (x4_47 : Int32) (k0_47 : Int64) (k1_47 : Int64) (H : Heap) (locs : List Loc) (_ : va_P G vwCl (tk_M c3 q S) H) (_ : va_D A (tk_M c3 q S)) (_ : va_S A s.heap H locs) (ls : Array Slot) (_ : lv_has ls 5 [(0, .ref (q 17)), (1, .int x1_47), (4, .int x4_47)]) (_ : f_X7_cardsOf_47 (f_X7_cardsOf_19 n_19) x1_47 x4_47 k0_47 k1_47 S = some r0), W p l e rm_X7_cardsOf s m ([.ref (q 17), .int p0] : List Value).toArray below meth c H locs 0 0 Q (F0 m 47 ls [.long k1_47, .long k0_47]) := by
        intro x1_47 x4_47 k0_47 k1_47 H locs hP hD hS ls hl hf
        unfold f_X7_cardsOf_47 at hf
        refine lv_lor hx hb dX7_cardsOf_47 ?_
        refine lv_lstore_n (lv' := [(2, .long (k0_47 ||| k1_47)), (0, .ref (q 17)), (1, .int x1_47), (4, .int x4_47)]) hx hb dX7_cardsOf_48 rfl hl (by decide) rfl (fun ls hl => ?_)
        refine lv_iinc (v := (x4_47 + (1 : Int32))) (lv' := [(4, .int (x4_47 + (1 : Int32))), (2, .long (k0_47 ||| k1_47)), (0, .ref (q 17)), (1, .int x1_47)]) hx hb dX7_cardsOf_49 hl (k := 3) rfl rfl (by decide) rfl (fun ls hl => ?_)
        refine lv_goto (tgt := 19) hx hb dX7_cardsOf_52 (by decide) ?_
        exact ih_19 x1_47 (k0_47 ||| k1_47) (x4_47 + (1 : Int32)) H locs hP hD hS ls (lv_sub hl [2, 3, 1, 0] rfl) hf
      intro x1_19 x2_19 x4_19 H locs hP hD hS ls hl hf
      rw [f_X7_cardsOf_19_s] at hf
      refine lv_iload hx hb dX7_cardsOf_19 (lv_at hl 3 rfl) ?_
      refine lv_iconst (v := 4) hx hb dX7_cardsOf_21 (by decide) ?_
      refine lv_icmp_ge (tgt := 55) hx hb dX7_cardsOf_22 (by decide) (fun h1 => ?_) (fun h1 => ?_)
      · have hf := tk_pos hf h1
        refine lv_aload_n hx hb dX7_cardsOf_55 rfl (lv_at hl 0 rfl) ?_
        refine va_get (D := G) (ci := 7) (v := .int (S.1 14)) (C := RX7) (T := TX7) (N := 29) hx hb hts i_X7_cardsOf_X7 hown hE.1 hP 0 rfl rfl 19 (by decide) (hts _ m_X7_cardsOf_f98) (fun _ h9 => h9) rfl dX7_cardsOf_56 ?_
        refine lv_if_eq (tgt := 66) hx hb dX7_cardsOf_59 (by decide) (fun h2 => ?_) (fun h2 => ?_)
        · have hf := tk_pos hf h2
          refine lv_lconst (v := 0) hx hb dX7_cardsOf_66 (by decide) ?_
          exact tk_rl hQ (tk_s1 hf) rfl hx hb hr hlocks hP hD hS dX7_cardsOf_67
        · have hf := tk_neg hf h2
          refine lv_lload_n hx hb dX7_cardsOf_62 rfl (lv_at hl 2 rfl) ?_
          refine lv_goto (tgt := 67) hx hb dX7_cardsOf_63 (by decide) ?_
          exact tk_rl hQ (tk_s1 hf) rfl hx hb hr hlocks hP hD hS dX7_cardsOf_67
      · have hf := tk_neg hf h1
        refine lv_lload_n hx hb dX7_cardsOf_25 rfl (lv_at hl 2 rfl) ?_
        refine lv_aload_n hx hb dX7_cardsOf_26 rfl (lv_at hl 0 rfl) ?_
        refine lv_iload hx hb dX7_cardsOf_27 (lv_at hl 3 rfl) ?_
        obtain ⟨r3, h4, hf⟩ := tk_b1s hf
        refine tk_ci (ws' := (tk_M c3 q S)) (va_runV (As := [.int x4_19]) (rest := [.long x2_19]) ⟨hx, hb, hml, hown, hts⟩ (c_X7_sideOf l G c3 q S x4_19 r3 h4 H.size) (cwV 1 hts gX7_cardsOf_X7_sideOf rfl rfl rfl hv_X7_sideOf ⟨Nat.le_of_ble_eq_true rfl, Nat.le_of_ble_eq_true rfl⟩) (tk_pV hE hP hD 0 rfl rfl) rfl rfl hl.1 rfl (lv_room (Nat.le_of_ble_eq_true rfl)) dX7_cardsOf_29 ⟨Nat.zero_le _, Nat.zero_le _⟩) hD hS hA (fun H locs hP hD hS => ?_)
        refine lv_iload_n hx hb dX7_cardsOf_32 rfl (lv_at hl 1 rfl) ?_
        refine lv_icmp_ne (tgt := 46) hx hb dX7_cardsOf_33 (by decide) (fun h6 => ?_) (fun h6 => ?_)
        · have hf := tk_neg hf h6
          refine lv_lconst (v := 0) hx hb dX7_cardsOf_46 (by decide) ?_
          exact J_47 x1_19 x4_19 x2_19 (0 : Int64) H locs hP hD hS ls (lv_sub hl [0, 1, 3] rfl) hf
        · have hf := tk_pos hf h6
          refine lv_aload_n hx hb dX7_cardsOf_36 rfl (lv_at hl 0 rfl) ?_
          refine va_get (D := G) (ci := 7) (v := .ref (q 23)) (C := RX7) (T := TX7) (N := 29) hx hb hts i_X7_cardsOf_X7 hown hE.1 hP 0 rfl rfl 25 (by decide) (hts _ m_X7_cardsOf_f49) (fun _ h9 => h9) rfl dX7_cardsOf_37 ?_
          refine lv_iload hx hb dX7_cardsOf_40 (lv_at hl 3 rfl) ?_
          obtain ⟨h7, hf⟩ := tk_ok hf
          refine va_lald (f := (S.2.2.2 1)) hx hb hE.1 hP 6 1 rfl rfl h7 dX7_cardsOf_42 ?_
          refine lv_goto (tgt := 47) hx hb dX7_cardsOf_43 (by decide) ?_
          exact J_47 x1_19 x4_19 x2_19 ((S.2.2.2 1) x4_19.toNatClampNeg) H locs hP hD hS ls (lv_sub hl [0, 1, 3] rfl) hf
  have J_15 : ∀ (x1_15 : Int32) (k0_15 : Int64) (H : Heap) (locs : List Loc) (_ : va_P G vwCl (tk_M c3 q S) H) (_ : va_D A (tk_M c3 q S)) (_ : va_S A s.heap H locs) (ls : Array Slot) (_ : lv_has ls 5 [(0, .ref (q 17)), (1, .int x1_15)]) (_ : f_X7_cardsOf_15 x1_15 k0_15 S = some r0), W p l e rm_X7_cardsOf s m ([.ref (q 17), .int p0] : List Value).toArray below meth c H locs 0 0 Q (F0 m 15 ls [.long k0_15]) := by
    intro x1_15 k0_15 H locs hP hD hS ls hl hf
    unfold f_X7_cardsOf_15 at hf
    refine lv_lstore_n (lv' := [(2, .long k0_15), (0, .ref (q 17)), (1, .int x1_15)]) hx hb dX7_cardsOf_15 rfl hl (by decide) rfl (fun ls hl => ?_)
    refine lv_iconst (v := 0) hx hb dX7_cardsOf_16 (by decide) ?_
    refine lv_istore (lv' := [(4, .int (0 : Int32)), (2, .long k0_15), (0, .ref (q 17)), (1, .int x1_15)]) hx hb dX7_cardsOf_17 hl (by decide) rfl (fun ls hl => ?_)
    exact J_19 64 x1_15 k0_15 (0 : Int32) H locs hP hD hS ls (lv_sub hl [2, 3, 1, 0] rfl) hf
  unfold f_X7_cardsOf at hf
  refine lv_iload_n hx hb dX7_cardsOf_0 rfl (lv_at hl 1 rfl) ?_
  refine lv_if_ne (tgt := 11) hx hb dX7_cardsOf_1 (by decide) (fun h8 => ?_) (fun h8 => ?_)
  · have hf := tk_neg hf h8
    refine lv_aload_n hx hb dX7_cardsOf_11 rfl (lv_at hl 0 rfl) ?_
    refine va_get (D := G) (ci := 7) (v := .long (S.2.1 1)) (C := RX7) (T := TX7) (N := 29) hx hb hts i_X7_cardsOf_X7 hown hE.1 hP 0 rfl rfl 18 (by decide) (hts _ m_X7_cardsOf_f95) (fun _ h9 => h9) rfl dX7_cardsOf_12 ?_
    exact J_15 p0 (S.2.1 1) H locs hP hD hS ls (lv_sub hl [0, 1] rfl) hf
  · have hf := tk_pos hf h8
    refine lv_aload_n hx hb dX7_cardsOf_4 rfl (lv_at hl 0 rfl) ?_
    refine va_get (D := G) (ci := 7) (v := .long (S.2.1 0)) (C := RX7) (T := TX7) (N := 29) hx hb hts i_X7_cardsOf_X7 hown hE.1 hP 0 rfl rfl 17 (by decide) (hts _ m_X7_cardsOf_f91) (fun _ h9 => h9) rfl dX7_cardsOf_5 ?_
    refine lv_goto (tgt := 15) hx hb dX7_cardsOf_8 (by decide) ?_
    exact J_15 p0 (S.2.1 0) H locs hP hD hS ls (lv_sub hl [0, 1] rfl) hf
abbrev rm_X7_counted : Room := { frames := 2, cells := 0, slots := 0, locals := 45 }
set_option maxHeartbeats 4000000 in
set_option maxRecDepth 100000 in
theorem c_X7_counted (l : Launch) (G : va_G) (c3 : ClassId × ClassId × ClassId) (q : Nat → Nat) (S : tk_ST) (p0 : Int32) (r0 : Int32) (hf : f_X7_counted p0 S = some r0) : tk_Mi l yX7_counted wsX7_counted rm_X7_counted G c3 [.ref (q 17), .int p0] (tk_M c3 q S) (tk_M c3 q S) r0 := by
  refine tk_ofi (cc := cX7_counted) (maxL := 4) (ret := some .int) (by decide) rfl (Nat.le_of_ble_eq_true rfl) ?_
  intro p e s m below meth c A Q ls H locs hx hb hml hr hts hown hlocks hE hA hP hD hS hZ hQ hl
  have hl : lv_has ls 4 [(0, .ref (q 17)), (1, .int p0)] := hl
  have hown : s.vm.findClass RX7 = some m.cls := hown
  have J_4 : ∀ (n_4 : Nat), ∀ (x1_4 : Int32) (x2_4 : Int32) (x3_4 : Int32) (H : Heap) (locs : List Loc) (_ : va_P G vwCl (tk_M c3 q S) H) (_ : va_D A (tk_M c3 q S)) (_ : va_S A s.heap H locs) (ls : Array Slot) (_ : lv_has ls 4 [(0, .ref (q 17)), (1, .int x1_4), (2, .int x2_4), (3, .int x3_4)]) (_ : f_X7_counted_4 n_4 x1_4 x2_4 x3_4 S = some r0), W p l e rm_X7_counted s m ([.ref (q 17), .int p0] : List Value).toArray below meth c H locs 0 0 Q (F0 m 4 ls []) := by
    intro n_4
    induction n_4 with
    | zero =>
      intro x1_4 x2_4 x3_4 H locs hP hD hS ls hl hf
      exact absurd hf (by intro h9; cases h9)
    | succ n_4 ih_4 =>
      have J_35 : ∀ (x1_35 : Int32) (x3_35 : Int32) (k0_35 : Int32) (k1_35 : Int32) (H : Heap) (locs : List Loc) (_ : va_P G vwCl (tk_M c3 q S) H) (_ : va_D A (tk_M c3 q S)) (_ : va_S A s.heap H locs) (ls : Array Slot) (_ : lv_has ls 4 [(0, .ref (q 17)), (1, .int x1_35), (3, .int x3_35)]) (_ : f_X7_counted_35 (f_X7_counted_4 n_4) x1_35 x3_35 k0_35 k1_35 S = some r0), W p l e rm_X7_counted s m ([.ref (q 17), .int p0] : List Value).toArray below meth c H locs 0 0 Q (F0 m 35 ls [.int k1_35, .int k0_35]) := by
        intro x1_35 x3_35 k0_35 k1_35 H locs hP hD hS ls hl hf
        unfold f_X7_counted_35 at hf
        refine lv_iadd hx hb dX7_counted_35 ?_
        refine lv_istore_n (lv' := [(2, .int (k0_35 + k1_35)), (0, .ref (q 17)), (1, .int x1_35), (3, .int x3_35)]) hx hb dX7_counted_36 rfl hl (by decide) rfl (fun ls hl => ?_)
        refine lv_iinc (v := (x3_35 + (1 : Int32))) (lv' := [(3, .int (x3_35 + (1 : Int32))), (2, .int (k0_35 + k1_35)), (0, .ref (q 17)), (1, .int x1_35)]) hx hb dX7_counted_37 hl (k := 3) rfl rfl (by decide) rfl (fun ls hl => ?_)
        refine lv_goto (tgt := 4) hx hb dX7_counted_40 (by decide) ?_
        exact ih_4 x1_35 (k0_35 + k1_35) (x3_35 + (1 : Int32)) H locs hP hD hS ls (lv_sub hl [2, 3, 1, 0] rfl) hf
      intro x1_4 x2_4 x3_4 H locs hP hD hS ls hl hf
      rw [f_X7_counted_4_s] at hf
      refine lv_iload_n hx hb dX7_counted_4 rfl (lv_at hl 3 rfl) ?_
      refine lv_bipush (v := 54) hx hb dX7_counted_5 (by decide) ?_
      refine lv_icmp_ge (tgt := 43) hx hb dX7_counted_7 (by decide) (fun h1 => ?_) (fun h1 => ?_)
      · have hf := tk_pos hf h1
        refine lv_iload_n hx hb dX7_counted_43 rfl (lv_at hl 2 rfl) ?_
        exact tk_ri hQ (tk_s1 hf) rfl hx hb hr hlocks hP hD hS dX7_counted_44
      · have hf := tk_neg hf h1
        refine lv_iload_n hx hb dX7_counted_10 rfl (lv_at hl 2 rfl) ?_
        refine lv_aload_n hx hb dX7_counted_11 rfl (lv_at hl 0 rfl) ?_
        refine lv_iload_n hx hb dX7_counted_12 rfl (lv_at hl 1 rfl) ?_
        obtain ⟨r2, h3, hf⟩ := tk_b1s hf
        refine tk_cl (ws' := (tk_M c3 q S)) (va_runV (As := [.int x1_4]) (rest := [.int x2_4]) ⟨hx, hb, hml, hown, hts⟩ (c_X7_cardsOf l G c3 q S x1_4 r2 h3 H.size) (cwV 1 hts gX7_counted_X7_cardsOf rfl rfl rfl hv_X7_cardsOf ⟨Nat.le_of_ble_eq_true rfl, Nat.le_of_ble_eq_true rfl⟩) (tk_pV hE hP hD 0 rfl rfl) rfl rfl hl.1 rfl (lv_room (Nat.le_of_ble_eq_true rfl)) dX7_counted_13 ⟨Nat.zero_le _, Nat.zero_le _⟩) hD hS hA (fun H locs hP hD hS => ?_)
        refine lv_iload_n hx hb dX7_counted_16 rfl (lv_at hl 3 rfl) ?_
        obtain ⟨r5, h6, hf⟩ := tk_b1s hf
        refine tk_ci (ws' := (tk_M c3 q S)) (va_runS (As := [.long r2, .int x3_4]) (rest := [.int x2_4]) ⟨hx, hb, hml, hown, hts⟩ (c_X7_has l G c3 (tk_M c3 q S) r2 x3_4 r5 h6 H.size) (va_cwS 2 hts gX7_counted_X7_has rfl rfl rfl hs_X7_has ⟨Nat.le_of_ble_eq_true rfl, Nat.le_of_ble_eq_true rfl⟩) (tk_pS hE hP hD) rfl rfl hl.1 rfl (lv_room (Nat.le_of_ble_eq_true rfl)) dX7_counted_17 ⟨Nat.zero_le _, Nat.zero_le _⟩) hD hS hA (fun H locs hP hD hS => ?_)
        refine lv_if_eq (tgt := 34) hx hb dX7_counted_20 (by decide) (fun h8 => ?_) (fun h8 => ?_)
        · have hf := tk_pos hf h8
          refine lv_iconst (v := 0) hx hb dX7_counted_34 (by decide) ?_
          exact J_35 x1_4 x3_4 x2_4 (0 : Int32) H locs hP hD hS ls (lv_sub hl [0, 1, 3] rfl) hf
        · have hf := tk_neg hf h8
          refine lv_iconst (v := 3) hx hb dX7_counted_23 (by decide) ?_
          refine lv_iload_n hx hb dX7_counted_24 rfl (lv_at hl 3 rfl) ?_
          obtain ⟨r9, h10, hf⟩ := tk_b1s hf
          refine tk_ci (ws' := (tk_M c3 q S)) (va_runS (As := [.int x3_4]) (rest := [.int (3 : Int32), .int x2_4]) ⟨hx, hb, hml, hown, hts⟩ (c_X7_worth l G c3 (tk_M c3 q S) x3_4 r9 h10 H.size) (va_cwS 1 hts gX7_counted_X7_worth rfl rfl rfl hs_X7_worth ⟨Nat.le_of_ble_eq_true rfl, Nat.le_of_ble_eq_true rfl⟩) (tk_pS hE hP hD) rfl rfl hl.1 rfl (lv_room (Nat.le_of_ble_eq_true rfl)) dX7_counted_25 ⟨Nat.zero_le _, Nat.zero_le _⟩) hD hS hA (fun H locs hP hD hS => ?_)
          refine lv_imul hx hb dX7_counted_28 ?_
          refine lv_iconst (v := 2) hx hb dX7_counted_29 (by decide) ?_
          refine lv_isub hx hb dX7_counted_30 ?_
          refine lv_goto (tgt := 35) hx hb dX7_counted_31 (by decide) ?_
          exact J_35 x1_4 x3_4 x2_4 (((3 : Int32) * r9) - (2 : Int32)) H locs hP hD hS ls (lv_sub hl [0, 1, 3] rfl) hf
  unfold f_X7_counted at hf
  refine lv_iconst (v := 0) hx hb dX7_counted_0 (by decide) ?_
  refine lv_istore_n (lv' := [(2, .int (0 : Int32)), (0, .ref (q 17)), (1, .int p0)]) hx hb dX7_counted_1 rfl hl (by decide) rfl (fun ls hl => ?_)
  refine lv_iconst (v := 0) hx hb dX7_counted_2 (by decide) ?_
  refine lv_istore_n (lv' := [(3, .int (0 : Int32)), (2, .int (0 : Int32)), (0, .ref (q 17)), (1, .int p0)]) hx hb dX7_counted_3 rfl hl (by decide) rfl (fun ls hl => ?_)
  exact J_4 64 p0 (0 : Int32) (0 : Int32) H locs hP hD hS ls (lv_sub hl [2, 3, 1, 0] rfl) hf
abbrev rm_X7_placeOf : Room := { frames := 0, cells := 0, slots := 0, locals := 0 }
set_option maxHeartbeats 4000000 in
set_option maxRecDepth 100000 in
theorem c_X7_placeOf (l : Launch) (G : va_G) (c3 : ClassId × ClassId × ClassId) (q : Nat → Nat) (S : tk_ST) (p0 : Int32) (r0 : Int32) (hf : f_X7_placeOf p0 S = some r0) : tk_Mi l yX7_placeOf wsX7_placeOf rm_X7_placeOf G c3 [.ref (q 17), .int p0] (tk_M c3 q S) (tk_M c3 q S) r0 := by
  refine tk_ofi (cc := cX7_placeOf) (maxL := 3) (ret := some .int) (by decide) rfl (Nat.le_of_ble_eq_true rfl) ?_
  intro p e s m below meth c A Q ls H locs hx hb hml hr hts hown hlocks hE hA hP hD hS hZ hQ hl
  have hl : lv_has ls 3 [(0, .ref (q 17)), (1, .int p0)] := hl
  have hown : s.vm.findClass RX7 = some m.cls := hown
  have J_2 : ∀ (n_2 : Nat), ∀ (x1_2 : Int32) (x2_2 : Int32) (H : Heap) (locs : List Loc) (_ : va_P G vwCl (tk_M c3 q S) H) (_ : va_D A (tk_M c3 q S)) (_ : va_S A s.heap H locs) (ls : Array Slot) (_ : lv_has ls 3 [(0, .ref (q 17)), (1, .int x1_2), (2, .int x2_2)]) (_ : f_X7_placeOf_2 n_2 x1_2 x2_2 S = some r0), W p l e rm_X7_placeOf s m ([.ref (q 17), .int p0] : List Value).toArray below meth c H locs 0 0 Q (F0 m 2 ls []) := by
    intro n_2
    induction n_2 with
    | zero =>
      intro x1_2 x2_2 H locs hP hD hS ls hl hf
      exact absurd hf (by intro h9; cases h9)
    | succ n_2 ih_2 =>
      intro x1_2 x2_2 H locs hP hD hS ls hl hf
      rw [f_X7_placeOf_2_s] at hf
      refine lv_iload_n hx hb dX7_placeOf_2 rfl (lv_at hl 2 rfl) ?_
      refine lv_aload_n hx hb dX7_placeOf_3 rfl (lv_at hl 0 rfl) ?_
      refine va_get (D := G) (ci := 7) (v := .int (S.1 15)) (C := RX7) (T := TX7) (N := 29) hx hb hts i_X7_placeOf_X7 hown hE.1 hP 0 rfl rfl 22 (by decide) (hts _ m_X7_placeOf_f101) (fun _ h9 => h9) rfl dX7_placeOf_4 ?_
      refine lv_icmp_ge (tgt := 28) hx hb dX7_placeOf_7 (by decide) (fun h1 => ?_) (fun h1 => ?_)
      · have hf := tk_pos hf h1
        refine lv_iconst (v := -1) hx hb dX7_placeOf_28 (by decide) ?_
        exact tk_ri hQ (tk_s1 hf) rfl hx hb hr hlocks hP hD hS dX7_placeOf_29
      · have hf := tk_neg hf h1
        refine lv_aload_n hx hb dX7_placeOf_10 rfl (lv_at hl 0 rfl) ?_
        refine va_get (D := G) (ci := 7) (v := .ref (q 22)) (C := RX7) (T := TX7) (N := 29) hx hb hts i_X7_placeOf_X7 hown hE.1 hP 0 rfl rfl 21 (by decide) (hts _ m_X7_placeOf_f46) (fun _ h9 => h9) rfl dX7_placeOf_11 ?_
        refine lv_iload_n hx hb dX7_placeOf_14 rfl (lv_at hl 2 rfl) ?_
        obtain ⟨h2, hf⟩ := tk_ok hf
        refine va_iald (f := (S.2.2.1 3)) hx hb hE.1 hP 5 0 rfl rfl h2 dX7_placeOf_15 ?_
        refine lv_iload_n hx hb dX7_placeOf_16 rfl (lv_at hl 1 rfl) ?_
        refine lv_icmp_ne (tgt := 22) hx hb dX7_placeOf_17 (by decide) (fun h3 => ?_) (fun h3 => ?_)
        · have hf := tk_neg hf h3
          refine lv_iinc (v := (x2_2 + (1 : Int32))) (lv' := [(2, .int (x2_2 + (1 : Int32))), (0, .ref (q 17)), (1, .int x1_2)]) hx hb dX7_placeOf_22 hl (k := 2) rfl rfl (by decide) rfl (fun ls hl => ?_)
          refine lv_goto (tgt := 2) hx hb dX7_placeOf_25 (by decide) ?_
          exact ih_2 x1_2 (x2_2 + (1 : Int32)) H locs hP hD hS ls (lv_sub hl [1, 2, 0] rfl) hf
        · have hf := tk_pos hf h3
          refine lv_iload_n hx hb dX7_placeOf_20 rfl (lv_at hl 2 rfl) ?_
          exact tk_ri hQ (tk_s1 hf) rfl hx hb hr hlocks hP hD hS dX7_placeOf_21
  unfold f_X7_placeOf at hf
  refine lv_iconst (v := 0) hx hb dX7_placeOf_0 (by decide) ?_
  refine lv_istore_n (lv' := [(2, .int (0 : Int32)), (0, .ref (q 17)), (1, .int p0)]) hx hb dX7_placeOf_1 rfl hl (by decide) rfl (fun ls hl => ?_)
  exact J_2 64 p0 (0 : Int32) H locs hP hD hS ls (lv_sub hl [1, 2, 0] rfl) hf
abbrev rm_X7_pagatCount : Room := { frames := 2, cells := 0, slots := 0, locals := 43 }
set_option maxHeartbeats 4000000 in
set_option maxRecDepth 100000 in
theorem c_X7_pagatCount (l : Launch) (G : va_G) (c3 : ClassId × ClassId × ClassId) (q : Nat → Nat) (S : tk_ST) (r0 : Int32) (hf : f_X7_pagatCount S = some r0) : tk_Mi l yX7_pagatCount wsX7_pagatCount rm_X7_pagatCount G c3 [.ref (q 17)] (tk_M c3 q S) (tk_M c3 q S) r0 := by
  refine tk_ofi (cc := cX7_pagatCount) (maxL := 4) (ret := some .int) (by decide) rfl (Nat.le_of_ble_eq_true rfl) ?_
  intro p e s m below meth c A Q ls H locs hx hb hml hr hts hown hlocks hE hA hP hD hS hZ hQ hl
  have hl : lv_has ls 4 [(0, .ref (q 17))] := hl
  have hown : s.vm.findClass RX7 = some m.cls := hown
  have J_92 : ∀ (k0_92 : Int32) (k1_92 : Int32) (H : Heap) (locs : List Loc) (_ : va_P G vwCl (tk_M c3 q S) H) (_ : va_D A (tk_M c3 q S)) (_ : va_S A s.heap H locs) (ls : Array Slot) (_ : lv_has ls 4 []) (_ : f_X7_pagatCount_92 k0_92 k1_92 S = some r0), W p l e rm_X7_pagatCount s m ([.ref (q 17)] : List Value).toArray below meth c H locs 0 0 Q (F0 m 92 ls [.int k1_92, .int k0_92]) := by
    intro k0_92 k1_92 H locs hP hD hS ls hl hf
    unfold f_X7_pagatCount_92 at hf
    refine lv_icmp_ne (tgt := 100) hx hb dX7_pagatCount_92 (by decide) (fun h1 => ?_) (fun h1 => ?_)
    · have hf := tk_neg hf h1
      refine lv_bipush (v := -25) hx hb dX7_pagatCount_100 (by decide) ?_
      exact tk_ri hQ (tk_s1 hf) rfl hx hb hr hlocks hP hD hS dX7_pagatCount_102
    · have hf := tk_pos hf h1
      refine lv_bipush (v := 25) hx hb dX7_pagatCount_95 (by decide) ?_
      refine lv_goto (tgt := 102) hx hb dX7_pagatCount_97 (by decide) ?_
      exact tk_ri hQ (tk_s1 hf) rfl hx hb hr hlocks hP hD hS dX7_pagatCount_102
  have J_47 : ∀ (x1_47 : Int32) (x2_47 : Int32) (k0_47 : Int32) (H : Heap) (locs : List Loc) (_ : va_P G vwCl (tk_M c3 q S) H) (_ : va_D A (tk_M c3 q S)) (_ : va_S A s.heap H locs) (ls : Array Slot) (_ : lv_has ls 4 [(0, .ref (q 17)), (1, .int x1_47), (2, .int x2_47)]) (_ : f_X7_pagatCount_47 x1_47 x2_47 k0_47 S = some r0), W p l e rm_X7_pagatCount s m ([.ref (q 17)] : List Value).toArray below meth c H locs 0 0 Q (F0 m 47 ls [.int k0_47]) := by
    intro x1_47 x2_47 k0_47 H locs hP hD hS ls hl hf
    unfold f_X7_pagatCount_47 at hf
    refine lv_istore_n (lv' := [(3, .int k0_47), (0, .ref (q 17)), (1, .int x1_47), (2, .int x2_47)]) hx hb dX7_pagatCount_47 rfl hl (by decide) rfl (fun ls hl => ?_)
    refine lv_aload_n hx hb dX7_pagatCount_48 rfl (lv_at hl 1 rfl) ?_
    refine va_get (D := G) (ci := 7) (v := .ref (q 21)) (C := RX7) (T := TX7) (N := 29) hx hb hts i_X7_pagatCount_X7 hown hE.1 hP 0 rfl rfl 20 (by decide) (hts _ m_X7_pagatCount_f43) (fun _ h9 => h9) rfl dX7_pagatCount_49 ?_
    refine lv_iconst (v := 0) hx hb dX7_pagatCount_52 (by decide) ?_
    obtain ⟨h2, hf⟩ := tk_ok hf
    refine va_zald (f := (S.2.2.1 2)) hx hb hE.1 hP 4 2 rfl rfl h2 dX7_pagatCount_53 ?_
    refine lv_if_eq (tgt := 73) hx hb dX7_pagatCount_54 (by decide) (fun h3 => ?_) (fun h3 => ?_)
    · have hf := tk_pos hf h3
      refine lv_iload_n hx hb dX7_pagatCount_73 rfl (lv_at hl 2 rfl) ?_
      refine lv_iconst (v := -1) hx hb dX7_pagatCount_74 (by decide) ?_
      refine lv_icmp_ne (tgt := 82) hx hb dX7_pagatCount_75 (by decide) (fun h4 => ?_) (fun h4 => ?_)
      · have hf := tk_neg hf h4
        refine lv_iload_n hx hb dX7_pagatCount_82 rfl (lv_at hl 0 rfl) ?_
        refine lv_iload_n hx hb dX7_pagatCount_83 rfl (lv_at hl 3 rfl) ?_
        refine lv_if_ne (tgt := 91) hx hb dX7_pagatCount_84 (by decide) (fun h5 => ?_) (fun h5 => ?_)
        · have hf := tk_neg hf h5
          refine lv_iconst (v := 0) hx hb dX7_pagatCount_91 (by decide) ?_
          exact J_92 k0_47 (0 : Int32) H locs hP hD hS ls (lv_sub hl [] rfl) hf
        · have hf := tk_pos hf h5
          refine lv_iconst (v := 1) hx hb dX7_pagatCount_87 (by decide) ?_
          refine lv_goto (tgt := 92) hx hb dX7_pagatCount_88 (by decide) ?_
          exact J_92 k0_47 (1 : Int32) H locs hP hD hS ls (lv_sub hl [] rfl) hf
      · have hf := tk_pos hf h4
        refine lv_iconst (v := 0) hx hb dX7_pagatCount_78 (by decide) ?_
        refine lv_goto (tgt := 102) hx hb dX7_pagatCount_79 (by decide) ?_
        exact tk_ri hQ (tk_s1 hf) rfl hx hb hr hlocks hP hD hS dX7_pagatCount_102
    · have hf := tk_neg hf h3
      refine lv_iload_n hx hb dX7_pagatCount_57 rfl (lv_at hl 0 rfl) ?_
      refine lv_if_eq (tgt := 70) hx hb dX7_pagatCount_58 (by decide) (fun h6 => ?_) (fun h6 => ?_)
      · have hf := tk_pos hf h6
        refine lv_bipush (v := -50) hx hb dX7_pagatCount_70 (by decide) ?_
        exact tk_ri hQ (tk_s1 hf) rfl hx hb hr hlocks hP hD hS dX7_pagatCount_72
      · have hf := tk_neg hf h6
        refine lv_iload_n hx hb dX7_pagatCount_61 rfl (lv_at hl 3 rfl) ?_
        refine lv_if_ne (tgt := 70) hx hb dX7_pagatCount_62 (by decide) (fun h7 => ?_) (fun h7 => ?_)
        · have hf := tk_neg hf h7
          refine lv_bipush (v := -50) hx hb dX7_pagatCount_70 (by decide) ?_
          exact tk_ri hQ (tk_s1 hf) rfl hx hb hr hlocks hP hD hS dX7_pagatCount_72
        · have hf := tk_pos hf h7
          refine lv_bipush (v := 50) hx hb dX7_pagatCount_65 (by decide) ?_
          refine lv_goto (tgt := 72) hx hb dX7_pagatCount_67 (by decide) ?_
          exact tk_ri hQ (tk_s1 hf) rfl hx hb hr hlocks hP hD hS dX7_pagatCount_72
  have J_46 : ∀ (x1_46 : Int32) (x2_46 : Int32) (H : Heap) (locs : List Loc) (_ : va_P G vwCl (tk_M c3 q S) H) (_ : va_D A (tk_M c3 q S)) (_ : va_S A s.heap H locs) (ls : Array Slot) (_ : lv_has ls 4 [(0, .ref (q 17)), (1, .int x1_46), (2, .int x2_46)]) (_ : f_X7_pagatCount_46 x1_46 x2_46 S = some r0), W p l e rm_X7_pagatCount s m ([.ref (q 17)] : List Value).toArray below meth c H locs 0 0 Q (F0 m 46 ls []) := by
    intro x1_46 x2_46 H locs hP hD hS ls hl hf
    unfold f_X7_pagatCount_46 at hf
    refine lv_iconst (v := 0) hx hb dX7_pagatCount_46 (by decide) ?_
    exact J_47 x1_46 x2_46 (0 : Int32) H locs hP hD hS ls (lv_sub hl [0, 1, 2] rfl) hf
  have J_28 : ∀ (x1_28 : Int32) (k0_28 : Int32) (H : Heap) (locs : List Loc) (_ : va_P G vwCl (tk_M c3 q S) H) (_ : va_D A (tk_M c3 q S)) (_ : va_S A s.heap H locs) (ls : Array Slot) (_ : lv_has ls 4 [(0, .ref (q 17)), (1, .int x1_28)]) (_ : f_X7_pagatCount_28 x1_28 k0_28 S = some r0), W p l e rm_X7_pagatCount s m ([.ref (q 17)] : List Value).toArray below meth c H locs 0 0 Q (F0 m 28 ls [.int k0_28]) := by
    intro x1_28 k0_28 H locs hP hD hS ls hl hf
    unfold f_X7_pagatCount_28 at hf
    refine lv_istore_n (lv' := [(2, .int k0_28), (0, .ref (q 17)), (1, .int x1_28)]) hx hb dX7_pagatCount_28 rfl hl (by decide) rfl (fun ls hl => ?_)
    refine lv_iload_n hx hb dX7_pagatCount_29 rfl (lv_at hl 2 rfl) ?_
    refine lv_iconst (v := -1) hx hb dX7_pagatCount_30 (by decide) ?_
    refine lv_icmp_eq (tgt := 46) hx hb dX7_pagatCount_31 (by decide) (fun h8 => ?_) (fun h8 => ?_)
    · have hf := tk_pos hf h8
      exact J_46 x1_28 k0_28 H locs hP hD hS ls (lv_sub hl [1, 2, 0] rfl) hf
    · have hf := tk_neg hf h8
      refine lv_aload_n hx hb dX7_pagatCount_34 rfl (lv_at hl 1 rfl) ?_
      obtain ⟨r9, h10, hf⟩ := tk_b1s hf
      refine tk_ci (ws' := (tk_M c3 q S)) (va_runV (As := []) (rest := []) ⟨hx, hb, hml, hown, hts⟩ (c_X7_best l G c3 q S r9 h10 H.size) (cwV 0 hts gX7_pagatCount_X7_best rfl rfl rfl hv_X7_best ⟨Nat.le_of_ble_eq_true rfl, Nat.le_of_ble_eq_true rfl⟩) (tk_pV hE hP hD 0 rfl rfl) rfl rfl hl.1 rfl (lv_room (Nat.le_of_ble_eq_true rfl)) dX7_pagatCount_35 ⟨Nat.zero_le _, Nat.zero_le _⟩) hD hS hA (fun H locs hP hD hS => ?_)
      refine lv_iload_n hx hb dX7_pagatCount_38 rfl (lv_at hl 2 rfl) ?_
      refine lv_icmp_ne (tgt := 46) hx hb dX7_pagatCount_39 (by decide) (fun h12 => ?_) (fun h12 => ?_)
      · have hf := tk_neg hf h12
        exact J_46 x1_28 k0_28 H locs hP hD hS ls (lv_sub hl [1, 2, 0] rfl) hf
      · have hf := tk_pos hf h12
        refine lv_iconst (v := 1) hx hb dX7_pagatCount_42 (by decide) ?_
        refine lv_goto (tgt := 47) hx hb dX7_pagatCount_43 (by decide) ?_
        exact J_47 x1_28 k0_28 (1 : Int32) H locs hP hD hS ls (lv_sub hl [1, 2, 0] rfl) hf
  unfold f_X7_pagatCount at hf
  refine lv_aload_n hx hb dX7_pagatCount_0 rfl (lv_at hl 0 rfl) ?_
  refine lv_bipush (v := 32) hx hb dX7_pagatCount_1 (by decide) ?_
  obtain ⟨r13, h14, hf⟩ := tk_b1s hf
  refine tk_ci (ws' := (tk_M c3 q S)) (va_runV (As := [.int (32 : Int32)]) (rest := []) ⟨hx, hb, hml, hown, hts⟩ (c_X7_placeOf l G c3 q S (32 : Int32) r13 h14 H.size) (cwV 1 hts gX7_pagatCount_X7_placeOf rfl rfl rfl hv_X7_placeOf ⟨Nat.le_of_ble_eq_true rfl, Nat.le_of_ble_eq_true rfl⟩) (tk_pV hE hP hD 0 rfl rfl) rfl rfl hl.1 rfl (lv_room (Nat.le_of_ble_eq_true rfl)) dX7_pagatCount_3 ⟨Nat.zero_le _, Nat.zero_le _⟩) hD hS hA (fun H locs hP hD hS => ?_)
  refine lv_istore_n (lv' := [(1, .int r13), (0, .ref (q 17))]) hx hb dX7_pagatCount_6 rfl hl (by decide) rfl (fun ls hl => ?_)
  refine lv_iload_n hx hb dX7_pagatCount_7 rfl (lv_at hl 0 rfl) ?_
  refine lv_iconst (v := -1) hx hb dX7_pagatCount_8 (by decide) ?_
  refine lv_icmp_ne (tgt := 16) hx hb dX7_pagatCount_9 (by decide) (fun h16 => ?_) (fun h16 => ?_)
  · have hf := tk_neg hf h16
    refine lv_aload_n hx hb dX7_pagatCount_16 rfl (lv_at hl 1 rfl) ?_
    refine lv_aload_n hx hb dX7_pagatCount_17 rfl (lv_at hl 1 rfl) ?_
    refine va_get (D := G) (ci := 7) (v := .int (S.1 16)) (C := RX7) (T := TX7) (N := 29) hx hb hts i_X7_pagatCount_X7 hown hE.1 hP 0 rfl rfl 23 (by decide) (hts _ m_X7_pagatCount_f107) (fun _ h9 => h9) rfl dX7_pagatCount_18 ?_
    refine lv_iload_n hx hb dX7_pagatCount_21 rfl (lv_at hl 0 rfl) ?_
    refine lv_iadd hx hb dX7_pagatCount_22 ?_
    refine lv_iconst (v := 4) hx hb dX7_pagatCount_23 (by decide) ?_
    refine tk_irem hx hb dX7_pagatCount_24 (by decide) ?_
    obtain ⟨r17, h18, hf⟩ := tk_b1s hf
    refine tk_ci (ws' := (tk_M c3 q S)) (va_runV (As := [.int (tk_rem ((S.1 16) + r13) (4 : Int32))]) (rest := []) ⟨hx, hb, hml, hown, hts⟩ (c_X7_sideOf l G c3 q S (tk_rem ((S.1 16) + r13) (4 : Int32)) r17 h18 H.size) (cwV 1 hts gX7_pagatCount_X7_sideOf rfl rfl rfl hv_X7_sideOf ⟨Nat.le_of_ble_eq_true rfl, Nat.le_of_ble_eq_true rfl⟩) (tk_pV hE hP hD 0 rfl rfl) rfl rfl hl.1 rfl (lv_room (Nat.le_of_ble_eq_true rfl)) dX7_pagatCount_25 ⟨Nat.zero_le _, Nat.zero_le _⟩) hD hS hA (fun H locs hP hD hS => ?_)
    exact J_28 r13 r17 H locs hP hD hS ls (lv_sub hl [1, 0] rfl) hf
  · have hf := tk_pos hf h16
    refine lv_iconst (v := -1) hx hb dX7_pagatCount_12 (by decide) ?_
    refine lv_goto (tgt := 28) hx hb dX7_pagatCount_13 (by decide) ?_
    exact J_28 r13 (-1 : Int32) H locs hP hD hS ls (lv_sub hl [1, 0] rfl) hf
abbrev rm_X7_kingCount : Room := { frames := 2, cells := 0, slots := 0, locals := 43 }
set_option maxHeartbeats 4000000 in
set_option maxRecDepth 100000 in
theorem c_X7_kingCount (l : Launch) (G : va_G) (c3 : ClassId × ClassId × ClassId) (q : Nat → Nat) (S : tk_ST) (r0 : Int32) (hf : f_X7_kingCount S = some r0) : tk_Mi l yX7_kingCount wsX7_kingCount rm_X7_kingCount G c3 [.ref (q 17)] (tk_M c3 q S) (tk_M c3 q S) r0 := by
  refine tk_ofi (cc := cX7_kingCount) (maxL := 3) (ret := some .int) (by decide) rfl (Nat.le_of_ble_eq_true rfl) ?_
  intro p e s m below meth c A Q ls H locs hx hb hml hr hts hown hlocks hE hA hP hD hS hZ hQ hl
  have hl : lv_has ls 3 [(0, .ref (q 17))] := hl
  have hown : s.vm.findClass RX7 = some m.cls := hown
  have J_44 : ∀ (x1_44 : Int32) (k0_44 : Int32) (H : Heap) (locs : List Loc) (_ : va_P G vwCl (tk_M c3 q S) H) (_ : va_D A (tk_M c3 q S)) (_ : va_S A s.heap H locs) (ls : Array Slot) (_ : lv_has ls 3 [(0, .ref (q 17)), (1, .int x1_44)]) (_ : f_X7_kingCount_44 x1_44 k0_44 S = some r0), W p l e rm_X7_kingCount s m ([.ref (q 17)] : List Value).toArray below meth c H locs 0 0 Q (F0 m 44 ls [.int k0_44]) := by
    intro x1_44 k0_44 H locs hP hD hS ls hl hf
    unfold f_X7_kingCount_44 at hf
    refine lv_istore_n (lv' := [(2, .int k0_44), (0, .ref (q 17)), (1, .int x1_44)]) hx hb dX7_kingCount_44 rfl hl (by decide) rfl (fun ls hl => ?_)
    refine lv_aload_n hx hb dX7_kingCount_45 rfl (lv_at hl 1 rfl) ?_
    refine va_get (D := G) (ci := 7) (v := .ref (q 21)) (C := RX7) (T := TX7) (N := 29) hx hb hts i_X7_kingCount_X7 hown hE.1 hP 0 rfl rfl 20 (by decide) (hts _ m_X7_kingCount_f43) (fun _ h9 => h9) rfl dX7_kingCount_46 ?_
    refine lv_iconst (v := 1) hx hb dX7_kingCount_49 (by decide) ?_
    obtain ⟨h1, hf⟩ := tk_ok hf
    refine va_zald (f := (S.2.2.1 2)) hx hb hE.1 hP 4 2 rfl rfl h1 dX7_kingCount_50 ?_
    refine lv_if_eq (tgt := 71) hx hb dX7_kingCount_51 (by decide) (fun h2 => ?_) (fun h2 => ?_)
    · have hf := tk_pos hf h2
      refine lv_iload_n hx hb dX7_kingCount_71 rfl (lv_at hl 2 rfl) ?_
      refine lv_iconst (v := -1) hx hb dX7_kingCount_72 (by decide) ?_
      refine lv_icmp_ne (tgt := 80) hx hb dX7_kingCount_73 (by decide) (fun h3 => ?_) (fun h3 => ?_)
      · have hf := tk_neg hf h3
        refine lv_iload_n hx hb dX7_kingCount_80 rfl (lv_at hl 0 rfl) ?_
        refine lv_if_eq (tgt := 89) hx hb dX7_kingCount_81 (by decide) (fun h4 => ?_) (fun h4 => ?_)
        · have hf := tk_pos hf h4
          refine lv_bipush (v := -10) hx hb dX7_kingCount_89 (by decide) ?_
          exact tk_ri hQ (tk_s1 hf) rfl hx hb hr hlocks hP hD hS dX7_kingCount_91
        · have hf := tk_neg hf h4
          refine lv_bipush (v := 10) hx hb dX7_kingCount_84 (by decide) ?_
          refine lv_goto (tgt := 91) hx hb dX7_kingCount_86 (by decide) ?_
          exact tk_ri hQ (tk_s1 hf) rfl hx hb hr hlocks hP hD hS dX7_kingCount_91
      · have hf := tk_pos hf h3
        refine lv_iconst (v := 0) hx hb dX7_kingCount_76 (by decide) ?_
        refine lv_goto (tgt := 91) hx hb dX7_kingCount_77 (by decide) ?_
        exact tk_ri hQ (tk_s1 hf) rfl hx hb hr hlocks hP hD hS dX7_kingCount_91
    · have hf := tk_neg hf h2
      refine lv_iload_n hx hb dX7_kingCount_54 rfl (lv_at hl 2 rfl) ?_
      refine lv_iconst (v := -1) hx hb dX7_kingCount_55 (by decide) ?_
      refine lv_icmp_eq (tgt := 68) hx hb dX7_kingCount_56 (by decide) (fun h5 => ?_) (fun h5 => ?_)
      · have hf := tk_pos hf h5
        refine lv_bipush (v := -20) hx hb dX7_kingCount_68 (by decide) ?_
        exact tk_ri hQ (tk_s1 hf) rfl hx hb hr hlocks hP hD hS dX7_kingCount_70
      · have hf := tk_neg hf h5
        refine lv_iload_n hx hb dX7_kingCount_59 rfl (lv_at hl 0 rfl) ?_
        refine lv_if_eq (tgt := 68) hx hb dX7_kingCount_60 (by decide) (fun h6 => ?_) (fun h6 => ?_)
        · have hf := tk_pos hf h6
          refine lv_bipush (v := -20) hx hb dX7_kingCount_68 (by decide) ?_
          exact tk_ri hQ (tk_s1 hf) rfl hx hb hr hlocks hP hD hS dX7_kingCount_70
        · have hf := tk_neg hf h6
          refine lv_bipush (v := 20) hx hb dX7_kingCount_63 (by decide) ?_
          refine lv_goto (tgt := 70) hx hb dX7_kingCount_65 (by decide) ?_
          exact tk_ri hQ (tk_s1 hf) rfl hx hb hr hlocks hP hD hS dX7_kingCount_70
  have J_20 : ∀ (k0_20 : Int32) (H : Heap) (locs : List Loc) (_ : va_P G vwCl (tk_M c3 q S) H) (_ : va_D A (tk_M c3 q S)) (_ : va_S A s.heap H locs) (ls : Array Slot) (_ : lv_has ls 3 [(0, .ref (q 17))]) (_ : f_X7_kingCount_20 k0_20 S = some r0), W p l e rm_X7_kingCount s m ([.ref (q 17)] : List Value).toArray below meth c H locs 0 0 Q (F0 m 20 ls [.int k0_20]) := by
    intro k0_20 H locs hP hD hS ls hl hf
    unfold f_X7_kingCount_20 at hf
    refine lv_istore_n (lv' := [(1, .int k0_20), (0, .ref (q 17))]) hx hb dX7_kingCount_20 rfl hl (by decide) rfl (fun ls hl => ?_)
    refine lv_aload_n hx hb dX7_kingCount_21 rfl (lv_at hl 1 rfl) ?_
    refine lv_aload_n hx hb dX7_kingCount_22 rfl (lv_at hl 1 rfl) ?_
    refine va_get (D := G) (ci := 7) (v := .int (S.1 16)) (C := RX7) (T := TX7) (N := 29) hx hb hts i_X7_kingCount_X7 hown hE.1 hP 0 rfl rfl 23 (by decide) (hts _ m_X7_kingCount_f107) (fun _ h9 => h9) rfl dX7_kingCount_23 ?_
    refine lv_aload_n hx hb dX7_kingCount_26 rfl (lv_at hl 1 rfl) ?_
    obtain ⟨r7, h8, hf⟩ := tk_b1s hf
    refine tk_ci (ws' := (tk_M c3 q S)) (va_runV (As := []) (rest := [.int (S.1 16), .ref (q 17)]) ⟨hx, hb, hml, hown, hts⟩ (c_X7_best l G c3 q S r7 h8 H.size) (cwV 0 hts gX7_kingCount_X7_best rfl rfl rfl hv_X7_best ⟨Nat.le_of_ble_eq_true rfl, Nat.le_of_ble_eq_true rfl⟩) (tk_pV hE hP hD 0 rfl rfl) rfl rfl hl.1 rfl (lv_room (Nat.le_of_ble_eq_true rfl)) dX7_kingCount_27 ⟨Nat.zero_le _, Nat.zero_le _⟩) hD hS hA (fun H locs hP hD hS => ?_)
    refine lv_iadd hx hb dX7_kingCount_30 ?_
    refine lv_iconst (v := 4) hx hb dX7_kingCount_31 (by decide) ?_
    refine tk_irem hx hb dX7_kingCount_32 (by decide) ?_
    obtain ⟨r10, h11, hf⟩ := tk_b1s hf
    refine tk_ci (ws' := (tk_M c3 q S)) (va_runV (As := [.int (tk_rem ((S.1 16) + r7) (4 : Int32))]) (rest := []) ⟨hx, hb, hml, hown, hts⟩ (c_X7_sideOf l G c3 q S (tk_rem ((S.1 16) + r7) (4 : Int32)) r10 h11 H.size) (cwV 1 hts gX7_kingCount_X7_sideOf rfl rfl rfl hv_X7_sideOf ⟨Nat.le_of_ble_eq_true rfl, Nat.le_of_ble_eq_true rfl⟩) (tk_pV hE hP hD 0 rfl rfl) rfl rfl hl.1 rfl (lv_room (Nat.le_of_ble_eq_true rfl)) dX7_kingCount_33 ⟨Nat.zero_le _, Nat.zero_le _⟩) hD hS hA (fun H locs hP hD hS => ?_)
    refine lv_if_ne (tgt := 43) hx hb dX7_kingCount_36 (by decide) (fun h13 => ?_) (fun h13 => ?_)
    · have hf := tk_neg hf h13
      refine lv_iconst (v := 0) hx hb dX7_kingCount_43 (by decide) ?_
      exact J_44 k0_20 (0 : Int32) H locs hP hD hS ls (lv_sub hl [1, 0] rfl) hf
    · have hf := tk_pos hf h13
      refine lv_iconst (v := 1) hx hb dX7_kingCount_39 (by decide) ?_
      refine lv_goto (tgt := 44) hx hb dX7_kingCount_40 (by decide) ?_
      exact J_44 k0_20 (1 : Int32) H locs hP hD hS ls (lv_sub hl [1, 0] rfl) hf
  unfold f_X7_kingCount at hf
  refine lv_aload_n hx hb dX7_kingCount_0 rfl (lv_at hl 0 rfl) ?_
  refine va_get (D := G) (ci := 7) (v := .int (S.1 9)) (C := RX7) (T := TX7) (N := 29) hx hb hts i_X7_kingCount_X7 hown hE.1 hP 0 rfl rfl 12 (by decide) (hts _ m_X7_kingCount_f34) (fun _ h9 => h9) rfl dX7_kingCount_1 ?_
  refine lv_iconst (v := -1) hx hb dX7_kingCount_4 (by decide) ?_
  refine lv_icmp_ne (tgt := 12) hx hb dX7_kingCount_5 (by decide) (fun h14 => ?_) (fun h14 => ?_)
  · have hf := tk_neg hf h14
    refine lv_aload_n hx hb dX7_kingCount_12 rfl (lv_at hl 0 rfl) ?_
    refine lv_aload_n hx hb dX7_kingCount_13 rfl (lv_at hl 0 rfl) ?_
    obtain ⟨r15, h16, hf⟩ := tk_b1s hf
    refine tk_ci (ws' := (tk_M c3 q S)) (va_runV (As := []) (rest := [.ref (q 17)]) ⟨hx, hb, hml, hown, hts⟩ (c_X7_king l G c3 q S r15 h16 H.size) (cwV 0 hts gX7_kingCount_X7_king rfl rfl rfl hv_X7_king ⟨Nat.le_of_ble_eq_true rfl, Nat.le_of_ble_eq_true rfl⟩) (tk_pV hE hP hD 0 rfl rfl) rfl rfl hl.1 rfl (lv_room (Nat.le_of_ble_eq_true rfl)) dX7_kingCount_14 ⟨Nat.zero_le _, Nat.zero_le _⟩) hD hS hA (fun H locs hP hD hS => ?_)
    obtain ⟨r18, h19, hf⟩ := tk_b1s hf
    refine tk_ci (ws' := (tk_M c3 q S)) (va_runV (As := [.int r15]) (rest := []) ⟨hx, hb, hml, hown, hts⟩ (c_X7_placeOf l G c3 q S r15 r18 h19 H.size) (cwV 1 hts gX7_kingCount_X7_placeOf rfl rfl rfl hv_X7_placeOf ⟨Nat.le_of_ble_eq_true rfl, Nat.le_of_ble_eq_true rfl⟩) (tk_pV hE hP hD 0 rfl rfl) rfl rfl hl.1 rfl (lv_room (Nat.le_of_ble_eq_true rfl)) dX7_kingCount_17 ⟨Nat.zero_le _, Nat.zero_le _⟩) hD hS hA (fun H locs hP hD hS => ?_)
    exact J_20 r18 H locs hP hD hS ls (lv_sub hl [0] rfl) hf
  · have hf := tk_pos hf h14
    refine lv_iconst (v := -1) hx hb dX7_kingCount_8 (by decide) ?_
    refine lv_goto (tgt := 20) hx hb dX7_kingCount_9 (by decide) ?_
    exact J_20 (-1 : Int32) H locs hP hD hS ls (lv_sub hl [0] rfl) hf
abbrev rm_X7_gameCount : Room := { frames := 0, cells := 0, slots := 0, locals := 0 }
set_option maxHeartbeats 4000000 in
set_option maxRecDepth 100000 in
theorem c_X7_gameCount (l : Launch) (G : va_G) (c3 : ClassId × ClassId × ClassId) (q : Nat → Nat) (S : tk_ST) (p0 : Int32) (r0 : Int32) (hf : f_X7_gameCount p0 S = some r0) : tk_Mi l yX7_gameCount wsX7_gameCount rm_X7_gameCount G c3 [.ref (q 17), .int p0] (tk_M c3 q S) (tk_M c3 q S) r0 := by
  refine tk_ofi (cc := cX7_gameCount) (maxL := 4) (ret := some .int) (by decide) rfl (Nat.le_of_ble_eq_true rfl) ?_
  intro p e s m below meth c A Q ls H locs hx hb hml hr hts hown hlocks hE hA hP hD hS hZ hQ hl
  have hl : lv_has ls 4 [(0, .ref (q 17)), (1, .int p0)] := hl
  have hown : s.vm.findClass RX7 = some m.cls := hown
  have J_66 : ∀ (x1_66 : Int32) (k0_66 : Int32) (k1_66 : Int32) (H : Heap) (locs : List Loc) (_ : va_P G vwCl (tk_M c3 q S) H) (_ : va_D A (tk_M c3 q S)) (_ : va_S A s.heap H locs) (ls : Array Slot) (_ : lv_has ls 4 [(1, .int x1_66)]) (_ : f_X7_gameCount_66 x1_66 k0_66 k1_66 S = some r0), W p l e rm_X7_gameCount s m ([.ref (q 17), .int p0] : List Value).toArray below meth c H locs 0 0 Q (F0 m 66 ls [.int k1_66, .int k0_66]) := by
    intro x1_66 k0_66 k1_66 H locs hP hD hS ls hl hf
    unfold f_X7_gameCount_66 at hf
    refine lv_iadd hx hb dX7_gameCount_66 ?_
    refine lv_istore_n (lv' := [(3, .int (k0_66 + k1_66)), (1, .int x1_66)]) hx hb dX7_gameCount_67 rfl hl (by decide) rfl (fun ls hl => ?_)
    refine lv_iload_n hx hb dX7_gameCount_68 rfl (lv_at hl 1 rfl) ?_
    refine lv_bipush (v := 105) hx hb dX7_gameCount_69 (by decide) ?_
    refine lv_icmp_le (tgt := 78) hx hb dX7_gameCount_71 (by decide) (fun h1 => ?_) (fun h1 => ?_)
    · have hf := tk_pos hf h1
      refine lv_iload_n hx hb dX7_gameCount_78 rfl (lv_at hl 0 rfl) ?_
      refine lv_ineg hx hb dX7_gameCount_79 ?_
      exact tk_ri hQ (tk_s1 hf) rfl hx hb hr hlocks hP hD hS dX7_gameCount_80
    · have hf := tk_neg hf h1
      refine lv_iload_n hx hb dX7_gameCount_74 rfl (lv_at hl 0 rfl) ?_
      refine lv_goto (tgt := 80) hx hb dX7_gameCount_75 (by decide) ?_
      exact tk_ri hQ (tk_s1 hf) rfl hx hb hr hlocks hP hD hS dX7_gameCount_80
  have J_31 : ∀ (x1_31 : Int32) (k0_31 : Int32) (H : Heap) (locs : List Loc) (_ : va_P G vwCl (tk_M c3 q S) H) (_ : va_D A (tk_M c3 q S)) (_ : va_S A s.heap H locs) (ls : Array Slot) (_ : lv_has ls 4 [(0, .ref (q 17)), (1, .int x1_31)]) (_ : f_X7_gameCount_31 x1_31 k0_31 S = some r0), W p l e rm_X7_gameCount s m ([.ref (q 17), .int p0] : List Value).toArray below meth c H locs 0 0 Q (F0 m 31 ls [.int k0_31]) := by
    intro x1_31 k0_31 H locs hP hD hS ls hl hf
    unfold f_X7_gameCount_31 at hf
    refine lv_istore_n (lv' := [(2, .int k0_31), (0, .ref (q 17)), (1, .int x1_31)]) hx hb dX7_gameCount_31 rfl hl (by decide) rfl (fun ls hl => ?_)
    refine lv_iload_n hx hb dX7_gameCount_32 rfl (lv_at hl 0 rfl) ?_
    refine lv_aload_n hx hb dX7_gameCount_33 rfl (lv_at hl 1 rfl) ?_
    refine va_get (D := G) (ci := 7) (v := .int (S.1 6)) (C := RX7) (T := TX7) (N := 29) hx hb hts i_X7_gameCount_X7 hown hE.1 hP 0 rfl rfl 9 (by decide) (hts _ m_X7_gameCount_f84) (fun _ h9 => h9) rfl dX7_gameCount_34 ?_
    refine lv_iconst (v := 4) hx hb dX7_gameCount_37 (by decide) ?_
    refine lv_icmp_ge (tgt := 51) hx hb dX7_gameCount_38 (by decide) (fun h2 => ?_) (fun h2 => ?_)
    · have hf := tk_pos hf h2
      refine lv_aload_n hx hb dX7_gameCount_51 rfl (lv_at hl 1 rfl) ?_
      refine va_get (D := G) (ci := 7) (v := .int (S.1 6)) (C := RX7) (T := TX7) (N := 29) hx hb hts i_X7_gameCount_X7 hown hE.1 hP 0 rfl rfl 9 (by decide) (hts _ m_X7_gameCount_f84) (fun _ h9 => h9) rfl dX7_gameCount_52 ?_
      refine lv_iconst (v := 4) hx hb dX7_gameCount_55 (by decide) ?_
      refine lv_icmp_ne (tgt := 64) hx hb dX7_gameCount_56 (by decide) (fun h3 => ?_) (fun h3 => ?_)
      · have hf := tk_neg hf h3
        refine lv_bipush (v := 80) hx hb dX7_gameCount_64 (by decide) ?_
        exact J_66 x1_31 k0_31 (80 : Int32) H locs hP hD hS ls (lv_sub hl [2] rfl) hf
      · have hf := tk_pos hf h3
        refine lv_bipush (v := 50) hx hb dX7_gameCount_59 (by decide) ?_
        refine lv_goto (tgt := 66) hx hb dX7_gameCount_61 (by decide) ?_
        exact J_66 x1_31 k0_31 (50 : Int32) H locs hP hD hS ls (lv_sub hl [2] rfl) hf
    · have hf := tk_neg hf h2
      refine lv_bipush (v := 10) hx hb dX7_gameCount_41 (by decide) ?_
      refine lv_aload_n hx hb dX7_gameCount_43 rfl (lv_at hl 1 rfl) ?_
      refine va_get (D := G) (ci := 7) (v := .int (S.1 6)) (C := RX7) (T := TX7) (N := 29) hx hb hts i_X7_gameCount_X7 hown hE.1 hP 0 rfl rfl 9 (by decide) (hts _ m_X7_gameCount_f84) (fun _ h9 => h9) rfl dX7_gameCount_44 ?_
      refine lv_imul hx hb dX7_gameCount_47 ?_
      refine lv_goto (tgt := 66) hx hb dX7_gameCount_48 (by decide) ?_
      exact J_66 x1_31 k0_31 ((10 : Int32) * (S.1 6)) H locs hP hD hS ls (lv_sub hl [2] rfl) hf
  have J_29 : ∀ (x1_29 : Int32) (k0_29 : Int32) (H : Heap) (locs : List Loc) (_ : va_P G vwCl (tk_M c3 q S) H) (_ : va_D A (tk_M c3 q S)) (_ : va_S A s.heap H locs) (ls : Array Slot) (_ : lv_has ls 4 [(0, .ref (q 17)), (1, .int x1_29)]) (_ : f_X7_gameCount_29 x1_29 k0_29 S = some r0), W p l e rm_X7_gameCount s m ([.ref (q 17), .int p0] : List Value).toArray below meth c H locs 0 0 Q (F0 m 29 ls [.int k0_29]) := by
    intro x1_29 k0_29 H locs hP hD hS ls hl hf
    unfold f_X7_gameCount_29 at hf
    refine lv_iconst (v := 3) hx hb dX7_gameCount_29 (by decide) ?_
    refine lv_idiv hx hb dX7_gameCount_30 (by decide) ?_
    exact J_31 x1_29 (k0_29 / (3 : Int32)) H locs hP hD hS ls (lv_sub hl [0, 1] rfl) hf
  unfold f_X7_gameCount at hf
  refine lv_aload_n hx hb dX7_gameCount_0 rfl (lv_at hl 0 rfl) ?_
  refine va_get (D := G) (ci := 7) (v := .int (S.1 6)) (C := RX7) (T := TX7) (N := 29) hx hb hts i_X7_gameCount_X7 hown hE.1 hP 0 rfl rfl 9 (by decide) (hts _ m_X7_gameCount_f84) (fun _ h9 => h9) rfl dX7_gameCount_1 ?_
  refine lv_iconst (v := 5) hx hb dX7_gameCount_4 (by decide) ?_
  refine lv_icmp_ne (tgt := 12) hx hb dX7_gameCount_5 (by decide) (fun h4 => ?_) (fun h4 => ?_)
  · have hf := tk_neg hf h4
    refine lv_iload_n hx hb dX7_gameCount_12 rfl (lv_at hl 1 rfl) ?_
    refine lv_bipush (v := 105) hx hb dX7_gameCount_13 (by decide) ?_
    refine lv_icmp_le (tgt := 25) hx hb dX7_gameCount_15 (by decide) (fun h5 => ?_) (fun h5 => ?_)
    · have hf := tk_pos hf h5
      refine lv_bipush (v := 105) hx hb dX7_gameCount_25 (by decide) ?_
      refine lv_iload_n hx hb dX7_gameCount_27 rfl (lv_at hl 1 rfl) ?_
      refine lv_isub hx hb dX7_gameCount_28 ?_
      exact J_29 p0 ((105 : Int32) - p0) H locs hP hD hS ls (lv_sub hl [0, 1] rfl) hf
    · have hf := tk_neg hf h5
      refine lv_iload_n hx hb dX7_gameCount_18 rfl (lv_at hl 1 rfl) ?_
      refine lv_bipush (v := 105) hx hb dX7_gameCount_19 (by decide) ?_
      refine lv_isub hx hb dX7_gameCount_21 ?_
      refine lv_goto (tgt := 29) hx hb dX7_gameCount_22 (by decide) ?_
      exact J_29 p0 (p0 - (105 : Int32)) H locs hP hD hS ls (lv_sub hl [0, 1] rfl) hf
  · have hf := tk_pos hf h4
    refine lv_iconst (v := 0) hx hb dX7_gameCount_8 (by decide) ?_
    refine lv_goto (tgt := 31) hx hb dX7_gameCount_9 (by decide) ?_
    exact J_31 p0 (0 : Int32) H locs hP hD hS ls (lv_sub hl [0, 1] rfl) hf
abbrev rm_X7_scores : Room := { frames := 3, cells := 0, slots := 0, locals := 68 }
set_option maxHeartbeats 4000000 in
set_option maxRecDepth 100000 in
theorem c_X7_scores (l : Launch) (G : va_G) (c3 : ClassId × ClassId × ClassId) (q : Nat → Nat) (S : tk_ST) (p0 : Int32) (S0 : tk_ST) (hf : f_X7_scores p0 S = some S0) : tk_Mv l yX7_scores wsX7_scores rm_X7_scores G c3 [.ref (q 17), .int p0] (tk_M c3 q S) (tk_M c3 q S0) := by
  refine tk_ofv (cc := cX7_scores) (maxL := 4) (ret := none) (by decide) rfl (Nat.le_of_ble_eq_true rfl) ?_
  intro p e s m below meth c A Q ls H locs hx hb hml hr hts hown hlocks hE hA hP hD hS hZ hQ hl
  have hl : lv_has ls 4 [(0, .ref (q 17)), (1, .int p0)] := hl
  have hown : s.vm.findClass RX7 = some m.cls := hown
  have J_64 : ∀ (n_64 : Nat), ∀ (x3_64 : Int32) (S_64 : tk_ST) (H : Heap) (locs : List Loc) (_ : va_P G vwCl (tk_M c3 q S_64) H) (_ : va_D A (tk_M c3 q S_64)) (_ : va_S A s.heap H locs) (ls : Array Slot) (_ : lv_has ls 4 [(0, .ref (q 17)), (3, .int x3_64)]) (_ : f_X7_scores_64 n_64 x3_64 S_64 = some S0), W p l e rm_X7_scores s m ([.ref (q 17), .int p0] : List Value).toArray below meth c H locs 0 0 Q (F0 m 64 ls []) := by
    intro n_64
    induction n_64 with
    | zero =>
      intro x3_64 S_64 H locs hP hD hS ls hl hf
      exact absurd hf (by intro h9; cases h9)
    | succ n_64 ih_64 =>
      have J_114 : ∀ (x3_114 : Int32) (k1_114 : Int32) (k2_114 : Int32) (k3_114 : Int32) (S_114 : tk_ST) (H : Heap) (locs : List Loc) (_ : va_P G vwCl (tk_M c3 q S_114) H) (_ : va_D A (tk_M c3 q S_114)) (_ : va_S A s.heap H locs) (ls : Array Slot) (_ : lv_has ls 4 [(0, .ref (q 17)), (3, .int x3_114)]) (_ : f_X7_scores_114 (f_X7_scores_64 n_64) x3_114 k1_114 k2_114 k3_114 S_114 = some S0), W p l e rm_X7_scores s m ([.ref (q 17), .int p0] : List Value).toArray below meth c H locs 0 0 Q (F0 m 114 ls [.int k3_114, .int k2_114, .int k1_114, .ref (q 25)]) := by
        intro x3_114 k1_114 k2_114 k3_114 S_114 H locs hP hD hS ls hl hf
        unfold f_X7_scores_114 at hf
        refine lv_iadd hx hb dX7_scores_114 ?_
        obtain ⟨h1, hf⟩ := tk_ok hf
        refine va_iast (f := (S_114.2.2.1 5)) hx hb hE.1 hP hD hS 8 0 rfl rfl h1 dX7_scores_115 (fun H locs hP hD hS => ?_)
        have hP : va_P G vwCl (tk_M c3 q (tk_A S_114 5 (upd (S_114.2.2.1 5) k1_114.toNatClampNeg (k2_114 + k3_114)))) H := hP
        have hD : va_D A (tk_M c3 q (tk_A S_114 5 (upd (S_114.2.2.1 5) k1_114.toNatClampNeg (k2_114 + k3_114)))) := hD
        obtain ⟨S2, eS2⟩ : ∃ z : tk_ST, z = (tk_A S_114 5 (upd (S_114.2.2.1 5) k1_114.toNatClampNeg (k2_114 + k3_114))) := ⟨_, rfl⟩
        rw [← eS2] at hP hD
        have hf := tk_nm hf eS2
        refine lv_iinc (v := (x3_114 + (1 : Int32))) (lv' := [(3, .int (x3_114 + (1 : Int32))), (0, .ref (q 17))]) hx hb dX7_scores_116 hl (k := 1) rfl rfl (by decide) rfl (fun ls hl => ?_)
        refine lv_goto (tgt := 64) hx hb dX7_scores_119 (by decide) ?_
        exact ih_64 (x3_114 + (1 : Int32)) S2 H locs hP hD hS ls (lv_sub hl [1, 0] rfl) hf
      have J_92 : ∀ (x3_92 : Int32) (k1_92 : Int32) (k2_92 : Int32) (k3_92 : Int32) (S_92 : tk_ST) (H : Heap) (locs : List Loc) (_ : va_P G vwCl (tk_M c3 q S_92) H) (_ : va_D A (tk_M c3 q S_92)) (_ : va_S A s.heap H locs) (ls : Array Slot) (_ : lv_has ls 4 [(0, .ref (q 17)), (3, .int x3_92)]) (_ : f_X7_scores_92 (f_X7_scores_64 n_64) x3_92 k1_92 k2_92 k3_92 S_92 = some S0), W p l e rm_X7_scores s m ([.ref (q 17), .int p0] : List Value).toArray below meth c H locs 0 0 Q (F0 m 92 ls [.int k3_92, .int k2_92, .int k1_92, .ref (q 24)]) := by
        intro x3_92 k1_92 k2_92 k3_92 S_92 H locs hP hD hS ls hl hf
        unfold f_X7_scores_92 at hf
        refine lv_iadd hx hb dX7_scores_92 ?_
        obtain ⟨h3, hf⟩ := tk_ok hf
        refine va_iast (f := (S_92.2.2.1 4)) hx hb hE.1 hP hD hS 7 0 rfl rfl h3 dX7_scores_93 (fun H locs hP hD hS => ?_)
        have hP : va_P G vwCl (tk_M c3 q (tk_A S_92 4 (upd (S_92.2.2.1 4) k1_92.toNatClampNeg (k2_92 + k3_92)))) H := hP
        have hD : va_D A (tk_M c3 q (tk_A S_92 4 (upd (S_92.2.2.1 4) k1_92.toNatClampNeg (k2_92 + k3_92)))) := hD
        obtain ⟨S4, eS4⟩ : ∃ z : tk_ST, z = (tk_A S_92 4 (upd (S_92.2.2.1 4) k1_92.toNatClampNeg (k2_92 + k3_92))) := ⟨_, rfl⟩
        rw [← eS4] at hP hD
        have hf := tk_nm hf eS4
        refine lv_aload_n hx hb dX7_scores_94 rfl (lv_at hl 0 rfl) ?_
        refine va_get (D := G) (ci := 7) (v := .ref (q 25)) (C := RX7) (T := TX7) (N := 29) hx hb hts i_X7_scores_X7 hown hE.1 hP 0 rfl rfl 27 (by decide) (hts _ m_X7_scores_f55) (fun _ h9 => h9) rfl dX7_scores_95 ?_
        refine lv_iload_n hx hb dX7_scores_98 rfl (lv_at hl 1 rfl) ?_
        refine lv_dup2_11 hx hb dX7_scores_99 rfl rfl ?_
        obtain ⟨h5, hf⟩ := tk_ok hf
        refine va_iald (f := (S4.2.2.1 5)) hx hb hE.1 hP 8 0 rfl rfl h5 dX7_scores_100 ?_
        refine lv_aload_n hx hb dX7_scores_101 rfl (lv_at hl 0 rfl) ?_
        refine va_get (D := G) (ci := 7) (v := .int (S4.1 6)) (C := RX7) (T := TX7) (N := 29) hx hb hts i_X7_scores_X7 hown hE.1 hP 0 rfl rfl 9 (by decide) (hts _ m_X7_scores_f84) (fun _ h9 => h9) rfl dX7_scores_102 ?_
        refine lv_iconst (v := 3) hx hb dX7_scores_105 (by decide) ?_
        refine lv_icmp_le (tgt := 113) hx hb dX7_scores_106 (by decide) (fun h6 => ?_) (fun h6 => ?_)
        · have hf := tk_pos hf h6
          refine lv_iconst (v := 0) hx hb dX7_scores_113 (by decide) ?_
          exact J_114 x3_92 x3_92 ((S4.2.2.1 5) x3_92.toNatClampNeg) (0 : Int32) S4 H locs hP hD hS ls (lv_sub hl [0, 1] rfl) hf
        · have hf := tk_neg hf h6
          refine lv_iconst (v := 1) hx hb dX7_scores_109 (by decide) ?_
          refine lv_goto (tgt := 114) hx hb dX7_scores_110 (by decide) ?_
          exact J_114 x3_92 x3_92 ((S4.2.2.1 5) x3_92.toNatClampNeg) (1 : Int32) S4 H locs hP hD hS ls (lv_sub hl [0, 1] rfl) hf
      intro x3_64 S_64 H locs hP hD hS ls hl hf
      rw [f_X7_scores_64_s] at hf
      refine lv_iload_n hx hb dX7_scores_64 rfl (lv_at hl 1 rfl) ?_
      refine lv_iconst (v := 4) hx hb dX7_scores_65 (by decide) ?_
      refine lv_icmp_ge (tgt := 122) hx hb dX7_scores_66 (by decide) (fun h7 => ?_) (fun h7 => ?_)
      · have hf := tk_pos hf h7
        refine lv_aload_n hx hb dX7_scores_122 rfl (lv_at hl 0 rfl) ?_
        refine lv_iconst (v := 0) hx hb dX7_scores_123 (by decide) ?_
        refine va_put (D := G) (ci := 7) (v := .int (0 : Int32)) (ty := .int) (C := RX7) (T := TX7) (N := 29) hx hb hts i_X7_scores_X7 tyX7 tyX7_ok nmX7 hown hE.1 hP hD hS 0 rfl rfl 1 (by decide) (hts _ m_X7_scores_f9) (fun _ h9 => h9) rfl (by decide +kernel) rfl rfl (Nat.le_of_ble_eq_true rfl) dX7_scores_124 (fun H locs hP hD hS => ?_)
        have hP : va_P G vwCl (tk_M c3 q (tk_I S_64 1 (0 : Int32))) H := hP
        have hD : va_D A (tk_M c3 q (tk_I S_64 1 (0 : Int32))) := hD
        refine lv_aload_n hx hb dX7_scores_127 rfl (lv_at hl 0 rfl) ?_
        refine lv_iconst (v := -1) hx hb dX7_scores_128 (by decide) ?_
        refine va_put (D := G) (ci := 7) (v := .int (-1 : Int32)) (ty := .int) (C := RX7) (T := TX7) (N := 29) hx hb hts i_X7_scores_X7 tyX7 tyX7_ok nmX7 hown hE.1 hP hD hS 0 rfl rfl 4 (by decide) (hts _ m_X7_scores_f13) (fun _ h9 => h9) rfl (by decide +kernel) rfl rfl (Nat.le_of_ble_eq_true rfl) dX7_scores_129 (fun H locs hP hD hS => ?_)
        have hP : va_P G vwCl (tk_M c3 q (tk_I (tk_I S_64 1 (0 : Int32)) 4 (-1 : Int32))) H := hP
        have hD : va_D A (tk_M c3 q (tk_I (tk_I S_64 1 (0 : Int32)) 4 (-1 : Int32))) := hD
        exact tk_rv hQ (congrArg (tk_M c3 q) (tk_s1 hf)) hx hb hr hlocks hP hD hS dX7_scores_132
      · have hf := tk_neg hf h7
        refine lv_aload_n hx hb dX7_scores_69 rfl (lv_at hl 0 rfl) ?_
        refine va_get (D := G) (ci := 7) (v := .ref (q 24)) (C := RX7) (T := TX7) (N := 29) hx hb hts i_X7_scores_X7 hown hE.1 hP 0 rfl rfl 26 (by decide) (hts _ m_X7_scores_f52) (fun _ h9 => h9) rfl dX7_scores_70 ?_
        refine lv_iload_n hx hb dX7_scores_73 rfl (lv_at hl 1 rfl) ?_
        refine lv_dup2_11 hx hb dX7_scores_74 rfl rfl ?_
        obtain ⟨h8, hf⟩ := tk_ok hf
        refine va_iald (f := (S_64.2.2.1 4)) hx hb hE.1 hP 7 0 rfl rfl h8 dX7_scores_75 ?_
        refine lv_aload_n hx hb dX7_scores_76 rfl (lv_at hl 0 rfl) ?_
        refine lv_iload_n hx hb dX7_scores_77 rfl (lv_at hl 1 rfl) ?_
        obtain ⟨r9, h10, hf⟩ := tk_b1s hf
        refine tk_ci (ws' := (tk_M c3 q S_64)) (va_runV (As := [.int x3_64]) (rest := [.int ((S_64.2.2.1 4) x3_64.toNatClampNeg), .int x3_64, .ref (q 24)]) ⟨hx, hb, hml, hown, hts⟩ (c_X7_sideOf l G c3 q S_64 x3_64 r9 h10 H.size) (cwV 1 hts gX7_scores_X7_sideOf rfl rfl rfl hv_X7_sideOf ⟨Nat.le_of_ble_eq_true rfl, Nat.le_of_ble_eq_true rfl⟩) (tk_pV hE hP hD 0 rfl rfl) rfl rfl hl.1 rfl (lv_room (Nat.le_of_ble_eq_true rfl)) dX7_scores_78 ⟨Nat.zero_le _, Nat.zero_le _⟩) hD hS hA (fun H locs hP hD hS => ?_)
        refine lv_if_ne (tgt := 91) hx hb dX7_scores_81 (by decide) (fun h12 => ?_) (fun h12 => ?_)
        · have hf := tk_neg hf h12
          refine lv_iconst (v := 0) hx hb dX7_scores_91 (by decide) ?_
          exact J_92 x3_64 x3_64 ((S_64.2.2.1 4) x3_64.toNatClampNeg) (0 : Int32) S_64 H locs hP hD hS ls (lv_sub hl [0, 1] rfl) hf
        · have hf := tk_pos hf h12
          refine lv_aload_n hx hb dX7_scores_84 rfl (lv_at hl 0 rfl) ?_
          refine va_get (D := G) (ci := 7) (v := .int (S_64.1 18)) (C := RX7) (T := TX7) (N := 29) hx hb hts i_X7_scores_X7 hown hE.1 hP 0 rfl rfl 28 (by decide) (hts _ m_X7_scores_f161) (fun _ h9 => h9) rfl dX7_scores_85 ?_
          refine lv_goto (tgt := 92) hx hb dX7_scores_88 (by decide) ?_
          exact J_92 x3_64 x3_64 ((S_64.2.2.1 4) x3_64.toNatClampNeg) (S_64.1 18) S_64 H locs hP hD hS ls (lv_sub hl [0, 1] rfl) hf
  have J_62 : ∀ (S_62 : tk_ST) (H : Heap) (locs : List Loc) (_ : va_P G vwCl (tk_M c3 q S_62) H) (_ : va_D A (tk_M c3 q S_62)) (_ : va_S A s.heap H locs) (ls : Array Slot) (_ : lv_has ls 4 [(0, .ref (q 17))]) (_ : f_X7_scores_62 S_62 = some S0), W p l e rm_X7_scores s m ([.ref (q 17), .int p0] : List Value).toArray below meth c H locs 0 0 Q (F0 m 62 ls []) := by
    intro S_62 H locs hP hD hS ls hl hf
    unfold f_X7_scores_62 at hf
    refine lv_iconst (v := 0) hx hb dX7_scores_62 (by decide) ?_
    refine lv_istore_n (lv' := [(3, .int (0 : Int32)), (0, .ref (q 17))]) hx hb dX7_scores_63 rfl hl (by decide) rfl (fun ls hl => ?_)
    exact J_64 64 (0 : Int32) S_62 H locs hP hD hS ls (lv_sub hl [1, 0] rfl) hf
  have J_60 : ∀ (k1_60 : Int32) (k2_60 : Int32) (k3_60 : Int32) (S_60 : tk_ST) (H : Heap) (locs : List Loc) (_ : va_P G vwCl (tk_M c3 q S_60) H) (_ : va_D A (tk_M c3 q S_60)) (_ : va_S A s.heap H locs) (ls : Array Slot) (_ : lv_has ls 4 [(0, .ref (q 17))]) (_ : f_X7_scores_60 k1_60 k2_60 k3_60 S_60 = some S0), W p l e rm_X7_scores s m ([.ref (q 17), .int p0] : List Value).toArray below meth c H locs 0 0 Q (F0 m 60 ls [.int k3_60, .int k2_60, .int k1_60, .ref (q 25)]) := by
    intro k1_60 k2_60 k3_60 S_60 H locs hP hD hS ls hl hf
    unfold f_X7_scores_60 at hf
    refine lv_isub hx hb dX7_scores_60 ?_
    obtain ⟨h13, hf⟩ := tk_ok hf
    refine va_iast (f := (S_60.2.2.1 5)) hx hb hE.1 hP hD hS 8 0 rfl rfl h13 dX7_scores_61 (fun H locs hP hD hS => ?_)
    have hP : va_P G vwCl (tk_M c3 q (tk_A S_60 5 (upd (S_60.2.2.1 5) k1_60.toNatClampNeg (k2_60 - k3_60)))) H := hP
    have hD : va_D A (tk_M c3 q (tk_A S_60 5 (upd (S_60.2.2.1 5) k1_60.toNatClampNeg (k2_60 - k3_60)))) := hD
    obtain ⟨S14, eS14⟩ : ∃ z : tk_ST, z = (tk_A S_60 5 (upd (S_60.2.2.1 5) k1_60.toNatClampNeg (k2_60 - k3_60))) := ⟨_, rfl⟩
    rw [← eS14] at hP hD
    have hf := tk_nm hf eS14
    exact J_62 S14 H locs hP hD hS ls (lv_sub hl [0] rfl) hf
  unfold f_X7_scores at hf
  refine lv_aload_n hx hb dX7_scores_0 rfl (lv_at hl 0 rfl) ?_
  refine lv_iconst (v := 0) hx hb dX7_scores_1 (by decide) ?_
  obtain ⟨r15, h16, hf⟩ := tk_b1s hf
  refine tk_ci (ws' := (tk_M c3 q S)) (va_runV (As := [.int (0 : Int32)]) (rest := []) ⟨hx, hb, hml, hown, hts⟩ (c_X7_counted l G c3 q S (0 : Int32) r15 h16 H.size) (cwV 1 hts gX7_scores_X7_counted rfl rfl rfl hv_X7_counted ⟨Nat.le_of_ble_eq_true rfl, Nat.le_of_ble_eq_true rfl⟩) (tk_pV hE hP hD 0 rfl rfl) rfl rfl hl.1 rfl (lv_room (Nat.le_of_ble_eq_true rfl)) dX7_scores_2 ⟨Nat.zero_le _, Nat.zero_le _⟩) hD hS hA (fun H locs hP hD hS => ?_)
  refine lv_istore_n (lv' := [(2, .int r15), (0, .ref (q 17)), (1, .int p0)]) hx hb dX7_scores_5 rfl hl (by decide) rfl (fun ls hl => ?_)
  refine lv_aload_n hx hb dX7_scores_6 rfl (lv_at hl 1 rfl) ?_
  refine lv_aload_n hx hb dX7_scores_7 rfl (lv_at hl 1 rfl) ?_
  refine lv_iload_n hx hb dX7_scores_8 rfl (lv_at hl 0 rfl) ?_
  obtain ⟨r18, h19, hf⟩ := tk_b1s hf
  refine tk_ci (ws' := (tk_M c3 q S)) (va_runV (As := [.int r15]) (rest := [.ref (q 17)]) ⟨hx, hb, hml, hown, hts⟩ (c_X7_gameCount l G c3 q S r15 r18 h19 H.size) (cwV 1 hts gX7_scores_X7_gameCount rfl rfl rfl hv_X7_gameCount ⟨Nat.le_of_ble_eq_true rfl, Nat.le_of_ble_eq_true rfl⟩) (tk_pV hE hP hD 0 rfl rfl) rfl rfl hl.1 rfl (lv_room (Nat.le_of_ble_eq_true rfl)) dX7_scores_9 ⟨Nat.zero_le _, Nat.zero_le _⟩) hD hS hA (fun H locs hP hD hS => ?_)
  refine lv_iload_n hx hb dX7_scores_12 rfl (lv_at hl 2 rfl) ?_
  refine lv_iadd hx hb dX7_scores_13 ?_
  refine va_put (D := G) (ci := 7) (v := .int (r18 + p0)) (ty := .int) (C := RX7) (T := TX7) (N := 29) hx hb hts i_X7_scores_X7 tyX7 tyX7_ok nmX7 hown hE.1 hP hD hS 0 rfl rfl 28 (by decide) (hts _ m_X7_scores_f161) (fun _ h9 => h9) rfl (by decide +kernel) rfl rfl (Nat.le_of_ble_eq_true rfl) dX7_scores_14 (fun H locs hP hD hS => ?_)
  have hP : va_P G vwCl (tk_M c3 q (tk_I S 18 (r18 + p0))) H := hP
  have hD : va_D A (tk_M c3 q (tk_I S 18 (r18 + p0))) := hD
  refine lv_aload_n hx hb dX7_scores_17 rfl (lv_at hl 1 rfl) ?_
  refine va_get (D := G) (ci := 7) (v := .ref (q 25)) (C := RX7) (T := TX7) (N := 29) hx hb hts i_X7_scores_X7 hown hE.1 hP 0 rfl rfl 27 (by decide) (hts _ m_X7_scores_f55) (fun _ h9 => h9) rfl dX7_scores_18 ?_
  refine lv_aload_n hx hb dX7_scores_21 rfl (lv_at hl 1 rfl) ?_
  refine va_get (D := G) (ci := 7) (v := .int (S.1 8)) (C := RX7) (T := TX7) (N := 29) hx hb hts i_X7_scores_X7 hown hE.1 hP 0 rfl rfl 11 (by decide) (hts _ m_X7_scores_f31) (fun _ h9 => h9) rfl dX7_scores_22 ?_
  obtain ⟨h21, hf⟩ := tk_ok hf
  refine va_iald (f := (S.2.2.1 5)) hx hb hE.1 hP 8 0 rfl rfl h21 dX7_scores_25 ?_
  refine lv_if_le (tgt := 62) hx hb dX7_scores_26 (by decide) (fun h22 => ?_) (fun h22 => ?_)
  · have hf := tk_pos hf h22
    exact J_62 (tk_I S 18 (r18 + p0)) H locs hP hD hS ls (lv_sub hl [1] rfl) hf
  · have hf := tk_neg hf h22
    refine lv_aload_n hx hb dX7_scores_29 rfl (lv_at hl 1 rfl) ?_
    refine lv_dup hx hb dX7_scores_30 rfl ?_
    refine va_get (D := G) (ci := 7) (v := .int (r18 + p0)) (C := RX7) (T := TX7) (N := 29) hx hb hts i_X7_scores_X7 hown hE.1 hP 0 rfl rfl 28 (by decide) (hts _ m_X7_scores_f161) (fun _ h9 => h9) rfl dX7_scores_31 ?_
    refine lv_iconst (v := 2) hx hb dX7_scores_34 (by decide) ?_
    refine lv_imul hx hb dX7_scores_35 ?_
    refine va_put (D := G) (ci := 7) (v := .int ((r18 + p0) * (2 : Int32))) (ty := .int) (C := RX7) (T := TX7) (N := 29) hx hb hts i_X7_scores_X7 tyX7 tyX7_ok nmX7 hown hE.1 hP hD hS 0 rfl rfl 28 (by decide) (hts _ m_X7_scores_f161) (fun _ h9 => h9) rfl (by decide +kernel) rfl rfl (Nat.le_of_ble_eq_true rfl) dX7_scores_36 (fun H locs hP hD hS => ?_)
    have hP : va_P G vwCl (tk_M c3 q (tk_I (tk_I S 18 (r18 + p0)) 18 ((r18 + p0) * (2 : Int32)))) H := hP
    have hD : va_D A (tk_M c3 q (tk_I (tk_I S 18 (r18 + p0)) 18 ((r18 + p0) * (2 : Int32)))) := hD
    refine lv_aload_n hx hb dX7_scores_39 rfl (lv_at hl 1 rfl) ?_
    refine va_get (D := G) (ci := 7) (v := .ref (q 25)) (C := RX7) (T := TX7) (N := 29) hx hb hts i_X7_scores_X7 hown hE.1 hP 0 rfl rfl 27 (by decide) (hts _ m_X7_scores_f55) (fun _ h9 => h9) rfl dX7_scores_40 ?_
    refine lv_aload_n hx hb dX7_scores_43 rfl (lv_at hl 1 rfl) ?_
    refine va_get (D := G) (ci := 7) (v := .int (S.1 8)) (C := RX7) (T := TX7) (N := 29) hx hb hts i_X7_scores_X7 hown hE.1 hP 0 rfl rfl 11 (by decide) (hts _ m_X7_scores_f31) (fun _ h9 => h9) rfl dX7_scores_44 ?_
    refine lv_dup2_11 hx hb dX7_scores_47 rfl rfl ?_
    obtain ⟨h23, hf⟩ := tk_ok hf
    refine va_iald (f := (S.2.2.1 5)) hx hb hE.1 hP 8 0 rfl rfl h23 dX7_scores_48 ?_
    refine lv_iload_n hx hb dX7_scores_49 rfl (lv_at hl 0 rfl) ?_
    refine lv_bipush (v := 105) hx hb dX7_scores_50 (by decide) ?_
    refine lv_icmp_le (tgt := 59) hx hb dX7_scores_52 (by decide) (fun h24 => ?_) (fun h24 => ?_)
    · have hf := tk_pos hf h24
      refine lv_iconst (v := 0) hx hb dX7_scores_59 (by decide) ?_
      exact J_60 (S.1 8) ((S.2.2.1 5) (S.1 8).toNatClampNeg) (0 : Int32) (tk_I (tk_I S 18 (r18 + p0)) 18 ((r18 + p0) * (2 : Int32))) H locs hP hD hS ls (lv_sub hl [1] rfl) hf
    · have hf := tk_neg hf h24
      refine lv_iconst (v := 1) hx hb dX7_scores_55 (by decide) ?_
      refine lv_goto (tgt := 60) hx hb dX7_scores_56 (by decide) ?_
      exact J_60 (S.1 8) ((S.2.2.1 5) (S.1 8).toNatClampNeg) (1 : Int32) (tk_I (tk_I S 18 (r18 + p0)) 18 ((r18 + p0) * (2 : Int32))) H locs hP hD hS ls (lv_sub hl [1] rfl) hf
abbrev rm_X7_plays : Room := { frames := 4, cells := 0, slots := 0, locals := 91 }
set_option maxHeartbeats 4000000 in
set_option maxRecDepth 100000 in
theorem c_X7_plays (l : Launch) (G : va_G) (c3 : ClassId × ClassId × ClassId) (q : Nat → Nat) (S : tk_ST) (p0 : Int32) (r0 : Int32) (S0 : tk_ST) (hf : f_X7_plays p0 S = some (r0, S0)) : tk_Mi l yX7_plays wsX7_plays rm_X7_plays G c3 [.ref (q 17), .int p0] (tk_M c3 q S) (tk_M c3 q S0) r0 := by
  refine tk_ofi (cc := cX7_plays) (maxL := 4) (ret := some .int) (by decide) rfl (Nat.le_of_ble_eq_true rfl) ?_
  intro p e s m below meth c A Q ls H locs hx hb hml hr hts hown hlocks hE hA hP hD hS hZ hQ hl
  have hl : lv_has ls 4 [(0, .ref (q 17)), (1, .int p0)] := hl
  have hown : s.vm.findClass RX7 = some m.cls := hown
  have J_104 : ∀ (n_104 : Nat), ∀ (x2_104 : Int32) (x3_104 : Int32) (S_104 : tk_ST) (H : Heap) (locs : List Loc) (_ : va_P G vwCl (tk_M c3 q S_104) H) (_ : va_D A (tk_M c3 q S_104)) (_ : va_S A s.heap H locs) (ls : Array Slot) (_ : lv_has ls 4 [(0, .ref (q 17)), (2, .int x2_104), (3, .int x3_104)]) (_ : f_X7_plays_104 n_104 x2_104 x3_104 S_104 = some (r0, S0)), W p l e rm_X7_plays s m ([.ref (q 17), .int p0] : List Value).toArray below meth c H locs 0 0 Q (F0 m 104 ls []) := by
    intro n_104
    induction n_104 with
    | zero =>
      intro x2_104 x3_104 S_104 H locs hP hD hS ls hl hf
      exact absurd hf (by intro h9; cases h9)
    | succ n_104 ih_104 =>
      intro x2_104 x3_104 S_104 H locs hP hD hS ls hl hf
      rw [f_X7_plays_104_s] at hf
      refine lv_iload_n hx hb dX7_plays_104 rfl (lv_at hl 2 rfl) ?_
      refine lv_iconst (v := 4) hx hb dX7_plays_105 (by decide) ?_
      refine lv_icmp_ge (tgt := 133) hx hb dX7_plays_106 (by decide) (fun h1 => ?_) (fun h1 => ?_)
      · have hf := tk_pos hf h1
        refine lv_aload_n hx hb dX7_plays_133 rfl (lv_at hl 0 rfl) ?_
        refine lv_dup hx hb dX7_plays_134 rfl ?_
        refine va_get (D := G) (ci := 7) (v := .int (S_104.1 17)) (C := RX7) (T := TX7) (N := 29) hx hb hts i_X7_plays_X7 hown hE.1 hP 0 rfl rfl 24 (by decide) (hts _ m_X7_plays_f104) (fun _ h9 => h9) rfl dX7_plays_135 ?_
        refine lv_iconst (v := 1) hx hb dX7_plays_138 (by decide) ?_
        refine lv_iadd hx hb dX7_plays_139 ?_
        refine va_put (D := G) (ci := 7) (v := .int ((S_104.1 17) + (1 : Int32))) (ty := .int) (C := RX7) (T := TX7) (N := 29) hx hb hts i_X7_plays_X7 tyX7 tyX7_ok nmX7 hown hE.1 hP hD hS 0 rfl rfl 24 (by decide) (hts _ m_X7_plays_f104) (fun _ h9 => h9) rfl (by decide +kernel) rfl rfl (Nat.le_of_ble_eq_true rfl) dX7_plays_140 (fun H locs hP hD hS => ?_)
        have hP : va_P G vwCl (tk_M c3 q (tk_I S_104 17 ((S_104.1 17) + (1 : Int32)))) H := hP
        have hD : va_D A (tk_M c3 q (tk_I S_104 17 ((S_104.1 17) + (1 : Int32)))) := hD
        refine lv_aload_n hx hb dX7_plays_143 rfl (lv_at hl 0 rfl) ?_
        obtain ⟨r2, h3, hf⟩ := tk_b1s hf
        refine tk_ci (ws' := (tk_M c3 q (tk_I S_104 17 ((S_104.1 17) + (1 : Int32))))) (va_runV (As := []) (rest := []) ⟨hx, hb, hml, hown, hts⟩ (c_X7_pagatCount l G c3 q (tk_I S_104 17 ((S_104.1 17) + (1 : Int32))) r2 h3 H.size) (cwV 0 hts gX7_plays_X7_pagatCount rfl rfl rfl hv_X7_pagatCount ⟨Nat.le_of_ble_eq_true rfl, Nat.le_of_ble_eq_true rfl⟩) (tk_pV hE hP hD 0 rfl rfl) rfl rfl hl.1 rfl (lv_room (Nat.le_of_ble_eq_true rfl)) dX7_plays_144 ⟨Nat.zero_le _, Nat.zero_le _⟩) hD hS hA (fun H locs hP hD hS => ?_)
        refine lv_aload_n hx hb dX7_plays_147 rfl (lv_at hl 0 rfl) ?_
        obtain ⟨r5, h6, hf⟩ := tk_b1s hf
        refine tk_ci (ws' := (tk_M c3 q (tk_I S_104 17 ((S_104.1 17) + (1 : Int32))))) (va_runV (As := []) (rest := [.int r2]) ⟨hx, hb, hml, hown, hts⟩ (c_X7_kingCount l G c3 q (tk_I S_104 17 ((S_104.1 17) + (1 : Int32))) r5 h6 H.size) (cwV 0 hts gX7_plays_X7_kingCount rfl rfl rfl hv_X7_kingCount ⟨Nat.le_of_ble_eq_true rfl, Nat.le_of_ble_eq_true rfl⟩) (tk_pV hE hP hD 0 rfl rfl) rfl rfl hl.1 rfl (lv_room (Nat.le_of_ble_eq_true rfl)) dX7_plays_148 ⟨Nat.zero_le _, Nat.zero_le _⟩) hD hS hA (fun H locs hP hD hS => ?_)
        refine lv_iadd hx hb dX7_plays_151 ?_
        refine lv_istore_n (lv' := [(3, .int (r2 + r5)), (0, .ref (q 17)), (2, .int x2_104)]) hx hb dX7_plays_152 rfl hl (by decide) rfl (fun ls hl => ?_)
        refine lv_aload_n hx hb dX7_plays_153 rfl (lv_at hl 1 rfl) ?_
        refine lv_iconst (v := 0) hx hb dX7_plays_154 (by decide) ?_
        refine va_put (D := G) (ci := 7) (v := .int (0 : Int32)) (ty := .int) (C := RX7) (T := TX7) (N := 29) hx hb hts i_X7_plays_X7 tyX7 tyX7_ok nmX7 hown hE.1 hP hD hS 0 rfl rfl 22 (by decide) (hts _ m_X7_plays_f101) (fun _ h9 => h9) rfl (by decide +kernel) rfl rfl (Nat.le_of_ble_eq_true rfl) dX7_plays_155 (fun H locs hP hD hS => ?_)
        have hP : va_P G vwCl (tk_M c3 q (tk_I (tk_I S_104 17 ((S_104.1 17) + (1 : Int32))) 15 (0 : Int32))) H := hP
        have hD : va_D A (tk_M c3 q (tk_I (tk_I S_104 17 ((S_104.1 17) + (1 : Int32))) 15 (0 : Int32))) := hD
        refine lv_aload_n hx hb dX7_plays_158 rfl (lv_at hl 1 rfl) ?_
        refine lv_iload_n hx hb dX7_plays_159 rfl (lv_at hl 2 rfl) ?_
        refine va_put (D := G) (ci := 7) (v := .int x2_104) (ty := .int) (C := RX7) (T := TX7) (N := 29) hx hb hts i_X7_plays_X7 tyX7 tyX7_ok nmX7 hown hE.1 hP hD hS 0 rfl rfl 23 (by decide) (hts _ m_X7_plays_f107) (fun _ h9 => h9) rfl (by decide +kernel) rfl rfl (Nat.le_of_ble_eq_true rfl) dX7_plays_160 (fun H locs hP hD hS => ?_)
        have hP : va_P G vwCl (tk_M c3 q (tk_I (tk_I (tk_I S_104 17 ((S_104.1 17) + (1 : Int32))) 15 (0 : Int32)) 16 x2_104)) H := hP
        have hD : va_D A (tk_M c3 q (tk_I (tk_I (tk_I S_104 17 ((S_104.1 17) + (1 : Int32))) 15 (0 : Int32)) 16 x2_104)) := hD
        refine lv_aload_n hx hb dX7_plays_163 rfl (lv_at hl 1 rfl) ?_
        refine lv_iload_n hx hb dX7_plays_164 rfl (lv_at hl 2 rfl) ?_
        refine va_put (D := G) (ci := 7) (v := .int x2_104) (ty := .int) (C := RX7) (T := TX7) (N := 29) hx hb hts i_X7_plays_X7 tyX7 tyX7_ok nmX7 hown hE.1 hP hD hS 0 rfl rfl 4 (by decide) (hts _ m_X7_plays_f13) (fun _ h9 => h9) rfl (by decide +kernel) rfl rfl (Nat.le_of_ble_eq_true rfl) dX7_plays_165 (fun H locs hP hD hS => ?_)
        have hP : va_P G vwCl (tk_M c3 q (tk_I (tk_I (tk_I (tk_I S_104 17 ((S_104.1 17) + (1 : Int32))) 15 (0 : Int32)) 16 x2_104) 4 x2_104)) H := hP
        have hD : va_D A (tk_M c3 q (tk_I (tk_I (tk_I (tk_I S_104 17 ((S_104.1 17) + (1 : Int32))) 15 (0 : Int32)) 16 x2_104) 4 x2_104)) := hD
        refine lv_aload_n hx hb dX7_plays_168 rfl (lv_at hl 1 rfl) ?_
        refine va_get (D := G) (ci := 7) (v := .int ((S_104.1 17) + (1 : Int32))) (C := RX7) (T := TX7) (N := 29) hx hb hts i_X7_plays_X7 hown hE.1 hP 0 rfl rfl 24 (by decide) (hts _ m_X7_plays_f104) (fun _ h9 => h9) rfl dX7_plays_169 ?_
        refine lv_bipush (v := 12) hx hb dX7_plays_172 (by decide) ?_
        refine lv_icmp_ne (tgt := 182) hx hb dX7_plays_174 (by decide) (fun h8 => ?_) (fun h8 => ?_)
        · have hf := tk_neg hf h8
          refine lv_iload_n hx hb dX7_plays_182 rfl (lv_at hl 2 rfl) ?_
          exact tk_ri hQ (tk_s2 hf).1 (congrArg (tk_M c3 q) (tk_s2 hf).2) hx hb hr hlocks hP hD hS dX7_plays_183
        · have hf := tk_pos hf h8
          refine lv_aload_n hx hb dX7_plays_177 rfl (lv_at hl 1 rfl) ?_
          refine lv_iload_n hx hb dX7_plays_178 rfl (lv_at hl 0 rfl) ?_
          obtain ⟨S11, h10, hf⟩ := tk_b1s hf
          refine tk_cv (ws' := (tk_M c3 q S11)) (va_runV (As := [.int (r2 + r5)]) (rest := []) ⟨hx, hb, hml, hown, hts⟩ (c_X7_scores l G c3 q (tk_I (tk_I (tk_I (tk_I S_104 17 ((S_104.1 17) + (1 : Int32))) 15 (0 : Int32)) 16 x2_104) 4 x2_104) (r2 + r5) S11 h10 H.size) (cwV 1 hts gX7_plays_X7_scores rfl rfl rfl hv_X7_scores ⟨Nat.le_of_ble_eq_true rfl, Nat.le_of_ble_eq_true rfl⟩) (tk_pV hE hP hD 0 rfl rfl) rfl rfl hl.1 rfl (lv_room (Nat.le_of_ble_eq_true rfl)) dX7_plays_179 ⟨Nat.zero_le _, Nat.zero_le _⟩) hD hS hA (fun H locs hP hD hS => ?_)
          refine lv_iload_n hx hb dX7_plays_182 rfl (lv_at hl 2 rfl) ?_
          exact tk_ri hQ (tk_s2 hf).1 (congrArg (tk_M c3 q) (tk_s2 hf).2) hx hb hr hlocks hP hD hS dX7_plays_183
      · have hf := tk_neg hf h1
        refine lv_aload_n hx hb dX7_plays_109 rfl (lv_at hl 0 rfl) ?_
        refine va_get (D := G) (ci := 7) (v := .ref (q 23)) (C := RX7) (T := TX7) (N := 29) hx hb hts i_X7_plays_X7 hown hE.1 hP 0 rfl rfl 25 (by decide) (hts _ m_X7_plays_f49) (fun _ h9 => h9) rfl dX7_plays_110 ?_
        refine lv_iload_n hx hb dX7_plays_113 rfl (lv_at hl 1 rfl) ?_
        refine lv_dup2_11 hx hb dX7_plays_114 rfl rfl ?_
        obtain ⟨h12, hf⟩ := tk_ok hf
        refine va_lald (f := (S_104.2.2.2 1)) hx hb hE.1 hP 6 1 rfl rfl h12 dX7_plays_115 ?_
        refine lv_aload_n hx hb dX7_plays_116 rfl (lv_at hl 0 rfl) ?_
        refine va_get (D := G) (ci := 7) (v := .ref (q 22)) (C := RX7) (T := TX7) (N := 29) hx hb hts i_X7_plays_X7 hown hE.1 hP 0 rfl rfl 21 (by decide) (hts _ m_X7_plays_f46) (fun _ h9 => h9) rfl dX7_plays_117 ?_
        refine lv_iload_n hx hb dX7_plays_120 rfl (lv_at hl 2 rfl) ?_
        obtain ⟨h13, hf⟩ := tk_ok hf
        refine va_iald (f := (S_104.2.2.1 3)) hx hb hE.1 hP 5 0 rfl rfl h13 dX7_plays_121 ?_
        obtain ⟨r14, h15, hf⟩ := tk_b1s hf
        refine tk_cl (ws' := (tk_M c3 q S_104)) (va_runS (As := [.int ((S_104.2.2.1 3) x3_104.toNatClampNeg)]) (rest := [.long ((S_104.2.2.2 1) x2_104.toNatClampNeg), .int x2_104, .ref (q 23)]) ⟨hx, hb, hml, hown, hts⟩ (c_X7_bit l G c3 (tk_M c3 q S_104) ((S_104.2.2.1 3) x3_104.toNatClampNeg) r14 h15 H.size) (va_cwS 1 hts gX7_plays_X7_bit rfl rfl rfl hs_X7_bit ⟨Nat.le_of_ble_eq_true rfl, Nat.le_of_ble_eq_true rfl⟩) (tk_pS hE hP hD) rfl rfl hl.1 rfl (lv_room (Nat.le_of_ble_eq_true rfl)) dX7_plays_122 ⟨Nat.zero_le _, Nat.zero_le _⟩) hD hS hA (fun H locs hP hD hS => ?_)
        refine lv_lor hx hb dX7_plays_125 ?_
        obtain ⟨h17, hf⟩ := tk_ok hf
        refine va_last (f := (S_104.2.2.2 1)) hx hb hE.1 hP hD hS 6 1 rfl rfl h17 dX7_plays_126 (fun H locs hP hD hS => ?_)
        have hP : va_P G vwCl (tk_M c3 q (tk_B S_104 1 (vp_updL (S_104.2.2.2 1) x2_104.toNatClampNeg (((S_104.2.2.2 1) x2_104.toNatClampNeg) ||| r14)))) H := hP
        have hD : va_D A (tk_M c3 q (tk_B S_104 1 (vp_updL (S_104.2.2.2 1) x2_104.toNatClampNeg (((S_104.2.2.2 1) x2_104.toNatClampNeg) ||| r14)))) := hD
        obtain ⟨S18, eS18⟩ : ∃ z : tk_ST, z = (tk_B S_104 1 (vp_updL (S_104.2.2.2 1) x2_104.toNatClampNeg (((S_104.2.2.2 1) x2_104.toNatClampNeg) ||| r14))) := ⟨_, rfl⟩
        rw [← eS18] at hP hD
        have hf := tk_nm hf eS18
        refine lv_iinc (v := (x3_104 + (1 : Int32))) (lv' := [(3, .int (x3_104 + (1 : Int32))), (0, .ref (q 17)), (2, .int x2_104)]) hx hb dX7_plays_127 hl (k := 2) rfl rfl (by decide) rfl (fun ls hl => ?_)
        refine lv_goto (tgt := 104) hx hb dX7_plays_130 (by decide) ?_
        exact ih_104 x2_104 (x3_104 + (1 : Int32)) S18 H locs hP hD hS ls (lv_sub hl [1, 2, 0] rfl) hf
  have J_65 : ∀ (k1_65 : Int32) (S_65 : tk_ST) (H : Heap) (locs : List Loc) (_ : va_P G vwCl (tk_M c3 q S_65) H) (_ : va_D A (tk_M c3 q S_65)) (_ : va_S A s.heap H locs) (ls : Array Slot) (_ : lv_has ls 4 [(0, .ref (q 17))]) (_ : f_X7_plays_65 k1_65 S_65 = some (r0, S0)), W p l e rm_X7_plays s m ([.ref (q 17), .int p0] : List Value).toArray below meth c H locs 0 0 Q (F0 m 65 ls [.int k1_65, .ref (q 17)]) := by
    intro k1_65 S_65 H locs hP hD hS ls hl hf
    unfold f_X7_plays_65 at hf
    obtain ⟨h19, hf⟩ := tk_yes hf
    refine va_put (D := G) (ci := 7) (v := .int k1_65) (ty := .boolean) (C := RX7) (T := TX7) (N := 29) hx hb hts i_X7_plays_X7 tyX7 tyX7_ok nmX7 hown hE.1 hP hD hS 0 rfl rfl 15 (by decide) (hts _ m_X7_plays_f87) (fun _ h9 => h9) rfl (by decide +kernel) (tk_znar rfl h19) (tk_zfit h19) (Nat.le_of_ble_eq_true rfl) dX7_plays_65 (fun H locs hP hD hS => ?_)
    have hP : va_P G vwCl (tk_M c3 q (tk_I S_65 12 k1_65)) H := hP
    have hD : va_D A (tk_M c3 q (tk_I S_65 12 k1_65)) := hD
    refine lv_aload_n hx hb dX7_plays_68 rfl (lv_at hl 0 rfl) ?_
    refine va_get (D := G) (ci := 7) (v := .int (S_65.1 15)) (C := RX7) (T := TX7) (N := 29) hx hb hts i_X7_plays_X7 hown hE.1 hP 0 rfl rfl 22 (by decide) (hts _ m_X7_plays_f101) (fun _ h9 => h9) rfl dX7_plays_69 ?_
    refine lv_iconst (v := 4) hx hb dX7_plays_72 (by decide) ?_
    refine lv_icmp_ge (tgt := 90) hx hb dX7_plays_73 (by decide) (fun h20 => ?_) (fun h20 => ?_)
    · have hf := tk_pos hf h20
      refine lv_aload_n hx hb dX7_plays_90 rfl (lv_at hl 0 rfl) ?_
      refine va_get (D := G) (ci := 7) (v := .int (S_65.1 16)) (C := RX7) (T := TX7) (N := 29) hx hb hts i_X7_plays_X7 hown hE.1 hP 0 rfl rfl 23 (by decide) (hts _ m_X7_plays_f107) (fun _ h9 => h9) rfl dX7_plays_91 ?_
      refine lv_aload_n hx hb dX7_plays_94 rfl (lv_at hl 0 rfl) ?_
      obtain ⟨r21, h22, hf⟩ := tk_b1s hf
      refine tk_ci (ws' := (tk_M c3 q (tk_I S_65 12 k1_65))) (va_runV (As := []) (rest := [.int (S_65.1 16)]) ⟨hx, hb, hml, hown, hts⟩ (c_X7_best l G c3 q (tk_I S_65 12 k1_65) r21 h22 H.size) (cwV 0 hts gX7_plays_X7_best rfl rfl rfl hv_X7_best ⟨Nat.le_of_ble_eq_true rfl, Nat.le_of_ble_eq_true rfl⟩) (tk_pV hE hP hD 0 rfl rfl) rfl rfl hl.1 rfl (lv_room (Nat.le_of_ble_eq_true rfl)) dX7_plays_95 ⟨Nat.zero_le _, Nat.zero_le _⟩) hD hS hA (fun H locs hP hD hS => ?_)
      refine lv_iadd hx hb dX7_plays_98 ?_
      refine lv_iconst (v := 4) hx hb dX7_plays_99 (by decide) ?_
      refine tk_irem hx hb dX7_plays_100 (by decide) ?_
      refine lv_istore_n (lv' := [(2, .int (tk_rem ((S_65.1 16) + r21) (4 : Int32))), (0, .ref (q 17))]) hx hb dX7_plays_101 rfl hl (by decide) rfl (fun ls hl => ?_)
      refine lv_iconst (v := 0) hx hb dX7_plays_102 (by decide) ?_
      refine lv_istore_n (lv' := [(3, .int (0 : Int32)), (2, .int (tk_rem ((S_65.1 16) + r21) (4 : Int32))), (0, .ref (q 17))]) hx hb dX7_plays_103 rfl hl (by decide) rfl (fun ls hl => ?_)
      exact J_104 64 (tk_rem ((S_65.1 16) + r21) (4 : Int32)) (0 : Int32) (tk_I S_65 12 k1_65) H locs hP hD hS ls (lv_sub hl [2, 1, 0] rfl) hf
    · have hf := tk_neg hf h20
      refine lv_aload_n hx hb dX7_plays_76 rfl (lv_at hl 0 rfl) ?_
      refine lv_aload_n hx hb dX7_plays_77 rfl (lv_at hl 0 rfl) ?_
      refine va_get (D := G) (ci := 7) (v := .int (S_65.1 4)) (C := RX7) (T := TX7) (N := 29) hx hb hts i_X7_plays_X7 hown hE.1 hP 0 rfl rfl 4 (by decide) (hts _ m_X7_plays_f13) (fun _ h9 => h9) rfl dX7_plays_78 ?_
      refine lv_iconst (v := 1) hx hb dX7_plays_81 (by decide) ?_
      refine lv_iadd hx hb dX7_plays_82 ?_
      refine lv_iconst (v := 4) hx hb dX7_plays_83 (by decide) ?_
      refine tk_irem hx hb dX7_plays_84 (by decide) ?_
      refine va_put (D := G) (ci := 7) (v := .int (tk_rem ((S_65.1 4) + (1 : Int32)) (4 : Int32))) (ty := .int) (C := RX7) (T := TX7) (N := 29) hx hb hts i_X7_plays_X7 tyX7 tyX7_ok nmX7 hown hE.1 hP hD hS 0 rfl rfl 4 (by decide) (hts _ m_X7_plays_f13) (fun _ h9 => h9) rfl (by decide +kernel) rfl rfl (Nat.le_of_ble_eq_true rfl) dX7_plays_85 (fun H locs hP hD hS => ?_)
      have hP : va_P G vwCl (tk_M c3 q (tk_I (tk_I S_65 12 k1_65) 4 (tk_rem ((S_65.1 4) + (1 : Int32)) (4 : Int32)))) H := hP
      have hD : va_D A (tk_M c3 q (tk_I (tk_I S_65 12 k1_65) 4 (tk_rem ((S_65.1 4) + (1 : Int32)) (4 : Int32)))) := hD
      refine lv_iconst (v := -1) hx hb dX7_plays_88 (by decide) ?_
      exact tk_ri hQ (tk_s2 hf).1 (congrArg (tk_M c3 q) (tk_s2 hf).2) hx hb hr hlocks hP hD hS dX7_plays_89
  have J_60 : ∀ (S_60 : tk_ST) (H : Heap) (locs : List Loc) (_ : va_P G vwCl (tk_M c3 q S_60) H) (_ : va_D A (tk_M c3 q S_60)) (_ : va_S A s.heap H locs) (ls : Array Slot) (_ : lv_has ls 4 [(0, .ref (q 17))]) (_ : f_X7_plays_60 S_60 = some (r0, S0)), W p l e rm_X7_plays s m ([.ref (q 17), .int p0] : List Value).toArray below meth c H locs 0 0 Q (F0 m 60 ls [.ref (q 17)]) := by
    intro S_60 H locs hP hD hS ls hl hf
    unfold f_X7_plays_60 at hf
    refine lv_iconst (v := 1) hx hb dX7_plays_60 (by decide) ?_
    refine lv_goto (tgt := 65) hx hb dX7_plays_61 (by decide) ?_
    exact J_65 (1 : Int32) S_60 H locs hP hD hS ls (lv_sub hl [0] rfl) hf
  have J_64 : ∀ (S_64 : tk_ST) (H : Heap) (locs : List Loc) (_ : va_P G vwCl (tk_M c3 q S_64) H) (_ : va_D A (tk_M c3 q S_64)) (_ : va_S A s.heap H locs) (ls : Array Slot) (_ : lv_has ls 4 [(0, .ref (q 17))]) (_ : f_X7_plays_64 S_64 = some (r0, S0)), W p l e rm_X7_plays s m ([.ref (q 17), .int p0] : List Value).toArray below meth c H locs 0 0 Q (F0 m 64 ls [.ref (q 17)]) := by
    intro S_64 H locs hP hD hS ls hl hf
    unfold f_X7_plays_64 at hf
    refine lv_iconst (v := 0) hx hb dX7_plays_64 (by decide) ?_
    exact J_65 (0 : Int32) S_64 H locs hP hD hS ls (lv_sub hl [0] rfl) hf
  unfold f_X7_plays at hf
  refine lv_aload_n hx hb dX7_plays_0 rfl (lv_at hl 0 rfl) ?_
  refine va_get (D := G) (ci := 7) (v := .ref (q 19)) (C := RX7) (T := TX7) (N := 29) hx hb hts i_X7_plays_X7 hown hE.1 hP 0 rfl rfl 6 (by decide) (hts _ m_X7_plays_f20) (fun _ h9 => h9) rfl dX7_plays_1 ?_
  refine lv_aload_n hx hb dX7_plays_4 rfl (lv_at hl 0 rfl) ?_
  refine va_get (D := G) (ci := 7) (v := .int (S.1 4)) (C := RX7) (T := TX7) (N := 29) hx hb hts i_X7_plays_X7 hown hE.1 hP 0 rfl rfl 4 (by decide) (hts _ m_X7_plays_f13) (fun _ h9 => h9) rfl dX7_plays_5 ?_
  refine lv_dup2_11 hx hb dX7_plays_8 rfl rfl ?_
  obtain ⟨h24, hf⟩ := tk_ok hf
  refine va_lald (f := (S.2.2.2 0)) hx hb hE.1 hP 2 1 rfl rfl h24 dX7_plays_9 ?_
  refine lv_iload_n hx hb dX7_plays_10 rfl (lv_at hl 1 rfl) ?_
  obtain ⟨r25, h26, hf⟩ := tk_b1s hf
  refine tk_cl (ws' := (tk_M c3 q S)) (va_runS (As := [.int p0]) (rest := [.long ((S.2.2.2 0) (S.1 4).toNatClampNeg), .int (S.1 4), .ref (q 19)]) ⟨hx, hb, hml, hown, hts⟩ (c_X7_bit l G c3 (tk_M c3 q S) p0 r25 h26 H.size) (va_cwS 1 hts gX7_plays_X7_bit rfl rfl rfl hs_X7_bit ⟨Nat.le_of_ble_eq_true rfl, Nat.le_of_ble_eq_true rfl⟩) (tk_pS hE hP hD) rfl rfl hl.1 rfl (lv_room (Nat.le_of_ble_eq_true rfl)) dX7_plays_11 ⟨Nat.zero_le _, Nat.zero_le _⟩) hD hS hA (fun H locs hP hD hS => ?_)
  refine lv_lsub hx hb dX7_plays_14 ?_
  obtain ⟨h28, hf⟩ := tk_ok hf
  refine va_last (f := (S.2.2.2 0)) hx hb hE.1 hP hD hS 2 1 rfl rfl h28 dX7_plays_15 (fun H locs hP hD hS => ?_)
  have hP : va_P G vwCl (tk_M c3 q (tk_B S 0 (vp_updL (S.2.2.2 0) (S.1 4).toNatClampNeg (((S.2.2.2 0) (S.1 4).toNatClampNeg) - r25)))) H := hP
  have hD : va_D A (tk_M c3 q (tk_B S 0 (vp_updL (S.2.2.2 0) (S.1 4).toNatClampNeg (((S.2.2.2 0) (S.1 4).toNatClampNeg) - r25)))) := hD
  obtain ⟨S29, eS29⟩ : ∃ z : tk_ST, z = (tk_B S 0 (vp_updL (S.2.2.2 0) (S.1 4).toNatClampNeg (((S.2.2.2 0) (S.1 4).toNatClampNeg) - r25))) := ⟨_, rfl⟩
  rw [← eS29] at hP hD
  have hf := tk_nm hf eS29
  refine lv_aload_n hx hb dX7_plays_16 rfl (lv_at hl 0 rfl) ?_
  refine va_get (D := G) (ci := 7) (v := .ref (q 22)) (C := RX7) (T := TX7) (N := 29) hx hb hts i_X7_plays_X7 hown hE.1 hP 0 rfl rfl 21 (by decide) (hts _ m_X7_plays_f46) (fun _ h9 => h9) rfl dX7_plays_17 ?_
  refine lv_aload_n hx hb dX7_plays_20 rfl (lv_at hl 0 rfl) ?_
  refine va_get (D := G) (ci := 7) (v := .int (S29.1 15)) (C := RX7) (T := TX7) (N := 29) hx hb hts i_X7_plays_X7 hown hE.1 hP 0 rfl rfl 22 (by decide) (hts _ m_X7_plays_f101) (fun _ h9 => h9) rfl dX7_plays_21 ?_
  refine lv_iload_n hx hb dX7_plays_24 rfl (lv_at hl 1 rfl) ?_
  obtain ⟨h30, hf⟩ := tk_ok hf
  refine va_iast (f := (S29.2.2.1 3)) hx hb hE.1 hP hD hS 5 0 rfl rfl h30 dX7_plays_25 (fun H locs hP hD hS => ?_)
  have hP : va_P G vwCl (tk_M c3 q (tk_A S29 3 (upd (S29.2.2.1 3) (S29.1 15).toNatClampNeg p0))) H := hP
  have hD : va_D A (tk_M c3 q (tk_A S29 3 (upd (S29.2.2.1 3) (S29.1 15).toNatClampNeg p0))) := hD
  obtain ⟨S31, eS31⟩ : ∃ z : tk_ST, z = (tk_A S29 3 (upd (S29.2.2.1 3) (S29.1 15).toNatClampNeg p0)) := ⟨_, rfl⟩
  rw [← eS31] at hP hD
  have hf := tk_nm hf eS31
  refine lv_aload_n hx hb dX7_plays_26 rfl (lv_at hl 0 rfl) ?_
  refine lv_dup hx hb dX7_plays_27 rfl ?_
  refine va_get (D := G) (ci := 7) (v := .int (S31.1 15)) (C := RX7) (T := TX7) (N := 29) hx hb hts i_X7_plays_X7 hown hE.1 hP 0 rfl rfl 22 (by decide) (hts _ m_X7_plays_f101) (fun _ h9 => h9) rfl dX7_plays_28 ?_
  refine lv_iconst (v := 1) hx hb dX7_plays_31 (by decide) ?_
  refine lv_iadd hx hb dX7_plays_32 ?_
  refine va_put (D := G) (ci := 7) (v := .int ((S31.1 15) + (1 : Int32))) (ty := .int) (C := RX7) (T := TX7) (N := 29) hx hb hts i_X7_plays_X7 tyX7 tyX7_ok nmX7 hown hE.1 hP hD hS 0 rfl rfl 22 (by decide) (hts _ m_X7_plays_f101) (fun _ h9 => h9) rfl (by decide +kernel) rfl rfl (Nat.le_of_ble_eq_true rfl) dX7_plays_33 (fun H locs hP hD hS => ?_)
  have hP : va_P G vwCl (tk_M c3 q (tk_I S31 15 ((S31.1 15) + (1 : Int32)))) H := hP
  have hD : va_D A (tk_M c3 q (tk_I S31 15 ((S31.1 15) + (1 : Int32)))) := hD
  refine lv_aload_n hx hb dX7_plays_36 rfl (lv_at hl 0 rfl) ?_
  refine lv_aload_n hx hb dX7_plays_37 rfl (lv_at hl 0 rfl) ?_
  refine va_get (D := G) (ci := 7) (v := .int (S31.1 12)) (C := RX7) (T := TX7) (N := 29) hx hb hts i_X7_plays_X7 hown hE.1 hP 0 rfl rfl 15 (by decide) (hts _ m_X7_plays_f87) (fun _ h9 => h9) rfl dX7_plays_38 ?_
  refine lv_if_ne (tgt := 60) hx hb dX7_plays_41 (by decide) (fun h32 => ?_) (fun h32 => ?_)
  · have hf := tk_neg hf h32
    exact J_60 (tk_I S31 15 ((S31.1 15) + (1 : Int32))) H locs hP hD hS ls (lv_sub hl [0] rfl) hf
  · have hf := tk_pos hf h32
    refine lv_aload_n hx hb dX7_plays_44 rfl (lv_at hl 0 rfl) ?_
    refine va_get (D := G) (ci := 7) (v := .int (S31.1 9)) (C := RX7) (T := TX7) (N := 29) hx hb hts i_X7_plays_X7 hown hE.1 hP 0 rfl rfl 12 (by decide) (hts _ m_X7_plays_f34) (fun _ h9 => h9) rfl dX7_plays_45 ?_
    refine lv_iconst (v := -1) hx hb dX7_plays_48 (by decide) ?_
    refine lv_icmp_eq (tgt := 64) hx hb dX7_plays_49 (by decide) (fun h33 => ?_) (fun h33 => ?_)
    · have hf := tk_pos hf h33
      exact J_64 (tk_I S31 15 ((S31.1 15) + (1 : Int32))) H locs hP hD hS ls (lv_sub hl [0] rfl) hf
    · have hf := tk_neg hf h33
      refine lv_iload_n hx hb dX7_plays_52 rfl (lv_at hl 1 rfl) ?_
      refine lv_aload_n hx hb dX7_plays_53 rfl (lv_at hl 0 rfl) ?_
      obtain ⟨r34, h35, hf⟩ := tk_b1s hf
      refine tk_ci (ws' := (tk_M c3 q (tk_I S31 15 ((S31.1 15) + (1 : Int32))))) (va_runV (As := []) (rest := [.int p0, .ref (q 17)]) ⟨hx, hb, hml, hown, hts⟩ (c_X7_king l G c3 q (tk_I S31 15 ((S31.1 15) + (1 : Int32))) r34 h35 H.size) (cwV 0 hts gX7_plays_X7_king rfl rfl rfl hv_X7_king ⟨Nat.le_of_ble_eq_true rfl, Nat.le_of_ble_eq_true rfl⟩) (tk_pV hE hP hD 0 rfl rfl) rfl rfl hl.1 rfl (lv_room (Nat.le_of_ble_eq_true rfl)) dX7_plays_54 ⟨Nat.zero_le _, Nat.zero_le _⟩) hD hS hA (fun H locs hP hD hS => ?_)
      refine lv_icmp_ne (tgt := 64) hx hb dX7_plays_57 (by decide) (fun h37 => ?_) (fun h37 => ?_)
      · have hf := tk_neg hf h37
        exact J_64 (tk_I S31 15 ((S31.1 15) + (1 : Int32))) H locs hP hD hS ls (lv_sub hl [0] rfl) hf
      · have hf := tk_pos hf h37
        exact J_60 (tk_I S31 15 ((S31.1 15) + (1 : Int32))) H locs hP hD hS ls (lv_sub hl [0] rfl) hf
abbrev rm_X7_play : Room := { frames := 5, cells := 0, slots := 0, locals := 114 }
set_option maxHeartbeats 4000000 in
set_option maxRecDepth 100000 in
theorem c_X7_play (l : Launch) (G : va_G) (c3 : ClassId × ClassId × ClassId) (q : Nat → Nat) (S : tk_ST) (p0 : Int32) (r0 : Int32) (S0 : tk_ST) (hf : f_X7_play p0 S = some (r0, S0)) : tk_Mi l yX7_play wsX7_play rm_X7_play G c3 [.ref (q 17), .int p0] (tk_M c3 q S) (tk_M c3 q S0) r0 := by
  refine tk_ofi (cc := cX7_play) (maxL := 2) (ret := some .int) (by decide) rfl (Nat.le_of_ble_eq_true rfl) ?_
  intro p e s m below meth c A Q ls H locs hx hb hml hr hts hown hlocks hE hA hP hD hS hZ hQ hl
  have hl : lv_has ls 2 [(0, .ref (q 17)), (1, .int p0)] := hl
  have hown : s.vm.findClass RX7 = some m.cls := hown
  have J_25 : ∀ (x1_25 : Int32) (k1_25 : Int32) (S_25 : tk_ST) (H : Heap) (locs : List Loc) (_ : va_P G vwCl (tk_M c3 q S_25) H) (_ : va_D A (tk_M c3 q S_25)) (_ : va_S A s.heap H locs) (ls : Array Slot) (_ : lv_has ls 2 [(0, .ref (q 17)), (1, .int x1_25)]) (_ : f_X7_play_25 x1_25 k1_25 S_25 = some (r0, S0)), W p l e rm_X7_play s m ([.ref (q 17), .int p0] : List Value).toArray below meth c H locs 0 0 Q (F0 m 25 ls [.int k1_25, .ref (q 17)]) := by
    intro x1_25 k1_25 S_25 H locs hP hD hS ls hl hf
    unfold f_X7_play_25 at hf
    obtain ⟨r1, S3, h2, hf⟩ := tk_b2s hf
    refine tk_ci (ws' := (tk_M c3 q S3)) (va_runV (As := [.int k1_25]) (rest := []) ⟨hx, hb, hml, hown, hts⟩ (c_X7_isFine l G c3 q S_25 k1_25 r1 S3 h2 H.size) (cwV 1 hts gX7_play_X7_isFine rfl rfl rfl hv_X7_isFine ⟨Nat.le_of_ble_eq_true rfl, Nat.le_of_ble_eq_true rfl⟩) (tk_pV hE hP hD 0 rfl rfl) rfl rfl hl.1 rfl (lv_room (Nat.le_of_ble_eq_true rfl)) dX7_play_25 ⟨Nat.zero_le _, Nat.zero_le _⟩) hD hS hA (fun H locs hP hD hS => ?_)
    refine lv_if_eq (tgt := 39) hx hb dX7_play_28 (by decide) (fun h4 => ?_) (fun h4 => ?_)
    · have hf := tk_pos hf h4
      refine lv_iconst (v := 0) hx hb dX7_play_39 (by decide) ?_
      exact tk_ri hQ (tk_s2 hf).1 (congrArg (tk_M c3 q) (tk_s2 hf).2) hx hb hr hlocks hP hD hS dX7_play_40
    · have hf := tk_neg hf h4
      refine lv_aload_n hx hb dX7_play_31 rfl (lv_at hl 0 rfl) ?_
      refine lv_iload_n hx hb dX7_play_32 rfl (lv_at hl 1 rfl) ?_
      obtain ⟨r5, S7, h6, hf⟩ := tk_b2s hf
      refine tk_ci (ws' := (tk_M c3 q S7)) (va_runV (As := [.int x1_25]) (rest := []) ⟨hx, hb, hml, hown, hts⟩ (c_X7_plays l G c3 q S3 x1_25 r5 S7 h6 H.size) (cwV 1 hts gX7_play_X7_plays rfl rfl rfl hv_X7_plays ⟨Nat.le_of_ble_eq_true rfl, Nat.le_of_ble_eq_true rfl⟩) (tk_pV hE hP hD 0 rfl rfl) rfl rfl hl.1 rfl (lv_room (Nat.le_of_ble_eq_true rfl)) dX7_play_33 ⟨Nat.zero_le _, Nat.zero_le _⟩) hD hS hA (fun H locs hP hD hS => ?_)
      refine lv_goto (tgt := 40) hx hb dX7_play_36 (by decide) ?_
      exact tk_ri hQ (tk_s2 hf).1 (congrArg (tk_M c3 q) (tk_s2 hf).2) hx hb hr hlocks hP hD hS dX7_play_40
  unfold f_X7_play at hf
  refine lv_aload_n hx hb dX7_play_0 rfl (lv_at hl 0 rfl) ?_
  refine lv_iload_n hx hb dX7_play_1 rfl (lv_at hl 1 rfl) ?_
  obtain ⟨r8, h9, hf⟩ := tk_b1s hf
  refine tk_ci (ws' := (tk_M c3 q S)) (va_runS (As := [.int p0]) (rest := [.ref (q 17)]) ⟨hx, hb, hml, hown, hts⟩ (c_X7_isCard l G c3 (tk_M c3 q S) p0 r8 h9 H.size) (va_cwS 1 hts gX7_play_X7_isCard rfl rfl rfl hs_X7_isCard ⟨Nat.le_of_ble_eq_true rfl, Nat.le_of_ble_eq_true rfl⟩) (tk_pS hE hP hD) rfl rfl hl.1 rfl (lv_room (Nat.le_of_ble_eq_true rfl)) dX7_play_2 ⟨Nat.zero_le _, Nat.zero_le _⟩) hD hS hA (fun H locs hP hD hS => ?_)
  refine lv_if_ne (tgt := 12) hx hb dX7_play_5 (by decide) (fun h11 => ?_) (fun h11 => ?_)
  · have hf := tk_neg hf h11
    refine lv_aload_n hx hb dX7_play_12 rfl (lv_at hl 0 rfl) ?_
    refine lv_iload_n hx hb dX7_play_13 rfl (lv_at hl 1 rfl) ?_
    obtain ⟨r12, h13, hf⟩ := tk_b1s hf
    refine tk_ci (ws' := (tk_M c3 q S)) (va_runV (As := [.int p0]) (rest := [.ref (q 17)]) ⟨hx, hb, hml, hown, hts⟩ (c_X7_isPlayable l G c3 q S p0 r12 h13 H.size) (cwV 1 hts gX7_play_X7_isPlayable rfl rfl rfl hv_X7_isPlayable ⟨Nat.le_of_ble_eq_true rfl, Nat.le_of_ble_eq_true rfl⟩) (tk_pV hE hP hD 0 rfl rfl) rfl rfl hl.1 rfl (lv_room (Nat.le_of_ble_eq_true rfl)) dX7_play_14 ⟨Nat.zero_le _, Nat.zero_le _⟩) hD hS hA (fun H locs hP hD hS => ?_)
    refine lv_if_ne (tgt := 24) hx hb dX7_play_17 (by decide) (fun h15 => ?_) (fun h15 => ?_)
    · have hf := tk_neg hf h15
      refine lv_iconst (v := 0) hx hb dX7_play_24 (by decide) ?_
      exact J_25 p0 (0 : Int32) S H locs hP hD hS ls (lv_sub hl [0, 1] rfl) hf
    · have hf := tk_pos hf h15
      refine lv_iconst (v := 2) hx hb dX7_play_20 (by decide) ?_
      refine lv_goto (tgt := 25) hx hb dX7_play_21 (by decide) ?_
      exact J_25 p0 (2 : Int32) S H locs hP hD hS ls (lv_sub hl [0, 1] rfl) hf
  · have hf := tk_pos hf h11
    refine lv_iconst (v := 1) hx hb dX7_play_8 (by decide) ?_
    refine lv_goto (tgt := 25) hx hb dX7_play_9 (by decide) ?_
    exact J_25 p0 (1 : Int32) S H locs hP hD hS ls (lv_sub hl [0, 1] rfl) hf
abbrev rm_X7_playLowest : Room := { frames := 5, cells := 0, slots := 0, locals := 114 }
set_option maxHeartbeats 4000000 in
set_option maxRecDepth 100000 in
theorem c_X7_playLowest (l : Launch) (G : va_G) (c3 : ClassId × ClassId × ClassId) (q : Nat → Nat) (S : tk_ST) (p0 : Int32) (r0 : Int32) (S0 : tk_ST) (hf : f_X7_playLowest p0 S = some (r0, S0)) : tk_Mi l yX7_playLowest wsX7_playLowest rm_X7_playLowest G c3 [.ref (q 17), .int p0] (tk_M c3 q S) (tk_M c3 q S0) r0 := by
  refine tk_ofi (cc := cX7_playLowest) (maxL := 5) (ret := some .int) (by decide) rfl (Nat.le_of_ble_eq_true rfl) ?_
  intro p e s m below meth c A Q ls H locs hx hb hml hr hts hown hlocks hE hA hP hD hS hZ hQ hl
  have hl : lv_has ls 5 [(0, .ref (q 17)), (1, .int p0)] := hl
  have hown : s.vm.findClass RX7 = some m.cls := hown
  have J_38 : ∀ (n_38 : Nat), ∀ (x1_38 : Int32) (x2_38 : Int32) (S_38 : tk_ST) (H : Heap) (locs : List Loc) (_ : va_P G vwCl (tk_M c3 q S_38) H) (_ : va_D A (tk_M c3 q S_38)) (_ : va_S A s.heap H locs) (ls : Array Slot) (_ : lv_has ls 5 [(0, .ref (q 17)), (1, .int x1_38), (2, .int x2_38)]) (_ : f_X7_playLowest_38 n_38 x1_38 x2_38 S_38 = some (r0, S0)), W p l e rm_X7_playLowest s m ([.ref (q 17), .int p0] : List Value).toArray below meth c H locs 0 0 Q (F0 m 38 ls []) := by
    intro n_38
    induction n_38 with
    | zero =>
      intro x1_38 x2_38 S_38 H locs hP hD hS ls hl hf
      exact absurd hf (by intro h9; cases h9)
    | succ n_38 ih_38 =>
      have J_53 : ∀ (n_53 : Nat), ∀ (x1_53 : Int32) (x2_53 : Int32) (x3_53 : Int32) (S_53 : tk_ST) (H : Heap) (locs : List Loc) (_ : va_P G vwCl (tk_M c3 q S_53) H) (_ : va_D A (tk_M c3 q S_53)) (_ : va_S A s.heap H locs) (ls : Array Slot) (_ : lv_has ls 5 [(0, .ref (q 17)), (1, .int x1_53), (2, .int x2_53), (3, .int x3_53)]) (_ : f_X7_playLowest_53 (f_X7_playLowest_38 n_38) n_53 x1_53 x2_53 x3_53 S_53 = some (r0, S0)), W p l e rm_X7_playLowest s m ([.ref (q 17), .int p0] : List Value).toArray below meth c H locs 0 0 Q (F0 m 53 ls []) := by
        intro n_53
        induction n_53 with
        | zero =>
          intro x1_53 x2_53 x3_53 S_53 H locs hP hD hS ls hl hf
          exact absurd hf (by intro h9; cases h9)
        | succ n_53 ih_53 =>
          intro x1_53 x2_53 x3_53 S_53 H locs hP hD hS ls hl hf
          rw [f_X7_playLowest_53_s] at hf
          refine lv_aload_n hx hb dX7_playLowest_53 rfl (lv_at hl 0 rfl) ?_
          refine lv_iload_n hx hb dX7_playLowest_54 rfl (lv_at hl 3 rfl) ?_
          obtain ⟨r1, h2, hf⟩ := tk_b1s hf
          refine tk_ci (ws' := (tk_M c3 q S_53)) (va_runV (As := [.int x3_53]) (rest := []) ⟨hx, hb, hml, hown, hts⟩ (c_X7_isPlayable l G c3 q S_53 x3_53 r1 h2 H.size) (cwV 1 hts gX7_playLowest_X7_isPlayable rfl rfl rfl hv_X7_isPlayable ⟨Nat.le_of_ble_eq_true rfl, Nat.le_of_ble_eq_true rfl⟩) (tk_pV hE hP hD 0 rfl rfl) rfl rfl hl.1 rfl (lv_room (Nat.le_of_ble_eq_true rfl)) dX7_playLowest_55 ⟨Nat.zero_le _, Nat.zero_le _⟩) hD hS hA (fun H locs hP hD hS => ?_)
          refine lv_if_ne (tgt := 67) hx hb dX7_playLowest_58 (by decide) (fun h4 => ?_) (fun h4 => ?_)
          · have hf := tk_neg hf h4
            refine lv_aload_n hx hb dX7_playLowest_67 rfl (lv_at hl 0 rfl) ?_
            refine lv_iload_n hx hb dX7_playLowest_68 rfl (lv_at hl 3 rfl) ?_
            obtain ⟨r5, S7, h6, hf⟩ := tk_b2s hf
            refine tk_ci (ws' := (tk_M c3 q S7)) (va_runV (As := [.int x3_53]) (rest := []) ⟨hx, hb, hml, hown, hts⟩ (c_X7_plays l G c3 q S_53 x3_53 r5 S7 h6 H.size) (cwV 1 hts gX7_playLowest_X7_plays rfl rfl rfl hv_X7_plays ⟨Nat.le_of_ble_eq_true rfl, Nat.le_of_ble_eq_true rfl⟩) (tk_pV hE hP hD 0 rfl rfl) rfl rfl hl.1 rfl (lv_room (Nat.le_of_ble_eq_true rfl)) dX7_playLowest_69 ⟨Nat.zero_le _, Nat.zero_le _⟩) hD hS hA (fun H locs hP hD hS => ?_)
            refine lv_istore (lv' := [(4, .int r5), (0, .ref (q 17)), (1, .int x1_53), (2, .int x2_53), (3, .int x3_53)]) hx hb dX7_playLowest_72 hl (by decide) rfl (fun ls hl => ?_)
            refine lv_iinc (v := (x2_53 + (1 : Int32))) (lv' := [(2, .int (x2_53 + (1 : Int32))), (4, .int r5), (0, .ref (q 17)), (1, .int x1_53), (3, .int x3_53)]) hx hb dX7_playLowest_74 hl (k := 3) rfl rfl (by decide) rfl (fun ls hl => ?_)
            refine lv_goto (tgt := 38) hx hb dX7_playLowest_77 (by decide) ?_
            exact ih_38 x1_53 (x2_53 + (1 : Int32)) S7 H locs hP hD hS ls (lv_sub hl [2, 3, 0] rfl) hf
          · have hf := tk_pos hf h4
            refine lv_iinc (v := (x3_53 + (1 : Int32))) (lv' := [(3, .int (x3_53 + (1 : Int32))), (0, .ref (q 17)), (1, .int x1_53), (2, .int x2_53)]) hx hb dX7_playLowest_61 hl (k := 3) rfl rfl (by decide) rfl (fun ls hl => ?_)
            refine lv_goto (tgt := 53) hx hb dX7_playLowest_64 (by decide) ?_
            exact ih_53 x1_53 x2_53 (x3_53 + (1 : Int32)) S_53 H locs hP hD hS ls (lv_sub hl [1, 2, 3, 0] rfl) hf
      intro x1_38 x2_38 S_38 H locs hP hD hS ls hl hf
      rw [f_X7_playLowest_38_s] at hf
      refine lv_iload_n hx hb dX7_playLowest_38 rfl (lv_at hl 2 rfl) ?_
      refine lv_iload_n hx hb dX7_playLowest_39 rfl (lv_at hl 1 rfl) ?_
      refine lv_icmp_ge (tgt := 80) hx hb dX7_playLowest_40 (by decide) (fun h8 => ?_) (fun h8 => ?_)
      · have hf := tk_pos hf h8
        refine lv_iload_n hx hb dX7_playLowest_80 rfl (lv_at hl 2 rfl) ?_
        exact tk_ri hQ (tk_s2 hf).1 (congrArg (tk_M c3 q) (tk_s2 hf).2) hx hb hr hlocks hP hD hS dX7_playLowest_81
      · have hf := tk_neg hf h8
        refine lv_aload_n hx hb dX7_playLowest_43 rfl (lv_at hl 0 rfl) ?_
        refine va_get (D := G) (ci := 7) (v := .int (S_38.1 1)) (C := RX7) (T := TX7) (N := 29) hx hb hts i_X7_playLowest_X7 hown hE.1 hP 0 rfl rfl 1 (by decide) (hts _ m_X7_playLowest_f9) (fun _ h9 => h9) rfl dX7_playLowest_44 ?_
        refine lv_iconst (v := 5) hx hb dX7_playLowest_47 (by decide) ?_
        refine lv_icmp_ne (tgt := 80) hx hb dX7_playLowest_48 (by decide) (fun h9 => ?_) (fun h9 => ?_)
        · have hf := tk_neg hf h9
          refine lv_iload_n hx hb dX7_playLowest_80 rfl (lv_at hl 2 rfl) ?_
          exact tk_ri hQ (tk_s2 hf).1 (congrArg (tk_M c3 q) (tk_s2 hf).2) hx hb hr hlocks hP hD hS dX7_playLowest_81
        · have hf := tk_pos hf h9
          refine lv_iconst (v := 0) hx hb dX7_playLowest_51 (by decide) ?_
          refine lv_istore_n (lv' := [(3, .int (0 : Int32)), (0, .ref (q 17)), (1, .int x1_38), (2, .int x2_38)]) hx hb dX7_playLowest_52 rfl hl (by decide) rfl (fun ls hl => ?_)
          exact J_53 64 x1_38 x2_38 (0 : Int32) S_38 H locs hP hD hS ls (lv_sub hl [1, 2, 3, 0] rfl) hf
  have J_28 : ∀ (x1_28 : Int32) (k1_28 : Int32) (S_28 : tk_ST) (H : Heap) (locs : List Loc) (_ : va_P G vwCl (tk_M c3 q S_28) H) (_ : va_D A (tk_M c3 q S_28)) (_ : va_S A s.heap H locs) (ls : Array Slot) (_ : lv_has ls 5 [(0, .ref (q 17)), (1, .int x1_28)]) (_ : f_X7_playLowest_28 x1_28 k1_28 S_28 = some (r0, S0)), W p l e rm_X7_playLowest s m ([.ref (q 17), .int p0] : List Value).toArray below meth c H locs 0 0 Q (F0 m 28 ls [.int k1_28, .ref (q 17)]) := by
    intro x1_28 k1_28 S_28 H locs hP hD hS ls hl hf
    unfold f_X7_playLowest_28 at hf
    obtain ⟨r10, S12, h11, hf⟩ := tk_b2s hf
    refine tk_ci (ws' := (tk_M c3 q S12)) (va_runV (As := [.int k1_28]) (rest := []) ⟨hx, hb, hml, hown, hts⟩ (c_X7_isFine l G c3 q S_28 k1_28 r10 S12 h11 H.size) (cwV 1 hts gX7_playLowest_X7_isFine rfl rfl rfl hv_X7_isFine ⟨Nat.le_of_ble_eq_true rfl, Nat.le_of_ble_eq_true rfl⟩) (tk_pV hE hP hD 0 rfl rfl) rfl rfl hl.1 rfl (lv_room (Nat.le_of_ble_eq_true rfl)) dX7_playLowest_28 ⟨Nat.zero_le _, Nat.zero_le _⟩) hD hS hA (fun H locs hP hD hS => ?_)
    refine lv_if_ne (tgt := 36) hx hb dX7_playLowest_31 (by decide) (fun h13 => ?_) (fun h13 => ?_)
    · have hf := tk_neg hf h13
      refine lv_iconst (v := 0) hx hb dX7_playLowest_36 (by decide) ?_
      refine lv_istore_n (lv' := [(2, .int (0 : Int32)), (0, .ref (q 17)), (1, .int x1_28)]) hx hb dX7_playLowest_37 rfl hl (by decide) rfl (fun ls hl => ?_)
      exact J_38 64 x1_28 (0 : Int32) S12 H locs hP hD hS ls (lv_sub hl [1, 2, 0] rfl) hf
    · have hf := tk_pos hf h13
      refine lv_iconst (v := 0) hx hb dX7_playLowest_34 (by decide) ?_
      exact tk_ri hQ (tk_s2 hf).1 (congrArg (tk_M c3 q) (tk_s2 hf).2) hx hb hr hlocks hP hD hS dX7_playLowest_35
  unfold f_X7_playLowest at hf
  refine lv_aload_n hx hb dX7_playLowest_0 rfl (lv_at hl 0 rfl) ?_
  refine lv_iload_n hx hb dX7_playLowest_1 rfl (lv_at hl 1 rfl) ?_
  refine lv_iconst (v := 1) hx hb dX7_playLowest_2 (by decide) ?_
  refine lv_bipush (v := 48) hx hb dX7_playLowest_3 (by decide) ?_
  obtain ⟨r14, h15, hf⟩ := tk_b1s hf
  refine tk_ci (ws' := (tk_M c3 q S)) (va_runS (As := [.int p0, .int (1 : Int32), .int (48 : Int32)]) (rest := [.ref (q 17)]) ⟨hx, hb, hml, hown, hts⟩ (c_X7_isIn l G c3 (tk_M c3 q S) p0 (1 : Int32) (48 : Int32) r14 h15 H.size) (va_cwS 3 hts gX7_playLowest_X7_isIn rfl rfl rfl hs_X7_isIn ⟨Nat.le_of_ble_eq_true rfl, Nat.le_of_ble_eq_true rfl⟩) (tk_pS hE hP hD) rfl rfl hl.1 rfl (lv_room (Nat.le_of_ble_eq_true rfl)) dX7_playLowest_5 ⟨Nat.zero_le _, Nat.zero_le _⟩) hD hS hA (fun H locs hP hD hS => ?_)
  refine lv_if_ne (tgt := 15) hx hb dX7_playLowest_8 (by decide) (fun h17 => ?_) (fun h17 => ?_)
  · have hf := tk_neg hf h17
    refine lv_aload_n hx hb dX7_playLowest_15 rfl (lv_at hl 0 rfl) ?_
    refine va_get (D := G) (ci := 7) (v := .int (S.1 1)) (C := RX7) (T := TX7) (N := 29) hx hb hts i_X7_playLowest_X7 hown hE.1 hP 0 rfl rfl 1 (by decide) (hts _ m_X7_playLowest_f9) (fun _ h9 => h9) rfl dX7_playLowest_16 ?_
    refine lv_iconst (v := 5) hx hb dX7_playLowest_19 (by decide) ?_
    refine lv_icmp_eq (tgt := 27) hx hb dX7_playLowest_20 (by decide) (fun h18 => ?_) (fun h18 => ?_)
    · have hf := tk_pos hf h18
      refine lv_iconst (v := 0) hx hb dX7_playLowest_27 (by decide) ?_
      exact J_28 p0 (0 : Int32) S H locs hP hD hS ls (lv_sub hl [0, 1] rfl) hf
    · have hf := tk_neg hf h18
      refine lv_iconst (v := 2) hx hb dX7_playLowest_23 (by decide) ?_
      refine lv_goto (tgt := 28) hx hb dX7_playLowest_24 (by decide) ?_
      exact J_28 p0 (2 : Int32) S H locs hP hD hS ls (lv_sub hl [0, 1] rfl) hf
  · have hf := tk_pos hf h17
    refine lv_iconst (v := 1) hx hb dX7_playLowest_11 (by decide) ?_
    refine lv_goto (tgt := 28) hx hb dX7_playLowest_12 (by decide) ?_
    exact J_28 p0 (1 : Int32) S H locs hP hD hS ls (lv_sub hl [0, 1] rfl) hf
abbrev rm_X7_phase : Room := { frames := 0, cells := 0, slots := 0, locals := 0 }
set_option maxHeartbeats 4000000 in
set_option maxRecDepth 100000 in
theorem c_X7_phase (l : Launch) (G : va_G) (c3 : ClassId × ClassId × ClassId) (q : Nat → Nat) (S : tk_ST) (r0 : Int32) (S0 : tk_ST) (hf : f_X7_phase S = some (r0, S0)) : tk_Mi l yX7_phase wsX7_phase rm_X7_phase G c3 [.ref (q 17)] (tk_M c3 q S) (tk_M c3 q S0) r0 := by
  refine tk_ofi (cc := cX7_phase) (maxL := 1) (ret := some .int) (by decide) rfl (Nat.le_of_ble_eq_true rfl) ?_
  intro p e s m below meth c A Q ls H locs hx hb hml hr hts hown hlocks hE hA hP hD hS hZ hQ hl
  have hl : lv_has ls 1 [(0, .ref (q 17))] := hl
  have hown : s.vm.findClass RX7 = some m.cls := hown
  unfold f_X7_phase at hf
  refine lv_aload_n hx hb dX7_phase_0 rfl (lv_at hl 0 rfl) ?_
  refine lv_iconst (v := 0) hx hb dX7_phase_1 (by decide) ?_
  refine va_put (D := G) (ci := 7) (v := .int (0 : Int32)) (ty := .int) (C := RX7) (T := TX7) (N := 29) hx hb hts i_X7_phase_X7 tyX7 tyX7_ok nmX7 hown hE.1 hP hD hS 0 rfl rfl 0 (by decide) (hts _ m_X7_phase_f58) (fun _ h9 => h9) rfl (by decide +kernel) rfl rfl (Nat.le_of_ble_eq_true rfl) dX7_phase_2 (fun H locs hP hD hS => ?_)
  have hP : va_P G vwCl (tk_M c3 q (tk_I S 0 (0 : Int32))) H := hP
  have hD : va_D A (tk_M c3 q (tk_I S 0 (0 : Int32))) := hD
  refine lv_aload_n hx hb dX7_phase_5 rfl (lv_at hl 0 rfl) ?_
  refine va_get (D := G) (ci := 7) (v := .int (S.1 1)) (C := RX7) (T := TX7) (N := 29) hx hb hts i_X7_phase_X7 hown hE.1 hP 0 rfl rfl 1 (by decide) (hts _ m_X7_phase_f9) (fun _ h9 => h9) rfl dX7_phase_6 ?_
  exact tk_ri hQ (tk_s2 hf).1 (congrArg (tk_M c3 q) (tk_s2 hf).2) hx hb hr hlocks hP hD hS dX7_phase_9
abbrev rm_X7_turn : Room := { frames := 0, cells := 0, slots := 0, locals := 0 }
set_option maxHeartbeats 4000000 in
set_option maxRecDepth 100000 in
theorem c_X7_turn (l : Launch) (G : va_G) (c3 : ClassId × ClassId × ClassId) (q : Nat → Nat) (S : tk_ST) (r0 : Int32) (S0 : tk_ST) (hf : f_X7_turn S = some (r0, S0)) : tk_Mi l yX7_turn wsX7_turn rm_X7_turn G c3 [.ref (q 17)] (tk_M c3 q S) (tk_M c3 q S0) r0 := by
  refine tk_ofi (cc := cX7_turn) (maxL := 1) (ret := some .int) (by decide) rfl (Nat.le_of_ble_eq_true rfl) ?_
  intro p e s m below meth c A Q ls H locs hx hb hml hr hts hown hlocks hE hA hP hD hS hZ hQ hl
  have hl : lv_has ls 1 [(0, .ref (q 17))] := hl
  have hown : s.vm.findClass RX7 = some m.cls := hown
  unfold f_X7_turn at hf
  refine lv_aload_n hx hb dX7_turn_0 rfl (lv_at hl 0 rfl) ?_
  refine lv_iconst (v := 0) hx hb dX7_turn_1 (by decide) ?_
  refine va_put (D := G) (ci := 7) (v := .int (0 : Int32)) (ty := .int) (C := RX7) (T := TX7) (N := 29) hx hb hts i_X7_turn_X7 tyX7 tyX7_ok nmX7 hown hE.1 hP hD hS 0 rfl rfl 0 (by decide) (hts _ m_X7_turn_f58) (fun _ h9 => h9) rfl (by decide +kernel) rfl rfl (Nat.le_of_ble_eq_true rfl) dX7_turn_2 (fun H locs hP hD hS => ?_)
  have hP : va_P G vwCl (tk_M c3 q (tk_I S 0 (0 : Int32))) H := hP
  have hD : va_D A (tk_M c3 q (tk_I S 0 (0 : Int32))) := hD
  refine lv_aload_n hx hb dX7_turn_5 rfl (lv_at hl 0 rfl) ?_
  refine va_get (D := G) (ci := 7) (v := .int (S.1 4)) (C := RX7) (T := TX7) (N := 29) hx hb hts i_X7_turn_X7 hown hE.1 hP 0 rfl rfl 4 (by decide) (hts _ m_X7_turn_f13) (fun _ h9 => h9) rfl dX7_turn_6 ?_
  exact tk_ri hQ (tk_s2 hf).1 (congrArg (tk_M c3 q) (tk_s2 hf).2) hx hb hr hlocks hP hD hS dX7_turn_9
abbrev rm_X7_declarer : Room := { frames := 0, cells := 0, slots := 0, locals := 0 }
set_option maxHeartbeats 4000000 in
set_option maxRecDepth 100000 in
theorem c_X7_declarer (l : Launch) (G : va_G) (c3 : ClassId × ClassId × ClassId) (q : Nat → Nat) (S : tk_ST) (r0 : Int32) (S0 : tk_ST) (hf : f_X7_declarer S = some (r0, S0)) : tk_Mi l yX7_declarer wsX7_declarer rm_X7_declarer G c3 [.ref (q 17)] (tk_M c3 q S) (tk_M c3 q S0) r0 := by
  refine tk_ofi (cc := cX7_declarer) (maxL := 1) (ret := some .int) (by decide) rfl (Nat.le_of_ble_eq_true rfl) ?_
  intro p e s m below meth c A Q ls H locs hx hb hml hr hts hown hlocks hE hA hP hD hS hZ hQ hl
  have hl : lv_has ls 1 [(0, .ref (q 17))] := hl
  have hown : s.vm.findClass RX7 = some m.cls := hown
  unfold f_X7_declarer at hf
  refine lv_aload_n hx hb dX7_declarer_0 rfl (lv_at hl 0 rfl) ?_
  refine lv_iconst (v := 0) hx hb dX7_declarer_1 (by decide) ?_
  refine va_put (D := G) (ci := 7) (v := .int (0 : Int32)) (ty := .int) (C := RX7) (T := TX7) (N := 29) hx hb hts i_X7_declarer_X7 tyX7 tyX7_ok nmX7 hown hE.1 hP hD hS 0 rfl rfl 0 (by decide) (hts _ m_X7_declarer_f58) (fun _ h9 => h9) rfl (by decide +kernel) rfl rfl (Nat.le_of_ble_eq_true rfl) dX7_declarer_2 (fun H locs hP hD hS => ?_)
  have hP : va_P G vwCl (tk_M c3 q (tk_I S 0 (0 : Int32))) H := hP
  have hD : va_D A (tk_M c3 q (tk_I S 0 (0 : Int32))) := hD
  refine lv_aload_n hx hb dX7_declarer_5 rfl (lv_at hl 0 rfl) ?_
  refine va_get (D := G) (ci := 7) (v := .int (S.1 8)) (C := RX7) (T := TX7) (N := 29) hx hb hts i_X7_declarer_X7 hown hE.1 hP 0 rfl rfl 11 (by decide) (hts _ m_X7_declarer_f31) (fun _ h9 => h9) rfl dX7_declarer_6 ?_
  exact tk_ri hQ (tk_s2 hf).1 (congrArg (tk_M c3 q) (tk_s2 hf).2) hx hb hr hlocks hP hD hS dX7_declarer_9
abbrev rm_X7_level : Room := { frames := 0, cells := 0, slots := 0, locals := 0 }
set_option maxHeartbeats 4000000 in
set_option maxRecDepth 100000 in
theorem c_X7_level (l : Launch) (G : va_G) (c3 : ClassId × ClassId × ClassId) (q : Nat → Nat) (S : tk_ST) (r0 : Int32) (S0 : tk_ST) (hf : f_X7_level S = some (r0, S0)) : tk_Mi l yX7_level wsX7_level rm_X7_level G c3 [.ref (q 17)] (tk_M c3 q S) (tk_M c3 q S0) r0 := by
  refine tk_ofi (cc := cX7_level) (maxL := 1) (ret := some .int) (by decide) rfl (Nat.le_of_ble_eq_true rfl) ?_
  intro p e s m below meth c A Q ls H locs hx hb hml hr hts hown hlocks hE hA hP hD hS hZ hQ hl
  have hl : lv_has ls 1 [(0, .ref (q 17))] := hl
  have hown : s.vm.findClass RX7 = some m.cls := hown
  unfold f_X7_level at hf
  refine lv_aload_n hx hb dX7_level_0 rfl (lv_at hl 0 rfl) ?_
  refine lv_iconst (v := 0) hx hb dX7_level_1 (by decide) ?_
  refine va_put (D := G) (ci := 7) (v := .int (0 : Int32)) (ty := .int) (C := RX7) (T := TX7) (N := 29) hx hb hts i_X7_level_X7 tyX7 tyX7_ok nmX7 hown hE.1 hP hD hS 0 rfl rfl 0 (by decide) (hts _ m_X7_level_f58) (fun _ h9 => h9) rfl (by decide +kernel) rfl rfl (Nat.le_of_ble_eq_true rfl) dX7_level_2 (fun H locs hP hD hS => ?_)
  have hP : va_P G vwCl (tk_M c3 q (tk_I S 0 (0 : Int32))) H := hP
  have hD : va_D A (tk_M c3 q (tk_I S 0 (0 : Int32))) := hD
  refine lv_aload_n hx hb dX7_level_5 rfl (lv_at hl 0 rfl) ?_
  refine va_get (D := G) (ci := 7) (v := .int (S.1 6)) (C := RX7) (T := TX7) (N := 29) hx hb hts i_X7_level_X7 hown hE.1 hP 0 rfl rfl 9 (by decide) (hts _ m_X7_level_f84) (fun _ h9 => h9) rfl dX7_level_6 ?_
  exact tk_ri hQ (tk_s2 hf).1 (congrArg (tk_M c3 q) (tk_s2 hf).2) hx hb hr hlocks hP hD hS dX7_level_9
abbrev rm_X7_called : Room := { frames := 0, cells := 0, slots := 0, locals := 0 }
set_option maxHeartbeats 4000000 in
set_option maxRecDepth 100000 in
theorem c_X7_called (l : Launch) (G : va_G) (c3 : ClassId × ClassId × ClassId) (q : Nat → Nat) (S : tk_ST) (r0 : Int32) (S0 : tk_ST) (hf : f_X7_called S = some (r0, S0)) : tk_Mi l yX7_called wsX7_called rm_X7_called G c3 [.ref (q 17)] (tk_M c3 q S) (tk_M c3 q S0) r0 := by
  refine tk_ofi (cc := cX7_called) (maxL := 1) (ret := some .int) (by decide) rfl (Nat.le_of_ble_eq_true rfl) ?_
  intro p e s m below meth c A Q ls H locs hx hb hml hr hts hown hlocks hE hA hP hD hS hZ hQ hl
  have hl : lv_has ls 1 [(0, .ref (q 17))] := hl
  have hown : s.vm.findClass RX7 = some m.cls := hown
  unfold f_X7_called at hf
  refine lv_aload_n hx hb dX7_called_0 rfl (lv_at hl 0 rfl) ?_
  refine lv_iconst (v := 0) hx hb dX7_called_1 (by decide) ?_
  refine va_put (D := G) (ci := 7) (v := .int (0 : Int32)) (ty := .int) (C := RX7) (T := TX7) (N := 29) hx hb hts i_X7_called_X7 tyX7 tyX7_ok nmX7 hown hE.1 hP hD hS 0 rfl rfl 0 (by decide) (hts _ m_X7_called_f58) (fun _ h9 => h9) rfl (by decide +kernel) rfl rfl (Nat.le_of_ble_eq_true rfl) dX7_called_2 (fun H locs hP hD hS => ?_)
  have hP : va_P G vwCl (tk_M c3 q (tk_I S 0 (0 : Int32))) H := hP
  have hD : va_D A (tk_M c3 q (tk_I S 0 (0 : Int32))) := hD
  refine lv_aload_n hx hb dX7_called_5 rfl (lv_at hl 0 rfl) ?_
  refine va_get (D := G) (ci := 7) (v := .int (S.1 9)) (C := RX7) (T := TX7) (N := 29) hx hb hts i_X7_called_X7 hown hE.1 hP 0 rfl rfl 12 (by decide) (hts _ m_X7_called_f34) (fun _ h9 => h9) rfl dX7_called_6 ?_
  exact tk_ri hQ (tk_s2 hf).1 (congrArg (tk_M c3 q) (tk_s2 hf).2) hx hb hr hlocks hP hD hS dX7_called_9
abbrev rm_X7_partner : Room := { frames := 0, cells := 0, slots := 0, locals := 0 }
set_option maxHeartbeats 4000000 in
set_option maxRecDepth 100000 in
theorem c_X7_partner (l : Launch) (G : va_G) (c3 : ClassId × ClassId × ClassId) (q : Nat → Nat) (S : tk_ST) (r0 : Int32) (S0 : tk_ST) (hf : f_X7_partner S = some (r0, S0)) : tk_Mi l yX7_partner wsX7_partner rm_X7_partner G c3 [.ref (q 17)] (tk_M c3 q S) (tk_M c3 q S0) r0 := by
  refine tk_ofi (cc := cX7_partner) (maxL := 1) (ret := some .int) (by decide) rfl (Nat.le_of_ble_eq_true rfl) ?_
  intro p e s m below meth c A Q ls H locs hx hb hml hr hts hown hlocks hE hA hP hD hS hZ hQ hl
  have hl : lv_has ls 1 [(0, .ref (q 17))] := hl
  have hown : s.vm.findClass RX7 = some m.cls := hown
  unfold f_X7_partner at hf
  refine lv_aload_n hx hb dX7_partner_0 rfl (lv_at hl 0 rfl) ?_
  refine lv_iconst (v := 0) hx hb dX7_partner_1 (by decide) ?_
  refine va_put (D := G) (ci := 7) (v := .int (0 : Int32)) (ty := .int) (C := RX7) (T := TX7) (N := 29) hx hb hts i_X7_partner_X7 tyX7 tyX7_ok nmX7 hown hE.1 hP hD hS 0 rfl rfl 0 (by decide) (hts _ m_X7_partner_f58) (fun _ h9 => h9) rfl (by decide +kernel) rfl rfl (Nat.le_of_ble_eq_true rfl) dX7_partner_2 (fun H locs hP hD hS => ?_)
  have hP : va_P G vwCl (tk_M c3 q (tk_I S 0 (0 : Int32))) H := hP
  have hD : va_D A (tk_M c3 q (tk_I S 0 (0 : Int32))) := hD
  refine lv_aload_n hx hb dX7_partner_5 rfl (lv_at hl 0 rfl) ?_
  refine va_get (D := G) (ci := 7) (v := .int (S.1 10)) (C := RX7) (T := TX7) (N := 29) hx hb hts i_X7_partner_X7 hown hE.1 hP 0 rfl rfl 13 (by decide) (hts _ m_X7_partner_f37) (fun _ h9 => h9) rfl dX7_partner_6 ?_
  exact tk_ri hQ (tk_s2 hf).1 (congrArg (tk_M c3 q) (tk_s2 hf).2) hx hb hr hlocks hP hD hS dX7_partner_9
abbrev rm_X7_hand : Room := { frames := 2, cells := 0, slots := 0, locals := 42 }
set_option maxHeartbeats 4000000 in
set_option maxRecDepth 100000 in
theorem c_X7_hand (l : Launch) (G : va_G) (c3 : ClassId × ClassId × ClassId) (q : Nat → Nat) (S : tk_ST) (p0 : Int32) (r0 : Int64) (S0 : tk_ST) (hf : f_X7_hand p0 S = some (r0, S0)) : tk_Ml l yX7_hand wsX7_hand rm_X7_hand G c3 [.ref (q 17), .int p0] (tk_M c3 q S) (tk_M c3 q S0) r0 := by
  refine tk_ofl (cc := cX7_hand) (maxL := 2) (ret := some .long) (by decide) rfl (Nat.le_of_ble_eq_true rfl) ?_
  intro p e s m below meth c A Q ls H locs hx hb hml hr hts hown hlocks hE hA hP hD hS hZ hQ hl
  have hl : lv_has ls 2 [(0, .ref (q 17)), (1, .int p0)] := hl
  have hown : s.vm.findClass RX7 = some m.cls := hown
  have J_13 : ∀ (x1_13 : Int32) (k1_13 : Int32) (S_13 : tk_ST) (H : Heap) (locs : List Loc) (_ : va_P G vwCl (tk_M c3 q S_13) H) (_ : va_D A (tk_M c3 q S_13)) (_ : va_S A s.heap H locs) (ls : Array Slot) (_ : lv_has ls 2 [(0, .ref (q 17)), (1, .int x1_13)]) (_ : f_X7_hand_13 x1_13 k1_13 S_13 = some (r0, S0)), W p l e rm_X7_hand s m ([.ref (q 17), .int p0] : List Value).toArray below meth c H locs 0 0 Q (F0 m 13 ls [.int k1_13, .ref (q 17)]) := by
    intro x1_13 k1_13 S_13 H locs hP hD hS ls hl hf
    unfold f_X7_hand_13 at hf
    obtain ⟨r1, S3, h2, hf⟩ := tk_b2s hf
    refine tk_ci (ws' := (tk_M c3 q S3)) (va_runV (As := [.int k1_13]) (rest := []) ⟨hx, hb, hml, hown, hts⟩ (c_X7_isFine l G c3 q S_13 k1_13 r1 S3 h2 H.size) (cwV 1 hts gX7_hand_X7_isFine rfl rfl rfl hv_X7_isFine ⟨Nat.le_of_ble_eq_true rfl, Nat.le_of_ble_eq_true rfl⟩) (tk_pV hE hP hD 0 rfl rfl) rfl rfl hl.1 rfl (lv_room (Nat.le_of_ble_eq_true rfl)) dX7_hand_13 ⟨Nat.zero_le _, Nat.zero_le _⟩) hD hS hA (fun H locs hP hD hS => ?_)
    refine lv_if_eq (tgt := 28) hx hb dX7_hand_16 (by decide) (fun h4 => ?_) (fun h4 => ?_)
    · have hf := tk_pos hf h4
      refine lv_lconst (v := 0) hx hb dX7_hand_28 (by decide) ?_
      exact tk_rl hQ (tk_s2 hf).1 (congrArg (tk_M c3 q) (tk_s2 hf).2) hx hb hr hlocks hP hD hS dX7_hand_29
    · have hf := tk_neg hf h4
      refine lv_aload_n hx hb dX7_hand_19 rfl (lv_at hl 0 rfl) ?_
      refine va_get (D := G) (ci := 7) (v := .ref (q 19)) (C := RX7) (T := TX7) (N := 29) hx hb hts i_X7_hand_X7 hown hE.1 hP 0 rfl rfl 6 (by decide) (hts _ m_X7_hand_f20) (fun _ h9 => h9) rfl dX7_hand_20 ?_
      refine lv_iload_n hx hb dX7_hand_23 rfl (lv_at hl 1 rfl) ?_
      obtain ⟨h5, hf⟩ := tk_ok hf
      refine va_lald (f := (S3.2.2.2 0)) hx hb hE.1 hP 2 1 rfl rfl h5 dX7_hand_24 ?_
      refine lv_goto (tgt := 29) hx hb dX7_hand_25 (by decide) ?_
      exact tk_rl hQ (tk_s2 hf).1 (congrArg (tk_M c3 q) (tk_s2 hf).2) hx hb hr hlocks hP hD hS dX7_hand_29
  unfold f_X7_hand at hf
  refine lv_aload_n hx hb dX7_hand_0 rfl (lv_at hl 0 rfl) ?_
  refine lv_iload_n hx hb dX7_hand_1 rfl (lv_at hl 1 rfl) ?_
  obtain ⟨r6, h7, hf⟩ := tk_b1s hf
  refine tk_ci (ws' := (tk_M c3 q S)) (va_runS (As := [.int p0]) (rest := [.ref (q 17)]) ⟨hx, hb, hml, hown, hts⟩ (c_X7_isPlayer l G c3 (tk_M c3 q S) p0 r6 h7 H.size) (va_cwS 1 hts gX7_hand_X7_isPlayer rfl rfl rfl hs_X7_isPlayer ⟨Nat.le_of_ble_eq_true rfl, Nat.le_of_ble_eq_true rfl⟩) (tk_pS hE hP hD) rfl rfl hl.1 rfl (lv_room (Nat.le_of_ble_eq_true rfl)) dX7_hand_2 ⟨Nat.zero_le _, Nat.zero_le _⟩) hD hS hA (fun H locs hP hD hS => ?_)
  refine lv_if_eq (tgt := 12) hx hb dX7_hand_5 (by decide) (fun h9 => ?_) (fun h9 => ?_)
  · have hf := tk_pos hf h9
    refine lv_iconst (v := 1) hx hb dX7_hand_12 (by decide) ?_
    exact J_13 p0 (1 : Int32) S H locs hP hD hS ls (lv_sub hl [0, 1] rfl) hf
  · have hf := tk_neg hf h9
    refine lv_iconst (v := 0) hx hb dX7_hand_8 (by decide) ?_
    refine lv_goto (tgt := 13) hx hb dX7_hand_9 (by decide) ?_
    exact J_13 p0 (0 : Int32) S H locs hP hD hS ls (lv_sub hl [0, 1] rfl) hf
abbrev rm_X7_talonAt : Room := { frames := 1, cells := 0, slots := 0, locals := 22 }
set_option maxHeartbeats 4000000 in
set_option maxRecDepth 100000 in
theorem c_X7_talonAt (l : Launch) (G : va_G) (c3 : ClassId × ClassId × ClassId) (q : Nat → Nat) (S : tk_ST) (p0 : Int32) (r0 : Int32) (S0 : tk_ST) (hf : f_X7_talonAt p0 S = some (r0, S0)) : tk_Mi l yX7_talonAt wsX7_talonAt rm_X7_talonAt G c3 [.ref (q 17), .int p0] (tk_M c3 q S) (tk_M c3 q S0) r0 := by
  refine tk_ofi (cc := cX7_talonAt) (maxL := 2) (ret := some .int) (by decide) rfl (Nat.le_of_ble_eq_true rfl) ?_
  intro p e s m below meth c A Q ls H locs hx hb hml hr hts hown hlocks hE hA hP hD hS hZ hQ hl
  have hl : lv_has ls 2 [(0, .ref (q 17)), (1, .int p0)] := hl
  have hown : s.vm.findClass RX7 = some m.cls := hown
  have J_26 : ∀ (x1_26 : Int32) (k1_26 : Int32) (S_26 : tk_ST) (H : Heap) (locs : List Loc) (_ : va_P G vwCl (tk_M c3 q S_26) H) (_ : va_D A (tk_M c3 q S_26)) (_ : va_S A s.heap H locs) (ls : Array Slot) (_ : lv_has ls 2 [(0, .ref (q 17)), (1, .int x1_26)]) (_ : f_X7_talonAt_26 x1_26 k1_26 S_26 = some (r0, S0)), W p l e rm_X7_talonAt s m ([.ref (q 17), .int p0] : List Value).toArray below meth c H locs 0 0 Q (F0 m 26 ls [.int k1_26, .ref (q 17)]) := by
    intro x1_26 k1_26 S_26 H locs hP hD hS ls hl hf
    unfold f_X7_talonAt_26 at hf
    obtain ⟨r1, S3, h2, hf⟩ := tk_b2s hf
    refine tk_ci (ws' := (tk_M c3 q S3)) (va_runV (As := [.int k1_26]) (rest := []) ⟨hx, hb, hml, hown, hts⟩ (c_X7_isFine l G c3 q S_26 k1_26 r1 S3 h2 H.size) (cwV 1 hts gX7_talonAt_X7_isFine rfl rfl rfl hv_X7_isFine ⟨Nat.le_of_ble_eq_true rfl, Nat.le_of_ble_eq_true rfl⟩) (tk_pV hE hP hD 0 rfl rfl) rfl rfl hl.1 rfl (lv_room (Nat.le_of_ble_eq_true rfl)) dX7_talonAt_26 ⟨Nat.zero_le _, Nat.zero_le _⟩) hD hS hA (fun H locs hP hD hS => ?_)
    refine lv_if_eq (tgt := 40) hx hb dX7_talonAt_29 (by decide) (fun h4 => ?_) (fun h4 => ?_)
    · have hf := tk_pos hf h4
      refine lv_iconst (v := 0) hx hb dX7_talonAt_40 (by decide) ?_
      exact tk_ri hQ (tk_s2 hf).1 (congrArg (tk_M c3 q) (tk_s2 hf).2) hx hb hr hlocks hP hD hS dX7_talonAt_41
    · have hf := tk_neg hf h4
      refine lv_aload_n hx hb dX7_talonAt_32 rfl (lv_at hl 0 rfl) ?_
      refine lv_iload_n hx hb dX7_talonAt_33 rfl (lv_at hl 1 rfl) ?_
      obtain ⟨r5, h6, hf⟩ := tk_b1s hf
      refine tk_ci (ws' := (tk_M c3 q S3)) (va_runV (As := [.int x1_26]) (rest := []) ⟨hx, hb, hml, hown, hts⟩ (c_X7_talon l G c3 q S3 x1_26 r5 h6 H.size) (cwV 1 hts gX7_talonAt_X7_talon rfl rfl rfl hv_X7_talon ⟨Nat.le_of_ble_eq_true rfl, Nat.le_of_ble_eq_true rfl⟩) (tk_pV hE hP hD 0 rfl rfl) rfl rfl hl.1 rfl (lv_room (Nat.le_of_ble_eq_true rfl)) dX7_talonAt_34 ⟨Nat.zero_le _, Nat.zero_le _⟩) hD hS hA (fun H locs hP hD hS => ?_)
      refine lv_goto (tgt := 41) hx hb dX7_talonAt_37 (by decide) ?_
      exact tk_ri hQ (tk_s2 hf).1 (congrArg (tk_M c3 q) (tk_s2 hf).2) hx hb hr hlocks hP hD hS dX7_talonAt_41
  unfold f_X7_talonAt at hf
  refine lv_aload_n hx hb dX7_talonAt_0 rfl (lv_at hl 0 rfl) ?_
  refine lv_iload_n hx hb dX7_talonAt_1 rfl (lv_at hl 1 rfl) ?_
  refine lv_iconst (v := 0) hx hb dX7_talonAt_2 (by decide) ?_
  refine lv_iconst (v := 5) hx hb dX7_talonAt_3 (by decide) ?_
  obtain ⟨r8, h9, hf⟩ := tk_b1s hf
  refine tk_ci (ws' := (tk_M c3 q S)) (va_runS (As := [.int p0, .int (0 : Int32), .int (5 : Int32)]) (rest := [.ref (q 17)]) ⟨hx, hb, hml, hown, hts⟩ (c_X7_isIn l G c3 (tk_M c3 q S) p0 (0 : Int32) (5 : Int32) r8 h9 H.size) (va_cwS 3 hts gX7_talonAt_X7_isIn rfl rfl rfl hs_X7_isIn ⟨Nat.le_of_ble_eq_true rfl, Nat.le_of_ble_eq_true rfl⟩) (tk_pS hE hP hD) rfl rfl hl.1 rfl (lv_room (Nat.le_of_ble_eq_true rfl)) dX7_talonAt_4 ⟨Nat.zero_le _, Nat.zero_le _⟩) hD hS hA (fun H locs hP hD hS => ?_)
  refine lv_if_ne (tgt := 14) hx hb dX7_talonAt_7 (by decide) (fun h11 => ?_) (fun h11 => ?_)
  · have hf := tk_neg hf h11
    refine lv_aload_n hx hb dX7_talonAt_14 rfl (lv_at hl 0 rfl) ?_
    refine va_get (D := G) (ci := 7) (v := .int (S.1 2)) (C := RX7) (T := TX7) (N := 29) hx hb hts i_X7_talonAt_X7 hown hE.1 hP 0 rfl rfl 2 (by decide) (hts _ m_X7_talonAt_f71) (fun _ h9 => h9) rfl dX7_talonAt_15 ?_
    refine lv_if_ne (tgt := 25) hx hb dX7_talonAt_18 (by decide) (fun h12 => ?_) (fun h12 => ?_)
    · have hf := tk_neg hf h12
      refine lv_iconst (v := 0) hx hb dX7_talonAt_25 (by decide) ?_
      exact J_26 p0 (0 : Int32) S H locs hP hD hS ls (lv_sub hl [0, 1] rfl) hf
    · have hf := tk_pos hf h12
      refine lv_iconst (v := 2) hx hb dX7_talonAt_21 (by decide) ?_
      refine lv_goto (tgt := 26) hx hb dX7_talonAt_22 (by decide) ?_
      exact J_26 p0 (2 : Int32) S H locs hP hD hS ls (lv_sub hl [0, 1] rfl) hf
  · have hf := tk_pos hf h11
    refine lv_iconst (v := 1) hx hb dX7_talonAt_10 (by decide) ?_
    refine lv_goto (tgt := 26) hx hb dX7_talonAt_11 (by decide) ?_
    exact J_26 p0 (1 : Int32) S H locs hP hD hS ls (lv_sub hl [0, 1] rfl) hf
abbrev rm_X7_inTrick : Room := { frames := 0, cells := 0, slots := 0, locals := 0 }
set_option maxHeartbeats 4000000 in
set_option maxRecDepth 100000 in
theorem c_X7_inTrick (l : Launch) (G : va_G) (c3 : ClassId × ClassId × ClassId) (q : Nat → Nat) (S : tk_ST) (r0 : Int32) (S0 : tk_ST) (hf : f_X7_inTrick S = some (r0, S0)) : tk_Mi l yX7_inTrick wsX7_inTrick rm_X7_inTrick G c3 [.ref (q 17)] (tk_M c3 q S) (tk_M c3 q S0) r0 := by
  refine tk_ofi (cc := cX7_inTrick) (maxL := 1) (ret := some .int) (by decide) rfl (Nat.le_of_ble_eq_true rfl) ?_
  intro p e s m below meth c A Q ls H locs hx hb hml hr hts hown hlocks hE hA hP hD hS hZ hQ hl
  have hl : lv_has ls 1 [(0, .ref (q 17))] := hl
  have hown : s.vm.findClass RX7 = some m.cls := hown
  unfold f_X7_inTrick at hf
  refine lv_aload_n hx hb dX7_inTrick_0 rfl (lv_at hl 0 rfl) ?_
  refine lv_iconst (v := 0) hx hb dX7_inTrick_1 (by decide) ?_
  refine va_put (D := G) (ci := 7) (v := .int (0 : Int32)) (ty := .int) (C := RX7) (T := TX7) (N := 29) hx hb hts i_X7_inTrick_X7 tyX7 tyX7_ok nmX7 hown hE.1 hP hD hS 0 rfl rfl 0 (by decide) (hts _ m_X7_inTrick_f58) (fun _ h9 => h9) rfl (by decide +kernel) rfl rfl (Nat.le_of_ble_eq_true rfl) dX7_inTrick_2 (fun H locs hP hD hS => ?_)
  have hP : va_P G vwCl (tk_M c3 q (tk_I S 0 (0 : Int32))) H := hP
  have hD : va_D A (tk_M c3 q (tk_I S 0 (0 : Int32))) := hD
  refine lv_aload_n hx hb dX7_inTrick_5 rfl (lv_at hl 0 rfl) ?_
  refine va_get (D := G) (ci := 7) (v := .int (S.1 15)) (C := RX7) (T := TX7) (N := 29) hx hb hts i_X7_inTrick_X7 hown hE.1 hP 0 rfl rfl 22 (by decide) (hts _ m_X7_inTrick_f101) (fun _ h9 => h9) rfl dX7_inTrick_6 ?_
  exact tk_ri hQ (tk_s2 hf).1 (congrArg (tk_M c3 q) (tk_s2 hf).2) hx hb hr hlocks hP hD hS dX7_inTrick_9
abbrev rm_X7_trickAt : Room := { frames := 1, cells := 0, slots := 0, locals := 22 }
set_option maxHeartbeats 4000000 in
set_option maxRecDepth 100000 in
theorem c_X7_trickAt (l : Launch) (G : va_G) (c3 : ClassId × ClassId × ClassId) (q : Nat → Nat) (S : tk_ST) (p0 : Int32) (r0 : Int32) (S0 : tk_ST) (hf : f_X7_trickAt p0 S = some (r0, S0)) : tk_Mi l yX7_trickAt wsX7_trickAt rm_X7_trickAt G c3 [.ref (q 17), .int p0] (tk_M c3 q S) (tk_M c3 q S0) r0 := by
  refine tk_ofi (cc := cX7_trickAt) (maxL := 2) (ret := some .int) (by decide) rfl (Nat.le_of_ble_eq_true rfl) ?_
  intro p e s m below meth c A Q ls H locs hx hb hml hr hts hown hlocks hE hA hP hD hS hZ hQ hl
  have hl : lv_has ls 2 [(0, .ref (q 17)), (1, .int p0)] := hl
  have hown : s.vm.findClass RX7 = some m.cls := hown
  have J_20 : ∀ (x1_20 : Int32) (k1_20 : Int32) (S_20 : tk_ST) (H : Heap) (locs : List Loc) (_ : va_P G vwCl (tk_M c3 q S_20) H) (_ : va_D A (tk_M c3 q S_20)) (_ : va_S A s.heap H locs) (ls : Array Slot) (_ : lv_has ls 2 [(0, .ref (q 17)), (1, .int x1_20)]) (_ : f_X7_trickAt_20 x1_20 k1_20 S_20 = some (r0, S0)), W p l e rm_X7_trickAt s m ([.ref (q 17), .int p0] : List Value).toArray below meth c H locs 0 0 Q (F0 m 20 ls [.int k1_20, .ref (q 17)]) := by
    intro x1_20 k1_20 S_20 H locs hP hD hS ls hl hf
    unfold f_X7_trickAt_20 at hf
    obtain ⟨r1, S3, h2, hf⟩ := tk_b2s hf
    refine tk_ci (ws' := (tk_M c3 q S3)) (va_runV (As := [.int k1_20]) (rest := []) ⟨hx, hb, hml, hown, hts⟩ (c_X7_isFine l G c3 q S_20 k1_20 r1 S3 h2 H.size) (cwV 1 hts gX7_trickAt_X7_isFine rfl rfl rfl hv_X7_isFine ⟨Nat.le_of_ble_eq_true rfl, Nat.le_of_ble_eq_true rfl⟩) (tk_pV hE hP hD 0 rfl rfl) rfl rfl hl.1 rfl (lv_room (Nat.le_of_ble_eq_true rfl)) dX7_trickAt_20 ⟨Nat.zero_le _, Nat.zero_le _⟩) hD hS hA (fun H locs hP hD hS => ?_)
    refine lv_if_eq (tgt := 35) hx hb dX7_trickAt_23 (by decide) (fun h4 => ?_) (fun h4 => ?_)
    · have hf := tk_pos hf h4
      refine lv_iconst (v := 0) hx hb dX7_trickAt_35 (by decide) ?_
      exact tk_ri hQ (tk_s2 hf).1 (congrArg (tk_M c3 q) (tk_s2 hf).2) hx hb hr hlocks hP hD hS dX7_trickAt_36
    · have hf := tk_neg hf h4
      refine lv_aload_n hx hb dX7_trickAt_26 rfl (lv_at hl 0 rfl) ?_
      refine va_get (D := G) (ci := 7) (v := .ref (q 22)) (C := RX7) (T := TX7) (N := 29) hx hb hts i_X7_trickAt_X7 hown hE.1 hP 0 rfl rfl 21 (by decide) (hts _ m_X7_trickAt_f46) (fun _ h9 => h9) rfl dX7_trickAt_27 ?_
      refine lv_iload_n hx hb dX7_trickAt_30 rfl (lv_at hl 1 rfl) ?_
      obtain ⟨h5, hf⟩ := tk_ok hf
      refine va_iald (f := (S3.2.2.1 3)) hx hb hE.1 hP 5 0 rfl rfl h5 dX7_trickAt_31 ?_
      refine lv_goto (tgt := 36) hx hb dX7_trickAt_32 (by decide) ?_
      exact tk_ri hQ (tk_s2 hf).1 (congrArg (tk_M c3 q) (tk_s2 hf).2) hx hb hr hlocks hP hD hS dX7_trickAt_36
  unfold f_X7_trickAt at hf
  refine lv_aload_n hx hb dX7_trickAt_0 rfl (lv_at hl 0 rfl) ?_
  refine lv_iload_n hx hb dX7_trickAt_1 rfl (lv_at hl 1 rfl) ?_
  refine lv_iconst (v := 0) hx hb dX7_trickAt_2 (by decide) ?_
  refine lv_aload_n hx hb dX7_trickAt_3 rfl (lv_at hl 0 rfl) ?_
  refine va_get (D := G) (ci := 7) (v := .int (S.1 15)) (C := RX7) (T := TX7) (N := 29) hx hb hts i_X7_trickAt_X7 hown hE.1 hP 0 rfl rfl 22 (by decide) (hts _ m_X7_trickAt_f101) (fun _ h9 => h9) rfl dX7_trickAt_4 ?_
  refine lv_iconst (v := 1) hx hb dX7_trickAt_7 (by decide) ?_
  refine lv_isub hx hb dX7_trickAt_8 ?_
  obtain ⟨r6, h7, hf⟩ := tk_b1s hf
  refine tk_ci (ws' := (tk_M c3 q S)) (va_runS (As := [.int p0, .int (0 : Int32), .int ((S.1 15) - (1 : Int32))]) (rest := [.ref (q 17)]) ⟨hx, hb, hml, hown, hts⟩ (c_X7_isIn l G c3 (tk_M c3 q S) p0 (0 : Int32) ((S.1 15) - (1 : Int32)) r6 h7 H.size) (va_cwS 3 hts gX7_trickAt_X7_isIn rfl rfl rfl hs_X7_isIn ⟨Nat.le_of_ble_eq_true rfl, Nat.le_of_ble_eq_true rfl⟩) (tk_pS hE hP hD) rfl rfl hl.1 rfl (lv_room (Nat.le_of_ble_eq_true rfl)) dX7_trickAt_9 ⟨Nat.zero_le _, Nat.zero_le _⟩) hD hS hA (fun H locs hP hD hS => ?_)
  refine lv_if_eq (tgt := 19) hx hb dX7_trickAt_12 (by decide) (fun h9 => ?_) (fun h9 => ?_)
  · have hf := tk_pos hf h9
    refine lv_iconst (v := 1) hx hb dX7_trickAt_19 (by decide) ?_
    exact J_20 p0 (1 : Int32) S H locs hP hD hS ls (lv_sub hl [0, 1] rfl) hf
  · have hf := tk_neg hf h9
    refine lv_iconst (v := 0) hx hb dX7_trickAt_15 (by decide) ?_
    refine lv_goto (tgt := 20) hx hb dX7_trickAt_16 (by decide) ?_
    exact J_20 p0 (0 : Int32) S H locs hP hD hS ls (lv_sub hl [0, 1] rfl) hf
abbrev rm_X7_canPlay : Room := { frames := 3, cells := 0, slots := 0, locals := 68 }
set_option maxHeartbeats 4000000 in
set_option maxRecDepth 100000 in
theorem c_X7_canPlay (l : Launch) (G : va_G) (c3 : ClassId × ClassId × ClassId) (q : Nat → Nat) (S : tk_ST) (p0 : Int32) (r0 : Int32) (S0 : tk_ST) (hf : f_X7_canPlay p0 S = some (r0, S0)) : tk_Mi l yX7_canPlay wsX7_canPlay rm_X7_canPlay G c3 [.ref (q 17), .int p0] (tk_M c3 q S) (tk_M c3 q S0) r0 := by
  refine tk_ofi (cc := cX7_canPlay) (maxL := 2) (ret := some .boolean) (by decide) rfl (Nat.le_of_ble_eq_true rfl) ?_
  intro p e s m below meth c A Q ls H locs hx hb hml hr hts hown hlocks hE hA hP hD hS hZ hQ hl
  have hl : lv_has ls 2 [(0, .ref (q 17)), (1, .int p0)] := hl
  have hown : s.vm.findClass RX7 = some m.cls := hown
  have J_13 : ∀ (x1_13 : Int32) (k1_13 : Int32) (S_13 : tk_ST) (H : Heap) (locs : List Loc) (_ : va_P G vwCl (tk_M c3 q S_13) H) (_ : va_D A (tk_M c3 q S_13)) (_ : va_S A s.heap H locs) (ls : Array Slot) (_ : lv_has ls 2 [(0, .ref (q 17)), (1, .int x1_13)]) (_ : f_X7_canPlay_13 x1_13 k1_13 S_13 = some (r0, S0)), W p l e rm_X7_canPlay s m ([.ref (q 17), .int p0] : List Value).toArray below meth c H locs 0 0 Q (F0 m 13 ls [.int k1_13, .ref (q 17)]) := by
    intro x1_13 k1_13 S_13 H locs hP hD hS ls hl hf
    unfold f_X7_canPlay_13 at hf
    obtain ⟨r1, S3, h2, hf⟩ := tk_b2s hf
    refine tk_ci (ws' := (tk_M c3 q S3)) (va_runV (As := [.int k1_13]) (rest := []) ⟨hx, hb, hml, hown, hts⟩ (c_X7_isFine l G c3 q S_13 k1_13 r1 S3 h2 H.size) (cwV 1 hts gX7_canPlay_X7_isFine rfl rfl rfl hv_X7_isFine ⟨Nat.le_of_ble_eq_true rfl, Nat.le_of_ble_eq_true rfl⟩) (tk_pV hE hP hD 0 rfl rfl) rfl rfl hl.1 rfl (lv_room (Nat.le_of_ble_eq_true rfl)) dX7_canPlay_13 ⟨Nat.zero_le _, Nat.zero_le _⟩) hD hS hA (fun H locs hP hD hS => ?_)
    refine lv_if_eq (tgt := 31) hx hb dX7_canPlay_16 (by decide) (fun h4 => ?_) (fun h4 => ?_)
    · have hf := tk_pos hf h4
      refine lv_iconst (v := 0) hx hb dX7_canPlay_31 (by decide) ?_
      exact tk_rz hQ (tk_s2 hf).1 (congrArg (tk_M c3 q) (tk_s2 hf).2) (by decide) hx hb hr hlocks hP hD hS dX7_canPlay_32
    · have hf := tk_neg hf h4
      refine lv_aload_n hx hb dX7_canPlay_19 rfl (lv_at hl 0 rfl) ?_
      refine lv_iload_n hx hb dX7_canPlay_20 rfl (lv_at hl 1 rfl) ?_
      obtain ⟨r5, h6, hf⟩ := tk_b1s hf
      refine tk_ci (ws' := (tk_M c3 q S3)) (va_runV (As := [.int x1_13]) (rest := []) ⟨hx, hb, hml, hown, hts⟩ (c_X7_isPlayable l G c3 q S3 x1_13 r5 h6 H.size) (cwV 1 hts gX7_canPlay_X7_isPlayable rfl rfl rfl hv_X7_isPlayable ⟨Nat.le_of_ble_eq_true rfl, Nat.le_of_ble_eq_true rfl⟩) (tk_pV hE hP hD 0 rfl rfl) rfl rfl hl.1 rfl (lv_room (Nat.le_of_ble_eq_true rfl)) dX7_canPlay_21 ⟨Nat.zero_le _, Nat.zero_le _⟩) hD hS hA (fun H locs hP hD hS => ?_)
      refine lv_if_eq (tgt := 31) hx hb dX7_canPlay_24 (by decide) (fun h8 => ?_) (fun h8 => ?_)
      · have hf := tk_pos hf h8
        refine lv_iconst (v := 0) hx hb dX7_canPlay_31 (by decide) ?_
        exact tk_rz hQ (tk_s2 hf).1 (congrArg (tk_M c3 q) (tk_s2 hf).2) (by decide) hx hb hr hlocks hP hD hS dX7_canPlay_32
      · have hf := tk_neg hf h8
        refine lv_iconst (v := 1) hx hb dX7_canPlay_27 (by decide) ?_
        refine lv_goto (tgt := 32) hx hb dX7_canPlay_28 (by decide) ?_
        exact tk_rz hQ (tk_s2 hf).1 (congrArg (tk_M c3 q) (tk_s2 hf).2) (by decide) hx hb hr hlocks hP hD hS dX7_canPlay_32
  unfold f_X7_canPlay at hf
  refine lv_aload_n hx hb dX7_canPlay_0 rfl (lv_at hl 0 rfl) ?_
  refine lv_iload_n hx hb dX7_canPlay_1 rfl (lv_at hl 1 rfl) ?_
  obtain ⟨r9, h10, hf⟩ := tk_b1s hf
  refine tk_ci (ws' := (tk_M c3 q S)) (va_runS (As := [.int p0]) (rest := [.ref (q 17)]) ⟨hx, hb, hml, hown, hts⟩ (c_X7_isCard l G c3 (tk_M c3 q S) p0 r9 h10 H.size) (va_cwS 1 hts gX7_canPlay_X7_isCard rfl rfl rfl hs_X7_isCard ⟨Nat.le_of_ble_eq_true rfl, Nat.le_of_ble_eq_true rfl⟩) (tk_pS hE hP hD) rfl rfl hl.1 rfl (lv_room (Nat.le_of_ble_eq_true rfl)) dX7_canPlay_2 ⟨Nat.zero_le _, Nat.zero_le _⟩) hD hS hA (fun H locs hP hD hS => ?_)
  refine lv_if_eq (tgt := 12) hx hb dX7_canPlay_5 (by decide) (fun h12 => ?_) (fun h12 => ?_)
  · have hf := tk_pos hf h12
    refine lv_iconst (v := 1) hx hb dX7_canPlay_12 (by decide) ?_
    exact J_13 p0 (1 : Int32) S H locs hP hD hS ls (lv_sub hl [0, 1] rfl) hf
  · have hf := tk_neg hf h12
    refine lv_iconst (v := 0) hx hb dX7_canPlay_8 (by decide) ?_
    refine lv_goto (tgt := 13) hx hb dX7_canPlay_9 (by decide) ?_
    exact J_13 p0 (0 : Int32) S H locs hP hD hS ls (lv_sub hl [0, 1] rfl) hf
abbrev rm_X7_tricks : Room := { frames := 0, cells := 0, slots := 0, locals := 0 }
set_option maxHeartbeats 4000000 in
set_option maxRecDepth 100000 in
theorem c_X7_tricks (l : Launch) (G : va_G) (c3 : ClassId × ClassId × ClassId) (q : Nat → Nat) (S : tk_ST) (r0 : Int32) (S0 : tk_ST) (hf : f_X7_tricks S = some (r0, S0)) : tk_Mi l yX7_tricks wsX7_tricks rm_X7_tricks G c3 [.ref (q 17)] (tk_M c3 q S) (tk_M c3 q S0) r0 := by
  refine tk_ofi (cc := cX7_tricks) (maxL := 1) (ret := some .int) (by decide) rfl (Nat.le_of_ble_eq_true rfl) ?_
  intro p e s m below meth c A Q ls H locs hx hb hml hr hts hown hlocks hE hA hP hD hS hZ hQ hl
  have hl : lv_has ls 1 [(0, .ref (q 17))] := hl
  have hown : s.vm.findClass RX7 = some m.cls := hown
  unfold f_X7_tricks at hf
  refine lv_aload_n hx hb dX7_tricks_0 rfl (lv_at hl 0 rfl) ?_
  refine lv_iconst (v := 0) hx hb dX7_tricks_1 (by decide) ?_
  refine va_put (D := G) (ci := 7) (v := .int (0 : Int32)) (ty := .int) (C := RX7) (T := TX7) (N := 29) hx hb hts i_X7_tricks_X7 tyX7 tyX7_ok nmX7 hown hE.1 hP hD hS 0 rfl rfl 0 (by decide) (hts _ m_X7_tricks_f58) (fun _ h9 => h9) rfl (by decide +kernel) rfl rfl (Nat.le_of_ble_eq_true rfl) dX7_tricks_2 (fun H locs hP hD hS => ?_)
  have hP : va_P G vwCl (tk_M c3 q (tk_I S 0 (0 : Int32))) H := hP
  have hD : va_D A (tk_M c3 q (tk_I S 0 (0 : Int32))) := hD
  refine lv_aload_n hx hb dX7_tricks_5 rfl (lv_at hl 0 rfl) ?_
  refine va_get (D := G) (ci := 7) (v := .int (S.1 17)) (C := RX7) (T := TX7) (N := 29) hx hb hts i_X7_tricks_X7 hown hE.1 hP 0 rfl rfl 24 (by decide) (hts _ m_X7_tricks_f104) (fun _ h9 => h9) rfl dX7_tricks_6 ?_
  exact tk_ri hQ (tk_s2 hf).1 (congrArg (tk_M c3 q) (tk_s2 hf).2) hx hb hr hlocks hP hD hS dX7_tricks_9
abbrev rm_X7_valueOf : Room := { frames := 2, cells := 0, slots := 0, locals := 42 }
set_option maxHeartbeats 4000000 in
set_option maxRecDepth 100000 in
theorem c_X7_valueOf (l : Launch) (G : va_G) (c3 : ClassId × ClassId × ClassId) (q : Nat → Nat) (S : tk_ST) (p0 : Int32) (r0 : Int32) (S0 : tk_ST) (hf : f_X7_valueOf p0 S = some (r0, S0)) : tk_Mi l yX7_valueOf wsX7_valueOf rm_X7_valueOf G c3 [.ref (q 17), .int p0] (tk_M c3 q S) (tk_M c3 q S0) r0 := by
  refine tk_ofi (cc := cX7_valueOf) (maxL := 2) (ret := some .int) (by decide) rfl (Nat.le_of_ble_eq_true rfl) ?_
  intro p e s m below meth c A Q ls H locs hx hb hml hr hts hown hlocks hE hA hP hD hS hZ hQ hl
  have hl : lv_has ls 2 [(0, .ref (q 17)), (1, .int p0)] := hl
  have hown : s.vm.findClass RX7 = some m.cls := hown
  have J_13 : ∀ (x1_13 : Int32) (k1_13 : Int32) (S_13 : tk_ST) (H : Heap) (locs : List Loc) (_ : va_P G vwCl (tk_M c3 q S_13) H) (_ : va_D A (tk_M c3 q S_13)) (_ : va_S A s.heap H locs) (ls : Array Slot) (_ : lv_has ls 2 [(1, .int x1_13)]) (_ : f_X7_valueOf_13 x1_13 k1_13 S_13 = some (r0, S0)), W p l e rm_X7_valueOf s m ([.ref (q 17), .int p0] : List Value).toArray below meth c H locs 0 0 Q (F0 m 13 ls [.int k1_13, .ref (q 17)]) := by
    intro x1_13 k1_13 S_13 H locs hP hD hS ls hl hf
    unfold f_X7_valueOf_13 at hf
    obtain ⟨r1, S3, h2, hf⟩ := tk_b2s hf
    refine tk_ci (ws' := (tk_M c3 q S3)) (va_runV (As := [.int k1_13]) (rest := []) ⟨hx, hb, hml, hown, hts⟩ (c_X7_isFine l G c3 q S_13 k1_13 r1 S3 h2 H.size) (cwV 1 hts gX7_valueOf_X7_isFine rfl rfl rfl hv_X7_isFine ⟨Nat.le_of_ble_eq_true rfl, Nat.le_of_ble_eq_true rfl⟩) (tk_pV hE hP hD 0 rfl rfl) rfl rfl hl.1 rfl (lv_room (Nat.le_of_ble_eq_true rfl)) dX7_valueOf_13 ⟨Nat.zero_le _, Nat.zero_le _⟩) hD hS hA (fun H locs hP hD hS => ?_)
    refine lv_if_eq (tgt := 26) hx hb dX7_valueOf_16 (by decide) (fun h4 => ?_) (fun h4 => ?_)
    · have hf := tk_pos hf h4
      refine lv_iconst (v := 0) hx hb dX7_valueOf_26 (by decide) ?_
      exact tk_ri hQ (tk_s2 hf).1 (congrArg (tk_M c3 q) (tk_s2 hf).2) hx hb hr hlocks hP hD hS dX7_valueOf_27
    · have hf := tk_neg hf h4
      refine lv_iload_n hx hb dX7_valueOf_19 rfl (lv_at hl 0 rfl) ?_
      obtain ⟨r5, h6, hf⟩ := tk_b1s hf
      refine tk_ci (ws' := (tk_M c3 q S3)) (va_runS (As := [.int x1_13]) (rest := []) ⟨hx, hb, hml, hown, hts⟩ (c_X7_worth l G c3 (tk_M c3 q S3) x1_13 r5 h6 H.size) (va_cwS 1 hts gX7_valueOf_X7_worth rfl rfl rfl hs_X7_worth ⟨Nat.le_of_ble_eq_true rfl, Nat.le_of_ble_eq_true rfl⟩) (tk_pS hE hP hD) rfl rfl hl.1 rfl (lv_room (Nat.le_of_ble_eq_true rfl)) dX7_valueOf_20 ⟨Nat.zero_le _, Nat.zero_le _⟩) hD hS hA (fun H locs hP hD hS => ?_)
      refine lv_goto (tgt := 27) hx hb dX7_valueOf_23 (by decide) ?_
      exact tk_ri hQ (tk_s2 hf).1 (congrArg (tk_M c3 q) (tk_s2 hf).2) hx hb hr hlocks hP hD hS dX7_valueOf_27
  unfold f_X7_valueOf at hf
  refine lv_aload_n hx hb dX7_valueOf_0 rfl (lv_at hl 0 rfl) ?_
  refine lv_iload_n hx hb dX7_valueOf_1 rfl (lv_at hl 1 rfl) ?_
  obtain ⟨r8, h9, hf⟩ := tk_b1s hf
  refine tk_ci (ws' := (tk_M c3 q S)) (va_runS (As := [.int p0]) (rest := [.ref (q 17)]) ⟨hx, hb, hml, hown, hts⟩ (c_X7_isCard l G c3 (tk_M c3 q S) p0 r8 h9 H.size) (va_cwS 1 hts gX7_valueOf_X7_isCard rfl rfl rfl hs_X7_isCard ⟨Nat.le_of_ble_eq_true rfl, Nat.le_of_ble_eq_true rfl⟩) (tk_pS hE hP hD) rfl rfl hl.1 rfl (lv_room (Nat.le_of_ble_eq_true rfl)) dX7_valueOf_2 ⟨Nat.zero_le _, Nat.zero_le _⟩) hD hS hA (fun H locs hP hD hS => ?_)
  refine lv_if_eq (tgt := 12) hx hb dX7_valueOf_5 (by decide) (fun h11 => ?_) (fun h11 => ?_)
  · have hf := tk_pos hf h11
    refine lv_iconst (v := 1) hx hb dX7_valueOf_12 (by decide) ?_
    exact J_13 p0 (1 : Int32) S H locs hP hD hS ls (lv_sub hl [1] rfl) hf
  · have hf := tk_neg hf h11
    refine lv_iconst (v := 0) hx hb dX7_valueOf_8 (by decide) ?_
    refine lv_goto (tgt := 13) hx hb dX7_valueOf_9 (by decide) ?_
    exact J_13 p0 (0 : Int32) S H locs hP hD hS ls (lv_sub hl [1] rfl) hf
abbrev rm_X7_thirds : Room := { frames := 3, cells := 0, slots := 0, locals := 68 }
set_option maxHeartbeats 4000000 in
set_option maxRecDepth 100000 in
theorem c_X7_thirds (l : Launch) (G : va_G) (c3 : ClassId × ClassId × ClassId) (q : Nat → Nat) (S : tk_ST) (p0 : Int32) (r0 : Int32) (S0 : tk_ST) (hf : f_X7_thirds p0 S = some (r0, S0)) : tk_Mi l yX7_thirds wsX7_thirds rm_X7_thirds G c3 [.ref (q 17), .int p0] (tk_M c3 q S) (tk_M c3 q S0) r0 := by
  refine tk_ofi (cc := cX7_thirds) (maxL := 2) (ret := some .int) (by decide) rfl (Nat.le_of_ble_eq_true rfl) ?_
  intro p e s m below meth c A Q ls H locs hx hb hml hr hts hown hlocks hE hA hP hD hS hZ hQ hl
  have hl : lv_has ls 2 [(0, .ref (q 17)), (1, .int p0)] := hl
  have hown : s.vm.findClass RX7 = some m.cls := hown
  have J_15 : ∀ (x1_15 : Int32) (k1_15 : Int32) (S_15 : tk_ST) (H : Heap) (locs : List Loc) (_ : va_P G vwCl (tk_M c3 q S_15) H) (_ : va_D A (tk_M c3 q S_15)) (_ : va_S A s.heap H locs) (ls : Array Slot) (_ : lv_has ls 2 [(0, .ref (q 17)), (1, .int x1_15)]) (_ : f_X7_thirds_15 x1_15 k1_15 S_15 = some (r0, S0)), W p l e rm_X7_thirds s m ([.ref (q 17), .int p0] : List Value).toArray below meth c H locs 0 0 Q (F0 m 15 ls [.int k1_15, .ref (q 17)]) := by
    intro x1_15 k1_15 S_15 H locs hP hD hS ls hl hf
    unfold f_X7_thirds_15 at hf
    obtain ⟨r1, S3, h2, hf⟩ := tk_b2s hf
    refine tk_ci (ws' := (tk_M c3 q S3)) (va_runV (As := [.int k1_15]) (rest := []) ⟨hx, hb, hml, hown, hts⟩ (c_X7_isFine l G c3 q S_15 k1_15 r1 S3 h2 H.size) (cwV 1 hts gX7_thirds_X7_isFine rfl rfl rfl hv_X7_isFine ⟨Nat.le_of_ble_eq_true rfl, Nat.le_of_ble_eq_true rfl⟩) (tk_pV hE hP hD 0 rfl rfl) rfl rfl hl.1 rfl (lv_room (Nat.le_of_ble_eq_true rfl)) dX7_thirds_15 ⟨Nat.zero_le _, Nat.zero_le _⟩) hD hS hA (fun H locs hP hD hS => ?_)
    refine lv_if_eq (tgt := 29) hx hb dX7_thirds_18 (by decide) (fun h4 => ?_) (fun h4 => ?_)
    · have hf := tk_pos hf h4
      refine lv_iconst (v := 0) hx hb dX7_thirds_29 (by decide) ?_
      exact tk_ri hQ (tk_s2 hf).1 (congrArg (tk_M c3 q) (tk_s2 hf).2) hx hb hr hlocks hP hD hS dX7_thirds_30
    · have hf := tk_neg hf h4
      refine lv_aload_n hx hb dX7_thirds_21 rfl (lv_at hl 0 rfl) ?_
      refine lv_iload_n hx hb dX7_thirds_22 rfl (lv_at hl 1 rfl) ?_
      obtain ⟨r5, h6, hf⟩ := tk_b1s hf
      refine tk_ci (ws' := (tk_M c3 q S3)) (va_runV (As := [.int x1_15]) (rest := []) ⟨hx, hb, hml, hown, hts⟩ (c_X7_counted l G c3 q S3 x1_15 r5 h6 H.size) (cwV 1 hts gX7_thirds_X7_counted rfl rfl rfl hv_X7_counted ⟨Nat.le_of_ble_eq_true rfl, Nat.le_of_ble_eq_true rfl⟩) (tk_pV hE hP hD 0 rfl rfl) rfl rfl hl.1 rfl (lv_room (Nat.le_of_ble_eq_true rfl)) dX7_thirds_23 ⟨Nat.zero_le _, Nat.zero_le _⟩) hD hS hA (fun H locs hP hD hS => ?_)
      refine lv_goto (tgt := 30) hx hb dX7_thirds_26 (by decide) ?_
      exact tk_ri hQ (tk_s2 hf).1 (congrArg (tk_M c3 q) (tk_s2 hf).2) hx hb hr hlocks hP hD hS dX7_thirds_30
  unfold f_X7_thirds at hf
  refine lv_aload_n hx hb dX7_thirds_0 rfl (lv_at hl 0 rfl) ?_
  refine lv_iload_n hx hb dX7_thirds_1 rfl (lv_at hl 1 rfl) ?_
  refine lv_iconst (v := 0) hx hb dX7_thirds_2 (by decide) ?_
  refine lv_iconst (v := 1) hx hb dX7_thirds_3 (by decide) ?_
  obtain ⟨r8, h9, hf⟩ := tk_b1s hf
  refine tk_ci (ws' := (tk_M c3 q S)) (va_runS (As := [.int p0, .int (0 : Int32), .int (1 : Int32)]) (rest := [.ref (q 17)]) ⟨hx, hb, hml, hown, hts⟩ (c_X7_isIn l G c3 (tk_M c3 q S) p0 (0 : Int32) (1 : Int32) r8 h9 H.size) (va_cwS 3 hts gX7_thirds_X7_isIn rfl rfl rfl hs_X7_isIn ⟨Nat.le_of_ble_eq_true rfl, Nat.le_of_ble_eq_true rfl⟩) (tk_pS hE hP hD) rfl rfl hl.1 rfl (lv_room (Nat.le_of_ble_eq_true rfl)) dX7_thirds_4 ⟨Nat.zero_le _, Nat.zero_le _⟩) hD hS hA (fun H locs hP hD hS => ?_)
  refine lv_if_eq (tgt := 14) hx hb dX7_thirds_7 (by decide) (fun h11 => ?_) (fun h11 => ?_)
  · have hf := tk_pos hf h11
    refine lv_iconst (v := 1) hx hb dX7_thirds_14 (by decide) ?_
    exact J_15 p0 (1 : Int32) S H locs hP hD hS ls (lv_sub hl [0, 1] rfl) hf
  · have hf := tk_neg hf h11
    refine lv_iconst (v := 0) hx hb dX7_thirds_10 (by decide) ?_
    refine lv_goto (tgt := 15) hx hb dX7_thirds_11 (by decide) ?_
    exact J_15 p0 (0 : Int32) S H locs hP hD hS ls (lv_sub hl [0, 1] rfl) hf
abbrev rm_X7_byPacks : Room := { frames := 2, cells := 0, slots := 0, locals := 45 }
set_option maxHeartbeats 4000000 in
set_option maxRecDepth 100000 in
theorem c_X7_byPacks (l : Launch) (G : va_G) (c3 : ClassId × ClassId × ClassId) (q : Nat → Nat) (S : tk_ST) (p0 : Int32) (r0 : Int32) (S0 : tk_ST) (hf : f_X7_byPacks p0 S = some (r0, S0)) : tk_Mi l yX7_byPacks wsX7_byPacks rm_X7_byPacks G c3 [.ref (q 17), .int p0] (tk_M c3 q S) (tk_M c3 q S0) r0 := by
  refine tk_ofi (cc := cX7_byPacks) (maxL := 6) (ret := some .int) (by decide) rfl (Nat.le_of_ble_eq_true rfl) ?_
  intro p e s m below meth c A Q ls H locs hx hb hml hr hts hown hlocks hE hA hP hD hS hZ hQ hl
  have hl : lv_has ls 6 [(0, .ref (q 17)), (1, .int p0)] := hl
  have hown : s.vm.findClass RX7 = some m.cls := hown
  have J_33 : ∀ (n_33 : Nat), ∀ (x1_33 : Int32) (x2_33 : Int32) (x3_33 : Int32) (x4_33 : Int32) (x5_33 : Int32) (S_33 : tk_ST) (H : Heap) (locs : List Loc) (_ : va_P G vwCl (tk_M c3 q S_33) H) (_ : va_D A (tk_M c3 q S_33)) (_ : va_S A s.heap H locs) (ls : Array Slot) (_ : lv_has ls 6 [(0, .ref (q 17)), (1, .int x1_33), (2, .int x2_33), (3, .int x3_33), (4, .int x4_33), (5, .int x5_33)]) (_ : f_X7_byPacks_33 n_33 x1_33 x2_33 x3_33 x4_33 x5_33 S_33 = some (r0, S0)), W p l e rm_X7_byPacks s m ([.ref (q 17), .int p0] : List Value).toArray below meth c H locs 0 0 Q (F0 m 33 ls []) := by
    intro n_33
    induction n_33 with
    | zero =>
      intro x1_33 x2_33 x3_33 x4_33 x5_33 S_33 H locs hP hD hS ls hl hf
      exact absurd hf (by intro h9; cases h9)
    | succ n_33 ih_33 =>
      have J_94 : ∀ (x1_94 : Int32) (x2_94 : Int32) (x3_94 : Int32) (x4_94 : Int32) (x5_94 : Int32) (S_94 : tk_ST) (H : Heap) (locs : List Loc) (_ : va_P G vwCl (tk_M c3 q S_94) H) (_ : va_D A (tk_M c3 q S_94)) (_ : va_S A s.heap H locs) (ls : Array Slot) (_ : lv_has ls 6 [(0, .ref (q 17)), (1, .int x1_94), (2, .int x2_94), (3, .int x3_94), (4, .int x4_94), (5, .int x5_94)]) (_ : f_X7_byPacks_94 (f_X7_byPacks_33 n_33) x1_94 x2_94 x3_94 x4_94 x5_94 S_94 = some (r0, S0)), W p l e rm_X7_byPacks s m ([.ref (q 17), .int p0] : List Value).toArray below meth c H locs 0 0 Q (F0 m 94 ls []) := by
        intro x1_94 x2_94 x3_94 x4_94 x5_94 S_94 H locs hP hD hS ls hl hf
        unfold f_X7_byPacks_94 at hf
        refine lv_iinc (v := (x5_94 + (1 : Int32))) (lv' := [(5, .int (x5_94 + (1 : Int32))), (0, .ref (q 17)), (1, .int x1_94), (2, .int x2_94), (3, .int x3_94), (4, .int x4_94)]) hx hb dX7_byPacks_94 hl (k := 5) rfl rfl (by decide) rfl (fun ls hl => ?_)
        refine lv_goto (tgt := 33) hx hb dX7_byPacks_97 (by decide) ?_
        exact ih_33 x1_94 x2_94 x3_94 x4_94 (x5_94 + (1 : Int32)) S_94 H locs hP hD hS ls (lv_sub hl [1, 2, 3, 4, 5, 0] rfl) hf
      have J_93 : ∀ (x1_93 : Int32) (x2_93 : Int32) (x4_93 : Int32) (x5_93 : Int32) (k0_93 : Int32) (S_93 : tk_ST) (H : Heap) (locs : List Loc) (_ : va_P G vwCl (tk_M c3 q S_93) H) (_ : va_D A (tk_M c3 q S_93)) (_ : va_S A s.heap H locs) (ls : Array Slot) (_ : lv_has ls 6 [(0, .ref (q 17)), (1, .int x1_93), (2, .int x2_93), (4, .int x4_93), (5, .int x5_93)]) (_ : f_X7_byPacks_93 (f_X7_byPacks_33 n_33) x1_93 x2_93 x4_93 x5_93 k0_93 S_93 = some (r0, S0)), W p l e rm_X7_byPacks s m ([.ref (q 17), .int p0] : List Value).toArray below meth c H locs 0 0 Q (F0 m 93 ls [.int k0_93]) := by
        intro x1_93 x2_93 x4_93 x5_93 k0_93 S_93 H locs hP hD hS ls hl hf
        unfold f_X7_byPacks_93 at hf
        refine lv_istore_n (lv' := [(3, .int k0_93), (0, .ref (q 17)), (1, .int x1_93), (2, .int x2_93), (4, .int x4_93), (5, .int x5_93)]) hx hb dX7_byPacks_93 rfl hl (by decide) rfl (fun ls hl => ?_)
        exact J_94 x1_93 x2_93 k0_93 x4_93 x5_93 S_93 H locs hP hD hS ls (lv_sub hl [1, 2, 3, 0, 4, 5] rfl) hf
      have J_79 : ∀ (x1_79 : Int32) (x3_79 : Int32) (x4_79 : Int32) (x5_79 : Int32) (k0_79 : Int32) (k1_79 : Int32) (S_79 : tk_ST) (H : Heap) (locs : List Loc) (_ : va_P G vwCl (tk_M c3 q S_79) H) (_ : va_D A (tk_M c3 q S_79)) (_ : va_S A s.heap H locs) (ls : Array Slot) (_ : lv_has ls 6 [(0, .ref (q 17)), (1, .int x1_79), (3, .int x3_79), (4, .int x4_79), (5, .int x5_79)]) (_ : f_X7_byPacks_79 (f_X7_byPacks_33 n_33) x1_79 x3_79 x4_79 x5_79 k0_79 k1_79 S_79 = some (r0, S0)), W p l e rm_X7_byPacks s m ([.ref (q 17), .int p0] : List Value).toArray below meth c H locs 0 0 Q (F0 m 79 ls [.int k1_79, .int k0_79]) := by
        intro x1_79 x3_79 x4_79 x5_79 k0_79 k1_79 S_79 H locs hP hD hS ls hl hf
        unfold f_X7_byPacks_79 at hf
        refine lv_iadd hx hb dX7_byPacks_79 ?_
        refine lv_istore_n (lv' := [(2, .int (k0_79 + k1_79)), (0, .ref (q 17)), (1, .int x1_79), (3, .int x3_79), (4, .int x4_79), (5, .int x5_79)]) hx hb dX7_byPacks_80 rfl hl (by decide) rfl (fun ls hl => ?_)
        refine lv_iload hx hb dX7_byPacks_81 (lv_at hl 4 rfl) ?_
        refine lv_iconst (v := 3) hx hb dX7_byPacks_83 (by decide) ?_
        refine tk_irem hx hb dX7_byPacks_84 (by decide) ?_
        refine lv_if_ne (tgt := 92) hx hb dX7_byPacks_85 (by decide) (fun h1 => ?_) (fun h1 => ?_)
        · have hf := tk_neg hf h1
          refine lv_iload_n hx hb dX7_byPacks_92 rfl (lv_at hl 3 rfl) ?_
          exact J_93 x1_79 (k0_79 + k1_79) x4_79 x5_79 x3_79 S_79 H locs hP hD hS ls (lv_sub hl [1, 2, 0, 4, 5] rfl) hf
        · have hf := tk_pos hf h1
          refine lv_iconst (v := 0) hx hb dX7_byPacks_88 (by decide) ?_
          refine lv_goto (tgt := 93) hx hb dX7_byPacks_89 (by decide) ?_
          exact J_93 x1_79 (k0_79 + k1_79) x4_79 x5_79 (0 : Int32) S_79 H locs hP hD hS ls (lv_sub hl [1, 2, 0, 4, 5] rfl) hf
      intro x1_33 x2_33 x3_33 x4_33 x5_33 S_33 H locs hP hD hS ls hl hf
      rw [f_X7_byPacks_33_s] at hf
      refine lv_iload hx hb dX7_byPacks_33 (lv_at hl 5 rfl) ?_
      refine lv_bipush (v := 54) hx hb dX7_byPacks_35 (by decide) ?_
      refine lv_icmp_ge (tgt := 100) hx hb dX7_byPacks_37 (by decide) (fun h2 => ?_) (fun h2 => ?_)
      · have hf := tk_pos hf h2
        refine lv_iload_n hx hb dX7_byPacks_100 rfl (lv_at hl 2 rfl) ?_
        exact tk_ri hQ (tk_s2 hf).1 (congrArg (tk_M c3 q) (tk_s2 hf).2) hx hb hr hlocks hP hD hS dX7_byPacks_101
      · have hf := tk_neg hf h2
        refine lv_aload_n hx hb dX7_byPacks_40 rfl (lv_at hl 0 rfl) ?_
        refine lv_iload_n hx hb dX7_byPacks_41 rfl (lv_at hl 1 rfl) ?_
        obtain ⟨r3, h4, hf⟩ := tk_b1s hf
        refine tk_cl (ws' := (tk_M c3 q S_33)) (va_runV (As := [.int x1_33]) (rest := []) ⟨hx, hb, hml, hown, hts⟩ (c_X7_cardsOf l G c3 q S_33 x1_33 r3 h4 H.size) (cwV 1 hts gX7_byPacks_X7_cardsOf rfl rfl rfl hv_X7_cardsOf ⟨Nat.le_of_ble_eq_true rfl, Nat.le_of_ble_eq_true rfl⟩) (tk_pV hE hP hD 0 rfl rfl) rfl rfl hl.1 rfl (lv_room (Nat.le_of_ble_eq_true rfl)) dX7_byPacks_42 ⟨Nat.zero_le _, Nat.zero_le _⟩) hD hS hA (fun H locs hP hD hS => ?_)
        refine lv_iload hx hb dX7_byPacks_45 (lv_at hl 5 rfl) ?_
        obtain ⟨r6, h7, hf⟩ := tk_b1s hf
        refine tk_ci (ws' := (tk_M c3 q S_33)) (va_runS (As := [.long r3, .int x5_33]) (rest := []) ⟨hx, hb, hml, hown, hts⟩ (c_X7_has l G c3 (tk_M c3 q S_33) r3 x5_33 r6 h7 H.size) (va_cwS 2 hts gX7_byPacks_X7_has rfl rfl rfl hs_X7_has ⟨Nat.le_of_ble_eq_true rfl, Nat.le_of_ble_eq_true rfl⟩) (tk_pS hE hP hD) rfl rfl hl.1 rfl (lv_room (Nat.le_of_ble_eq_true rfl)) dX7_byPacks_47 ⟨Nat.zero_le _, Nat.zero_le _⟩) hD hS hA (fun H locs hP hD hS => ?_)
        refine lv_if_eq (tgt := 94) hx hb dX7_byPacks_50 (by decide) (fun h9 => ?_) (fun h9 => ?_)
        · have hf := tk_pos hf h9
          exact J_94 x1_33 x2_33 x3_33 x4_33 x5_33 S_33 H locs hP hD hS ls (lv_sub hl [0, 1, 2, 3, 4, 5] rfl) hf
        · have hf := tk_neg hf h9
          refine lv_iload_n hx hb dX7_byPacks_53 rfl (lv_at hl 3 rfl) ?_
          refine lv_iload hx hb dX7_byPacks_54 (lv_at hl 5 rfl) ?_
          obtain ⟨r10, h11, hf⟩ := tk_b1s hf
          refine tk_ci (ws' := (tk_M c3 q S_33)) (va_runS (As := [.int x5_33]) (rest := [.int x3_33]) ⟨hx, hb, hml, hown, hts⟩ (c_X7_worth l G c3 (tk_M c3 q S_33) x5_33 r10 h11 H.size) (va_cwS 1 hts gX7_byPacks_X7_worth rfl rfl rfl hs_X7_worth ⟨Nat.le_of_ble_eq_true rfl, Nat.le_of_ble_eq_true rfl⟩) (tk_pS hE hP hD) rfl rfl hl.1 rfl (lv_room (Nat.le_of_ble_eq_true rfl)) dX7_byPacks_56 ⟨Nat.zero_le _, Nat.zero_le _⟩) hD hS hA (fun H locs hP hD hS => ?_)
          refine lv_iadd hx hb dX7_byPacks_59 ?_
          refine lv_istore_n (lv' := [(3, .int (x3_33 + r10)), (0, .ref (q 17)), (1, .int x1_33), (2, .int x2_33), (4, .int x4_33), (5, .int x5_33)]) hx hb dX7_byPacks_60 rfl hl (by decide) rfl (fun ls hl => ?_)
          refine lv_iinc (v := (x4_33 + (1 : Int32))) (lv' := [(4, .int (x4_33 + (1 : Int32))), (3, .int (x3_33 + r10)), (0, .ref (q 17)), (1, .int x1_33), (2, .int x2_33), (5, .int x5_33)]) hx hb dX7_byPacks_61 hl (k := 4) rfl rfl (by decide) rfl (fun ls hl => ?_)
          refine lv_iload_n hx hb dX7_byPacks_64 rfl (lv_at hl 4 rfl) ?_
          refine lv_iload hx hb dX7_byPacks_65 (lv_at hl 0 rfl) ?_
          refine lv_iconst (v := 3) hx hb dX7_byPacks_67 (by decide) ?_
          refine tk_irem hx hb dX7_byPacks_68 (by decide) ?_
          refine lv_if_ne (tgt := 78) hx hb dX7_byPacks_69 (by decide) (fun h13 => ?_) (fun h13 => ?_)
          · have hf := tk_neg hf h13
            refine lv_iconst (v := 0) hx hb dX7_byPacks_78 (by decide) ?_
            exact J_79 x1_33 (x3_33 + r10) (x4_33 + (1 : Int32)) x5_33 x2_33 (0 : Int32) S_33 H locs hP hD hS ls (lv_sub hl [2, 3, 1, 0, 5] rfl) hf
          · have hf := tk_pos hf h13
            refine lv_iload_n hx hb dX7_byPacks_72 rfl (lv_at hl 1 rfl) ?_
            refine lv_iconst (v := 2) hx hb dX7_byPacks_73 (by decide) ?_
            refine lv_isub hx hb dX7_byPacks_74 ?_
            refine lv_goto (tgt := 79) hx hb dX7_byPacks_75 (by decide) ?_
            exact J_79 x1_33 (x3_33 + r10) (x4_33 + (1 : Int32)) x5_33 x2_33 ((x3_33 + r10) - (2 : Int32)) S_33 H locs hP hD hS ls (lv_sub hl [2, 3, 1, 0, 5] rfl) hf
  have J_15 : ∀ (x1_15 : Int32) (k1_15 : Int32) (S_15 : tk_ST) (H : Heap) (locs : List Loc) (_ : va_P G vwCl (tk_M c3 q S_15) H) (_ : va_D A (tk_M c3 q S_15)) (_ : va_S A s.heap H locs) (ls : Array Slot) (_ : lv_has ls 6 [(0, .ref (q 17)), (1, .int x1_15)]) (_ : f_X7_byPacks_15 x1_15 k1_15 S_15 = some (r0, S0)), W p l e rm_X7_byPacks s m ([.ref (q 17), .int p0] : List Value).toArray below meth c H locs 0 0 Q (F0 m 15 ls [.int k1_15, .ref (q 17)]) := by
    intro x1_15 k1_15 S_15 H locs hP hD hS ls hl hf
    unfold f_X7_byPacks_15 at hf
    obtain ⟨r14, S16, h15, hf⟩ := tk_b2s hf
    refine tk_ci (ws' := (tk_M c3 q S16)) (va_runV (As := [.int k1_15]) (rest := []) ⟨hx, hb, hml, hown, hts⟩ (c_X7_isFine l G c3 q S_15 k1_15 r14 S16 h15 H.size) (cwV 1 hts gX7_byPacks_X7_isFine rfl rfl rfl hv_X7_isFine ⟨Nat.le_of_ble_eq_true rfl, Nat.le_of_ble_eq_true rfl⟩) (tk_pV hE hP hD 0 rfl rfl) rfl rfl hl.1 rfl (lv_room (Nat.le_of_ble_eq_true rfl)) dX7_byPacks_15 ⟨Nat.zero_le _, Nat.zero_le _⟩) hD hS hA (fun H locs hP hD hS => ?_)
    refine lv_if_ne (tgt := 23) hx hb dX7_byPacks_18 (by decide) (fun h17 => ?_) (fun h17 => ?_)
    · have hf := tk_neg hf h17
      refine lv_iconst (v := 0) hx hb dX7_byPacks_23 (by decide) ?_
      refine lv_istore_n (lv' := [(2, .int (0 : Int32)), (0, .ref (q 17)), (1, .int x1_15)]) hx hb dX7_byPacks_24 rfl hl (by decide) rfl (fun ls hl => ?_)
      refine lv_iconst (v := 0) hx hb dX7_byPacks_25 (by decide) ?_
      refine lv_istore_n (lv' := [(3, .int (0 : Int32)), (2, .int (0 : Int32)), (0, .ref (q 17)), (1, .int x1_15)]) hx hb dX7_byPacks_26 rfl hl (by decide) rfl (fun ls hl => ?_)
      refine lv_iconst (v := 0) hx hb dX7_byPacks_27 (by decide) ?_
      refine lv_istore (lv' := [(4, .int (0 : Int32)), (3, .int (0 : Int32)), (2, .int (0 : Int32)), (0, .ref (q 17)), (1, .int x1_15)]) hx hb dX7_byPacks_28 hl (by decide) rfl (fun ls hl => ?_)
      refine lv_iconst (v := 0) hx hb dX7_byPacks_30 (by decide) ?_
      refine lv_istore (lv' := [(5, .int (0 : Int32)), (4, .int (0 : Int32)), (3, .int (0 : Int32)), (2, .int (0 : Int32)), (0, .ref (q 17)), (1, .int x1_15)]) hx hb dX7_byPacks_31 hl (by decide) rfl (fun ls hl => ?_)
      exact J_33 64 x1_15 (0 : Int32) (0 : Int32) (0 : Int32) (0 : Int32) S16 H locs hP hD hS ls (lv_sub hl [4, 5, 3, 2, 1, 0] rfl) hf
    · have hf := tk_pos hf h17
      refine lv_iconst (v := 0) hx hb dX7_byPacks_21 (by decide) ?_
      exact tk_ri hQ (tk_s2 hf).1 (congrArg (tk_M c3 q) (tk_s2 hf).2) hx hb hr hlocks hP hD hS dX7_byPacks_22
  unfold f_X7_byPacks at hf
  refine lv_aload_n hx hb dX7_byPacks_0 rfl (lv_at hl 0 rfl) ?_
  refine lv_iload_n hx hb dX7_byPacks_1 rfl (lv_at hl 1 rfl) ?_
  refine lv_iconst (v := 0) hx hb dX7_byPacks_2 (by decide) ?_
  refine lv_iconst (v := 1) hx hb dX7_byPacks_3 (by decide) ?_
  obtain ⟨r18, h19, hf⟩ := tk_b1s hf
  refine tk_ci (ws' := (tk_M c3 q S)) (va_runS (As := [.int p0, .int (0 : Int32), .int (1 : Int32)]) (rest := [.ref (q 17)]) ⟨hx, hb, hml, hown, hts⟩ (c_X7_isIn l G c3 (tk_M c3 q S) p0 (0 : Int32) (1 : Int32) r18 h19 H.size) (va_cwS 3 hts gX7_byPacks_X7_isIn rfl rfl rfl hs_X7_isIn ⟨Nat.le_of_ble_eq_true rfl, Nat.le_of_ble_eq_true rfl⟩) (tk_pS hE hP hD) rfl rfl hl.1 rfl (lv_room (Nat.le_of_ble_eq_true rfl)) dX7_byPacks_4 ⟨Nat.zero_le _, Nat.zero_le _⟩) hD hS hA (fun H locs hP hD hS => ?_)
  refine lv_if_eq (tgt := 14) hx hb dX7_byPacks_7 (by decide) (fun h21 => ?_) (fun h21 => ?_)
  · have hf := tk_pos hf h21
    refine lv_iconst (v := 1) hx hb dX7_byPacks_14 (by decide) ?_
    exact J_15 p0 (1 : Int32) S H locs hP hD hS ls (lv_sub hl [0, 1] rfl) hf
  · have hf := tk_neg hf h21
    refine lv_iconst (v := 0) hx hb dX7_byPacks_10 (by decide) ?_
    refine lv_goto (tgt := 15) hx hb dX7_byPacks_11 (by decide) ?_
    exact J_15 p0 (0 : Int32) S H locs hP hD hS ls (lv_sub hl [0, 1] rfl) hf
abbrev rm_X7_score : Room := { frames := 2, cells := 0, slots := 0, locals := 42 }
set_option maxHeartbeats 4000000 in
set_option maxRecDepth 100000 in
theorem c_X7_score (l : Launch) (G : va_G) (c3 : ClassId × ClassId × ClassId) (q : Nat → Nat) (S : tk_ST) (p0 : Int32) (r0 : Int32) (S0 : tk_ST) (hf : f_X7_score p0 S = some (r0, S0)) : tk_Mi l yX7_score wsX7_score rm_X7_score G c3 [.ref (q 17), .int p0] (tk_M c3 q S) (tk_M c3 q S0) r0 := by
  refine tk_ofi (cc := cX7_score) (maxL := 2) (ret := some .int) (by decide) rfl (Nat.le_of_ble_eq_true rfl) ?_
  intro p e s m below meth c A Q ls H locs hx hb hml hr hts hown hlocks hE hA hP hD hS hZ hQ hl
  have hl : lv_has ls 2 [(0, .ref (q 17)), (1, .int p0)] := hl
  have hown : s.vm.findClass RX7 = some m.cls := hown
  have J_13 : ∀ (x1_13 : Int32) (k1_13 : Int32) (S_13 : tk_ST) (H : Heap) (locs : List Loc) (_ : va_P G vwCl (tk_M c3 q S_13) H) (_ : va_D A (tk_M c3 q S_13)) (_ : va_S A s.heap H locs) (ls : Array Slot) (_ : lv_has ls 2 [(0, .ref (q 17)), (1, .int x1_13)]) (_ : f_X7_score_13 x1_13 k1_13 S_13 = some (r0, S0)), W p l e rm_X7_score s m ([.ref (q 17), .int p0] : List Value).toArray below meth c H locs 0 0 Q (F0 m 13 ls [.int k1_13, .ref (q 17)]) := by
    intro x1_13 k1_13 S_13 H locs hP hD hS ls hl hf
    unfold f_X7_score_13 at hf
    obtain ⟨r1, S3, h2, hf⟩ := tk_b2s hf
    refine tk_ci (ws' := (tk_M c3 q S3)) (va_runV (As := [.int k1_13]) (rest := []) ⟨hx, hb, hml, hown, hts⟩ (c_X7_isFine l G c3 q S_13 k1_13 r1 S3 h2 H.size) (cwV 1 hts gX7_score_X7_isFine rfl rfl rfl hv_X7_isFine ⟨Nat.le_of_ble_eq_true rfl, Nat.le_of_ble_eq_true rfl⟩) (tk_pV hE hP hD 0 rfl rfl) rfl rfl hl.1 rfl (lv_room (Nat.le_of_ble_eq_true rfl)) dX7_score_13 ⟨Nat.zero_le _, Nat.zero_le _⟩) hD hS hA (fun H locs hP hD hS => ?_)
    refine lv_if_eq (tgt := 28) hx hb dX7_score_16 (by decide) (fun h4 => ?_) (fun h4 => ?_)
    · have hf := tk_pos hf h4
      refine lv_iconst (v := 0) hx hb dX7_score_28 (by decide) ?_
      exact tk_ri hQ (tk_s2 hf).1 (congrArg (tk_M c3 q) (tk_s2 hf).2) hx hb hr hlocks hP hD hS dX7_score_29
    · have hf := tk_neg hf h4
      refine lv_aload_n hx hb dX7_score_19 rfl (lv_at hl 0 rfl) ?_
      refine va_get (D := G) (ci := 7) (v := .ref (q 24)) (C := RX7) (T := TX7) (N := 29) hx hb hts i_X7_score_X7 hown hE.1 hP 0 rfl rfl 26 (by decide) (hts _ m_X7_score_f52) (fun _ h9 => h9) rfl dX7_score_20 ?_
      refine lv_iload_n hx hb dX7_score_23 rfl (lv_at hl 1 rfl) ?_
      obtain ⟨h5, hf⟩ := tk_ok hf
      refine va_iald (f := (S3.2.2.1 4)) hx hb hE.1 hP 7 0 rfl rfl h5 dX7_score_24 ?_
      refine lv_goto (tgt := 29) hx hb dX7_score_25 (by decide) ?_
      exact tk_ri hQ (tk_s2 hf).1 (congrArg (tk_M c3 q) (tk_s2 hf).2) hx hb hr hlocks hP hD hS dX7_score_29
  unfold f_X7_score at hf
  refine lv_aload_n hx hb dX7_score_0 rfl (lv_at hl 0 rfl) ?_
  refine lv_iload_n hx hb dX7_score_1 rfl (lv_at hl 1 rfl) ?_
  obtain ⟨r6, h7, hf⟩ := tk_b1s hf
  refine tk_ci (ws' := (tk_M c3 q S)) (va_runS (As := [.int p0]) (rest := [.ref (q 17)]) ⟨hx, hb, hml, hown, hts⟩ (c_X7_isPlayer l G c3 (tk_M c3 q S) p0 r6 h7 H.size) (va_cwS 1 hts gX7_score_X7_isPlayer rfl rfl rfl hs_X7_isPlayer ⟨Nat.le_of_ble_eq_true rfl, Nat.le_of_ble_eq_true rfl⟩) (tk_pS hE hP hD) rfl rfl hl.1 rfl (lv_room (Nat.le_of_ble_eq_true rfl)) dX7_score_2 ⟨Nat.zero_le _, Nat.zero_le _⟩) hD hS hA (fun H locs hP hD hS => ?_)
  refine lv_if_eq (tgt := 12) hx hb dX7_score_5 (by decide) (fun h9 => ?_) (fun h9 => ?_)
  · have hf := tk_pos hf h9
    refine lv_iconst (v := 1) hx hb dX7_score_12 (by decide) ?_
    exact J_13 p0 (1 : Int32) S H locs hP hD hS ls (lv_sub hl [0, 1] rfl) hf
  · have hf := tk_neg hf h9
    refine lv_iconst (v := 0) hx hb dX7_score_8 (by decide) ?_
    refine lv_goto (tgt := 13) hx hb dX7_score_9 (by decide) ?_
    exact J_13 p0 (0 : Int32) S H locs hP hD hS ls (lv_sub hl [0, 1] rfl) hf
abbrev rm_X7_radli : Room := { frames := 2, cells := 0, slots := 0, locals := 42 }
set_option maxHeartbeats 4000000 in
set_option maxRecDepth 100000 in
theorem c_X7_radli (l : Launch) (G : va_G) (c3 : ClassId × ClassId × ClassId) (q : Nat → Nat) (S : tk_ST) (p0 : Int32) (r0 : Int32) (S0 : tk_ST) (hf : f_X7_radli p0 S = some (r0, S0)) : tk_Mi l yX7_radli wsX7_radli rm_X7_radli G c3 [.ref (q 17), .int p0] (tk_M c3 q S) (tk_M c3 q S0) r0 := by
  refine tk_ofi (cc := cX7_radli) (maxL := 2) (ret := some .int) (by decide) rfl (Nat.le_of_ble_eq_true rfl) ?_
  intro p e s m below meth c A Q ls H locs hx hb hml hr hts hown hlocks hE hA hP hD hS hZ hQ hl
  have hl : lv_has ls 2 [(0, .ref (q 17)), (1, .int p0)] := hl
  have hown : s.vm.findClass RX7 = some m.cls := hown
  have J_13 : ∀ (x1_13 : Int32) (k1_13 : Int32) (S_13 : tk_ST) (H : Heap) (locs : List Loc) (_ : va_P G vwCl (tk_M c3 q S_13) H) (_ : va_D A (tk_M c3 q S_13)) (_ : va_S A s.heap H locs) (ls : Array Slot) (_ : lv_has ls 2 [(0, .ref (q 17)), (1, .int x1_13)]) (_ : f_X7_radli_13 x1_13 k1_13 S_13 = some (r0, S0)), W p l e rm_X7_radli s m ([.ref (q 17), .int p0] : List Value).toArray below meth c H locs 0 0 Q (F0 m 13 ls [.int k1_13, .ref (q 17)]) := by
    intro x1_13 k1_13 S_13 H locs hP hD hS ls hl hf
    unfold f_X7_radli_13 at hf
    obtain ⟨r1, S3, h2, hf⟩ := tk_b2s hf
    refine tk_ci (ws' := (tk_M c3 q S3)) (va_runV (As := [.int k1_13]) (rest := []) ⟨hx, hb, hml, hown, hts⟩ (c_X7_isFine l G c3 q S_13 k1_13 r1 S3 h2 H.size) (cwV 1 hts gX7_radli_X7_isFine rfl rfl rfl hv_X7_isFine ⟨Nat.le_of_ble_eq_true rfl, Nat.le_of_ble_eq_true rfl⟩) (tk_pV hE hP hD 0 rfl rfl) rfl rfl hl.1 rfl (lv_room (Nat.le_of_ble_eq_true rfl)) dX7_radli_13 ⟨Nat.zero_le _, Nat.zero_le _⟩) hD hS hA (fun H locs hP hD hS => ?_)
    refine lv_if_eq (tgt := 28) hx hb dX7_radli_16 (by decide) (fun h4 => ?_) (fun h4 => ?_)
    · have hf := tk_pos hf h4
      refine lv_iconst (v := 0) hx hb dX7_radli_28 (by decide) ?_
      exact tk_ri hQ (tk_s2 hf).1 (congrArg (tk_M c3 q) (tk_s2 hf).2) hx hb hr hlocks hP hD hS dX7_radli_29
    · have hf := tk_neg hf h4
      refine lv_aload_n hx hb dX7_radli_19 rfl (lv_at hl 0 rfl) ?_
      refine va_get (D := G) (ci := 7) (v := .ref (q 25)) (C := RX7) (T := TX7) (N := 29) hx hb hts i_X7_radli_X7 hown hE.1 hP 0 rfl rfl 27 (by decide) (hts _ m_X7_radli_f55) (fun _ h9 => h9) rfl dX7_radli_20 ?_
      refine lv_iload_n hx hb dX7_radli_23 rfl (lv_at hl 1 rfl) ?_
      obtain ⟨h5, hf⟩ := tk_ok hf
      refine va_iald (f := (S3.2.2.1 5)) hx hb hE.1 hP 8 0 rfl rfl h5 dX7_radli_24 ?_
      refine lv_goto (tgt := 29) hx hb dX7_radli_25 (by decide) ?_
      exact tk_ri hQ (tk_s2 hf).1 (congrArg (tk_M c3 q) (tk_s2 hf).2) hx hb hr hlocks hP hD hS dX7_radli_29
  unfold f_X7_radli at hf
  refine lv_aload_n hx hb dX7_radli_0 rfl (lv_at hl 0 rfl) ?_
  refine lv_iload_n hx hb dX7_radli_1 rfl (lv_at hl 1 rfl) ?_
  obtain ⟨r6, h7, hf⟩ := tk_b1s hf
  refine tk_ci (ws' := (tk_M c3 q S)) (va_runS (As := [.int p0]) (rest := [.ref (q 17)]) ⟨hx, hb, hml, hown, hts⟩ (c_X7_isPlayer l G c3 (tk_M c3 q S) p0 r6 h7 H.size) (va_cwS 1 hts gX7_radli_X7_isPlayer rfl rfl rfl hs_X7_isPlayer ⟨Nat.le_of_ble_eq_true rfl, Nat.le_of_ble_eq_true rfl⟩) (tk_pS hE hP hD) rfl rfl hl.1 rfl (lv_room (Nat.le_of_ble_eq_true rfl)) dX7_radli_2 ⟨Nat.zero_le _, Nat.zero_le _⟩) hD hS hA (fun H locs hP hD hS => ?_)
  refine lv_if_eq (tgt := 12) hx hb dX7_radli_5 (by decide) (fun h9 => ?_) (fun h9 => ?_)
  · have hf := tk_pos hf h9
    refine lv_iconst (v := 1) hx hb dX7_radli_12 (by decide) ?_
    exact J_13 p0 (1 : Int32) S H locs hP hD hS ls (lv_sub hl [0, 1] rfl) hf
  · have hf := tk_neg hf h9
    refine lv_iconst (v := 0) hx hb dX7_radli_8 (by decide) ?_
    refine lv_goto (tgt := 13) hx hb dX7_radli_9 (by decide) ?_
    exact J_13 p0 (0 : Int32) S H locs hP hD hS ls (lv_sub hl [0, 1] rfl) hf
abbrev rm_X7_result : Room := { frames := 0, cells := 0, slots := 0, locals := 0 }
set_option maxHeartbeats 4000000 in
set_option maxRecDepth 100000 in
theorem c_X7_result (l : Launch) (G : va_G) (c3 : ClassId × ClassId × ClassId) (q : Nat → Nat) (S : tk_ST) (r0 : Int32) (S0 : tk_ST) (hf : f_X7_result S = some (r0, S0)) : tk_Mi l yX7_result wsX7_result rm_X7_result G c3 [.ref (q 17)] (tk_M c3 q S) (tk_M c3 q S0) r0 := by
  refine tk_ofi (cc := cX7_result) (maxL := 1) (ret := some .int) (by decide) rfl (Nat.le_of_ble_eq_true rfl) ?_
  intro p e s m below meth c A Q ls H locs hx hb hml hr hts hown hlocks hE hA hP hD hS hZ hQ hl
  have hl : lv_has ls 1 [(0, .ref (q 17))] := hl
  have hown : s.vm.findClass RX7 = some m.cls := hown
  unfold f_X7_result at hf
  refine lv_aload_n hx hb dX7_result_0 rfl (lv_at hl 0 rfl) ?_
  refine lv_iconst (v := 0) hx hb dX7_result_1 (by decide) ?_
  refine va_put (D := G) (ci := 7) (v := .int (0 : Int32)) (ty := .int) (C := RX7) (T := TX7) (N := 29) hx hb hts i_X7_result_X7 tyX7 tyX7_ok nmX7 hown hE.1 hP hD hS 0 rfl rfl 0 (by decide) (hts _ m_X7_result_f58) (fun _ h9 => h9) rfl (by decide +kernel) rfl rfl (Nat.le_of_ble_eq_true rfl) dX7_result_2 (fun H locs hP hD hS => ?_)
  have hP : va_P G vwCl (tk_M c3 q (tk_I S 0 (0 : Int32))) H := hP
  have hD : va_D A (tk_M c3 q (tk_I S 0 (0 : Int32))) := hD
  refine lv_aload_n hx hb dX7_result_5 rfl (lv_at hl 0 rfl) ?_
  refine va_get (D := G) (ci := 7) (v := .int (S.1 18)) (C := RX7) (T := TX7) (N := 29) hx hb hts i_X7_result_X7 hown hE.1 hP 0 rfl rfl 28 (by decide) (hts _ m_X7_result_f161) (fun _ h9 => h9) rfl dX7_result_6 ?_
  exact tk_ri hQ (tk_s2 hf).1 (congrArg (tk_M c3 q) (tk_s2 hf).2) hx hb hr hlocks hP hD hS dX7_result_9
abbrev rm_X7_knows : Room := { frames := 2, cells := 0, slots := 0, locals := 42 }
set_option maxHeartbeats 4000000 in
set_option maxRecDepth 100000 in
theorem c_X7_knows (l : Launch) (G : va_G) (c3 : ClassId × ClassId × ClassId) (q : Nat → Nat) (S : tk_ST) (p0 : Int32) (p1 : Int32) (r0 : Int32) (S0 : tk_ST) (hf : f_X7_knows p0 p1 S = some (r0, S0)) : tk_Mi l yX7_knows wsX7_knows rm_X7_knows G c3 [.ref (q 17), .int p0, .int p1] (tk_M c3 q S) (tk_M c3 q S0) r0 := by
  refine tk_ofi (cc := cX7_knows) (maxL := 4) (ret := some .int) (by decide) rfl (Nat.le_of_ble_eq_true rfl) ?_
  intro p e s m below meth c A Q ls H locs hx hb hml hr hts hown hlocks hE hA hP hD hS hZ hQ hl
  have hl : lv_has ls 4 [(0, .ref (q 17)), (1, .int p0), (2, .int p1)] := hl
  have hown : s.vm.findClass RX7 = some m.cls := hown
  have J_100 : ∀ (x2_100 : Int32) (S_100 : tk_ST) (H : Heap) (locs : List Loc) (_ : va_P G vwCl (tk_M c3 q S_100) H) (_ : va_D A (tk_M c3 q S_100)) (_ : va_S A s.heap H locs) (ls : Array Slot) (_ : lv_has ls 4 [(0, .ref (q 17)), (2, .int x2_100)]) (_ : f_X7_knows_100 x2_100 S_100 = some (r0, S0)), W p l e rm_X7_knows s m ([.ref (q 17), .int p0, .int p1] : List Value).toArray below meth c H locs 0 0 Q (F0 m 100 ls []) := by
    intro x2_100 S_100 H locs hP hD hS ls hl hf
    unfold f_X7_knows_100 at hf
    refine lv_aload_n hx hb dX7_knows_100 rfl (lv_at hl 0 rfl) ?_
    refine lv_iload_n hx hb dX7_knows_101 rfl (lv_at hl 1 rfl) ?_
    obtain ⟨r1, h2, hf⟩ := tk_b1s hf
    refine tk_ci (ws' := (tk_M c3 q S_100)) (va_runV (As := [.int x2_100]) (rest := []) ⟨hx, hb, hml, hown, hts⟩ (c_X7_sideOf l G c3 q S_100 x2_100 r1 h2 H.size) (cwV 1 hts gX7_knows_X7_sideOf rfl rfl rfl hv_X7_sideOf ⟨Nat.le_of_ble_eq_true rfl, Nat.le_of_ble_eq_true rfl⟩) (tk_pV hE hP hD 0 rfl rfl) rfl rfl hl.1 rfl (lv_room (Nat.le_of_ble_eq_true rfl)) dX7_knows_102 ⟨Nat.zero_le _, Nat.zero_le _⟩) hD hS hA (fun H locs hP hD hS => ?_)
    refine lv_goto (tgt := 109) hx hb dX7_knows_105 (by decide) ?_
    exact tk_ri hQ (tk_s2 hf).1 (congrArg (tk_M c3 q) (tk_s2 hf).2) hx hb hr hlocks hP hD hS dX7_knows_109
  have J_82 : ∀ (x1_82 : Int32) (x2_82 : Int32) (k0_82 : Int32) (S_82 : tk_ST) (H : Heap) (locs : List Loc) (_ : va_P G vwCl (tk_M c3 q S_82) H) (_ : va_D A (tk_M c3 q S_82)) (_ : va_S A s.heap H locs) (ls : Array Slot) (_ : lv_has ls 4 [(0, .ref (q 17)), (1, .int x1_82), (2, .int x2_82)]) (_ : f_X7_knows_82 x1_82 x2_82 k0_82 S_82 = some (r0, S0)), W p l e rm_X7_knows s m ([.ref (q 17), .int p0, .int p1] : List Value).toArray below meth c H locs 0 0 Q (F0 m 82 ls [.int k0_82]) := by
    intro x1_82 x2_82 k0_82 S_82 H locs hP hD hS ls hl hf
    unfold f_X7_knows_82 at hf
    refine lv_istore_n (lv' := [(3, .int k0_82), (0, .ref (q 17)), (1, .int x1_82), (2, .int x2_82)]) hx hb dX7_knows_82 rfl hl (by decide) rfl (fun ls hl => ?_)
    refine lv_iload_n hx hb dX7_knows_83 rfl (lv_at hl 0 rfl) ?_
    refine lv_if_ne (tgt := 100) hx hb dX7_knows_84 (by decide) (fun h4 => ?_) (fun h4 => ?_)
    · have hf := tk_neg hf h4
      exact J_100 x2_82 S_82 H locs hP hD hS ls (lv_sub hl [1, 3] rfl) hf
    · have hf := tk_pos hf h4
      refine lv_iload_n hx hb dX7_knows_87 rfl (lv_at hl 3 rfl) ?_
      refine lv_aload_n hx hb dX7_knows_88 rfl (lv_at hl 1 rfl) ?_
      refine va_get (D := G) (ci := 7) (v := .int (S_82.1 8)) (C := RX7) (T := TX7) (N := 29) hx hb hts i_X7_knows_X7 hown hE.1 hP 0 rfl rfl 11 (by decide) (hts _ m_X7_knows_f31) (fun _ h9 => h9) rfl dX7_knows_89 ?_
      refine lv_icmp_eq (tgt := 100) hx hb dX7_knows_92 (by decide) (fun h5 => ?_) (fun h5 => ?_)
      · have hf := tk_pos hf h5
        exact J_100 x2_82 S_82 H locs hP hD hS ls (lv_sub hl [1, 3] rfl) hf
      · have hf := tk_neg hf h5
        refine lv_iload_n hx hb dX7_knows_95 rfl (lv_at hl 3 rfl) ?_
        refine lv_iload_n hx hb dX7_knows_96 rfl (lv_at hl 2 rfl) ?_
        refine lv_icmp_ne (tgt := 108) hx hb dX7_knows_97 (by decide) (fun h6 => ?_) (fun h6 => ?_)
        · have hf := tk_neg hf h6
          refine lv_iconst (v := -1) hx hb dX7_knows_108 (by decide) ?_
          exact tk_ri hQ (tk_s2 hf).1 (congrArg (tk_M c3 q) (tk_s2 hf).2) hx hb hr hlocks hP hD hS dX7_knows_109
        · have hf := tk_pos hf h6
          exact J_100 x2_82 S_82 H locs hP hD hS ls (lv_sub hl [1, 3] rfl) hf
  have J_77 : ∀ (x1_77 : Int32) (x2_77 : Int32) (S_77 : tk_ST) (H : Heap) (locs : List Loc) (_ : va_P G vwCl (tk_M c3 q S_77) H) (_ : va_D A (tk_M c3 q S_77)) (_ : va_S A s.heap H locs) (ls : Array Slot) (_ : lv_has ls 4 [(0, .ref (q 17)), (1, .int x1_77), (2, .int x2_77)]) (_ : f_X7_knows_77 x1_77 x2_77 S_77 = some (r0, S0)), W p l e rm_X7_knows s m ([.ref (q 17), .int p0, .int p1] : List Value).toArray below meth c H locs 0 0 Q (F0 m 77 ls []) := by
    intro x1_77 x2_77 S_77 H locs hP hD hS ls hl hf
    unfold f_X7_knows_77 at hf
    refine lv_iconst (v := 1) hx hb dX7_knows_77 (by decide) ?_
    refine lv_goto (tgt := 82) hx hb dX7_knows_78 (by decide) ?_
    exact J_82 x1_77 x2_77 (1 : Int32) S_77 H locs hP hD hS ls (lv_sub hl [0, 1, 2] rfl) hf
  have J_20 : ∀ (x1_20 : Int32) (x2_20 : Int32) (k1_20 : Int32) (S_20 : tk_ST) (H : Heap) (locs : List Loc) (_ : va_P G vwCl (tk_M c3 q S_20) H) (_ : va_D A (tk_M c3 q S_20)) (_ : va_S A s.heap H locs) (ls : Array Slot) (_ : lv_has ls 4 [(0, .ref (q 17)), (1, .int x1_20), (2, .int x2_20)]) (_ : f_X7_knows_20 x1_20 x2_20 k1_20 S_20 = some (r0, S0)), W p l e rm_X7_knows s m ([.ref (q 17), .int p0, .int p1] : List Value).toArray below meth c H locs 0 0 Q (F0 m 20 ls [.int k1_20, .ref (q 17)]) := by
    intro x1_20 x2_20 k1_20 S_20 H locs hP hD hS ls hl hf
    unfold f_X7_knows_20 at hf
    obtain ⟨r7, S9, h8, hf⟩ := tk_b2s hf
    refine tk_ci (ws' := (tk_M c3 q S9)) (va_runV (As := [.int k1_20]) (rest := []) ⟨hx, hb, hml, hown, hts⟩ (c_X7_isFine l G c3 q S_20 k1_20 r7 S9 h8 H.size) (cwV 1 hts gX7_knows_X7_isFine rfl rfl rfl hv_X7_isFine ⟨Nat.le_of_ble_eq_true rfl, Nat.le_of_ble_eq_true rfl⟩) (tk_pV hE hP hD 0 rfl rfl) rfl rfl hl.1 rfl (lv_room (Nat.le_of_ble_eq_true rfl)) dX7_knows_20 ⟨Nat.zero_le _, Nat.zero_le _⟩) hD hS hA (fun H locs hP hD hS => ?_)
    refine lv_if_ne (tgt := 28) hx hb dX7_knows_23 (by decide) (fun h10 => ?_) (fun h10 => ?_)
    · have hf := tk_neg hf h10
      refine lv_aload_n hx hb dX7_knows_28 rfl (lv_at hl 0 rfl) ?_
      refine va_get (D := G) (ci := 7) (v := .int (S9.1 8)) (C := RX7) (T := TX7) (N := 29) hx hb hts i_X7_knows_X7 hown hE.1 hP 0 rfl rfl 11 (by decide) (hts _ m_X7_knows_f31) (fun _ h9 => h9) rfl dX7_knows_29 ?_
      refine lv_iconst (v := -1) hx hb dX7_knows_32 (by decide) ?_
      refine lv_icmp_eq (tgt := 44) hx hb dX7_knows_33 (by decide) (fun h11 => ?_) (fun h11 => ?_)
      · have hf := tk_pos hf h11
        refine lv_iconst (v := -1) hx hb dX7_knows_44 (by decide) ?_
        exact tk_ri hQ (tk_s2 hf).1 (congrArg (tk_M c3 q) (tk_s2 hf).2) hx hb hr hlocks hP hD hS dX7_knows_45
      · have hf := tk_neg hf h11
        refine lv_aload_n hx hb dX7_knows_36 rfl (lv_at hl 0 rfl) ?_
        refine va_get (D := G) (ci := 7) (v := .int (S9.1 1)) (C := RX7) (T := TX7) (N := 29) hx hb hts i_X7_knows_X7 hown hE.1 hP 0 rfl rfl 1 (by decide) (hts _ m_X7_knows_f9) (fun _ h9 => h9) rfl dX7_knows_37 ?_
        refine lv_iconst (v := 2) hx hb dX7_knows_40 (by decide) ?_
        refine lv_icmp_ne (tgt := 46) hx hb dX7_knows_41 (by decide) (fun h12 => ?_) (fun h12 => ?_)
        · have hf := tk_neg hf h12
          refine lv_aload_n hx hb dX7_knows_46 rfl (lv_at hl 0 rfl) ?_
          refine va_get (D := G) (ci := 7) (v := .int (S9.1 6)) (C := RX7) (T := TX7) (N := 29) hx hb hts i_X7_knows_X7 hown hE.1 hP 0 rfl rfl 9 (by decide) (hts _ m_X7_knows_f84) (fun _ h9 => h9) rfl dX7_knows_47 ?_
          refine lv_iconst (v := 3) hx hb dX7_knows_50 (by decide) ?_
          refine lv_icmp_gt (tgt := 77) hx hb dX7_knows_51 (by decide) (fun h13 => ?_) (fun h13 => ?_)
          · have hf := tk_pos hf h13
            exact J_77 x1_20 x2_20 S9 H locs hP hD hS ls (lv_sub hl [0, 1, 2] rfl) hf
          · have hf := tk_neg hf h13
            refine lv_aload_n hx hb dX7_knows_54 rfl (lv_at hl 0 rfl) ?_
            refine va_get (D := G) (ci := 7) (v := .int (S9.1 11)) (C := RX7) (T := TX7) (N := 29) hx hb hts i_X7_knows_X7 hown hE.1 hP 0 rfl rfl 14 (by decide) (hts _ m_X7_knows_f40) (fun _ h9 => h9) rfl dX7_knows_55 ?_
            refine lv_iconst (v := -1) hx hb dX7_knows_58 (by decide) ?_
            refine lv_icmp_eq (tgt := 77) hx hb dX7_knows_59 (by decide) (fun h14 => ?_) (fun h14 => ?_)
            · have hf := tk_pos hf h14
              exact J_77 x1_20 x2_20 S9 H locs hP hD hS ls (lv_sub hl [0, 1, 2] rfl) hf
            · have hf := tk_neg hf h14
              refine lv_aload_n hx hb dX7_knows_62 rfl (lv_at hl 0 rfl) ?_
              refine va_get (D := G) (ci := 7) (v := .int (S9.1 12)) (C := RX7) (T := TX7) (N := 29) hx hb hts i_X7_knows_X7 hown hE.1 hP 0 rfl rfl 15 (by decide) (hts _ m_X7_knows_f87) (fun _ h9 => h9) rfl dX7_knows_63 ?_
              refine lv_if_ne (tgt := 77) hx hb dX7_knows_66 (by decide) (fun h15 => ?_) (fun h15 => ?_)
              · have hf := tk_neg hf h15
                exact J_77 x1_20 x2_20 S9 H locs hP hD hS ls (lv_sub hl [0, 1, 2] rfl) hf
              · have hf := tk_pos hf h15
                refine lv_iload_n hx hb dX7_knows_69 rfl (lv_at hl 1 rfl) ?_
                refine lv_aload_n hx hb dX7_knows_70 rfl (lv_at hl 0 rfl) ?_
                refine va_get (D := G) (ci := 7) (v := .int (S9.1 11)) (C := RX7) (T := TX7) (N := 29) hx hb hts i_X7_knows_X7 hown hE.1 hP 0 rfl rfl 14 (by decide) (hts _ m_X7_knows_f40) (fun _ h9 => h9) rfl dX7_knows_71 ?_
                refine lv_icmp_ne (tgt := 81) hx hb dX7_knows_74 (by decide) (fun h16 => ?_) (fun h16 => ?_)
                · have hf := tk_neg hf h16
                  refine lv_iconst (v := 0) hx hb dX7_knows_81 (by decide) ?_
                  exact J_82 x1_20 x2_20 (0 : Int32) S9 H locs hP hD hS ls (lv_sub hl [0, 1, 2] rfl) hf
                · have hf := tk_pos hf h16
                  exact J_77 x1_20 x2_20 S9 H locs hP hD hS ls (lv_sub hl [0, 1, 2] rfl) hf
        · have hf := tk_pos hf h12
          refine lv_iconst (v := -1) hx hb dX7_knows_44 (by decide) ?_
          exact tk_ri hQ (tk_s2 hf).1 (congrArg (tk_M c3 q) (tk_s2 hf).2) hx hb hr hlocks hP hD hS dX7_knows_45
    · have hf := tk_pos hf h10
      refine lv_iconst (v := 0) hx hb dX7_knows_26 (by decide) ?_
      exact tk_ri hQ (tk_s2 hf).1 (congrArg (tk_M c3 q) (tk_s2 hf).2) hx hb hr hlocks hP hD hS dX7_knows_27
  have J_19 : ∀ (x1_19 : Int32) (x2_19 : Int32) (S_19 : tk_ST) (H : Heap) (locs : List Loc) (_ : va_P G vwCl (tk_M c3 q S_19) H) (_ : va_D A (tk_M c3 q S_19)) (_ : va_S A s.heap H locs) (ls : Array Slot) (_ : lv_has ls 4 [(0, .ref (q 17)), (1, .int x1_19), (2, .int x2_19)]) (_ : f_X7_knows_19 x1_19 x2_19 S_19 = some (r0, S0)), W p l e rm_X7_knows s m ([.ref (q 17), .int p0, .int p1] : List Value).toArray below meth c H locs 0 0 Q (F0 m 19 ls [.ref (q 17)]) := by
    intro x1_19 x2_19 S_19 H locs hP hD hS ls hl hf
    unfold f_X7_knows_19 at hf
    refine lv_iconst (v := 1) hx hb dX7_knows_19 (by decide) ?_
    exact J_20 x1_19 x2_19 (1 : Int32) S_19 H locs hP hD hS ls (lv_sub hl [0, 1, 2] rfl) hf
  unfold f_X7_knows at hf
  refine lv_aload_n hx hb dX7_knows_0 rfl (lv_at hl 0 rfl) ?_
  refine lv_iload_n hx hb dX7_knows_1 rfl (lv_at hl 1 rfl) ?_
  obtain ⟨r17, h18, hf⟩ := tk_b1s hf
  refine tk_ci (ws' := (tk_M c3 q S)) (va_runS (As := [.int p0]) (rest := [.ref (q 17)]) ⟨hx, hb, hml, hown, hts⟩ (c_X7_isPlayer l G c3 (tk_M c3 q S) p0 r17 h18 H.size) (va_cwS 1 hts gX7_knows_X7_isPlayer rfl rfl rfl hs_X7_isPlayer ⟨Nat.le_of_ble_eq_true rfl, Nat.le_of_ble_eq_true rfl⟩) (tk_pS hE hP hD) rfl rfl hl.1 rfl (lv_room (Nat.le_of_ble_eq_true rfl)) dX7_knows_2 ⟨Nat.zero_le _, Nat.zero_le _⟩) hD hS hA (fun H locs hP hD hS => ?_)
  refine lv_if_eq (tgt := 19) hx hb dX7_knows_5 (by decide) (fun h20 => ?_) (fun h20 => ?_)
  · have hf := tk_pos hf h20
    exact J_19 p0 p1 S H locs hP hD hS ls (lv_sub hl [0, 1, 2] rfl) hf
  · have hf := tk_neg hf h20
    refine lv_iload_n hx hb dX7_knows_8 rfl (lv_at hl 2 rfl) ?_
    obtain ⟨r21, h22, hf⟩ := tk_b1s hf
    refine tk_ci (ws' := (tk_M c3 q S)) (va_runS (As := [.int p1]) (rest := [.ref (q 17)]) ⟨hx, hb, hml, hown, hts⟩ (c_X7_isPlayer l G c3 (tk_M c3 q S) p1 r21 h22 H.size) (va_cwS 1 hts gX7_knows_X7_isPlayer rfl rfl rfl hs_X7_isPlayer ⟨Nat.le_of_ble_eq_true rfl, Nat.le_of_ble_eq_true rfl⟩) (tk_pS hE hP hD) rfl rfl hl.1 rfl (lv_room (Nat.le_of_ble_eq_true rfl)) dX7_knows_9 ⟨Nat.zero_le _, Nat.zero_le _⟩) hD hS hA (fun H locs hP hD hS => ?_)
    refine lv_if_eq (tgt := 19) hx hb dX7_knows_12 (by decide) (fun h24 => ?_) (fun h24 => ?_)
    · have hf := tk_pos hf h24
      exact J_19 p0 p1 S H locs hP hD hS ls (lv_sub hl [0, 1, 2] rfl) hf
    · have hf := tk_neg hf h24
      refine lv_iconst (v := 0) hx hb dX7_knows_15 (by decide) ?_
      refine lv_goto (tgt := 20) hx hb dX7_knows_16 (by decide) ?_
      exact J_20 p0 p1 (0 : Int32) S H locs hP hD hS ls (lv_sub hl [0, 1, 2] rfl) hf
