abbrev rm_X6_behind : Room := { frames := 0, cells := 0, slots := 0, locals := 0 }
set_option maxHeartbeats 4000000 in
set_option maxRecDepth 100000 in
theorem c_X6_behind (l : Launch) (G : va_G) (c3 : ClassId × ClassId × ClassId) (ws : va_W) (p0 : Int32) (r0 : Int32) (hf : f_X6_behind p0 = some r0) : tk_Mi l yX6_behind wsX6_behind rm_X6_behind G c3 [.int p0] ws ws r0 := by
  refine tk_ofi (cc := cX6_behind) (maxL := 1) (ret := some .int) (by decide) rfl (Nat.le_of_ble_eq_true rfl) ?_
  intro p e s m below meth c A Q ls H locs hx hb hml hr hts hown hlocks hE hA hP hD hS hZ hQ hl
  have hl : lv_has ls 1 [(0, .int p0)] := hl
  have hown : s.vm.findClass RX6 = some m.cls := hown
  unfold f_X6_behind at hf
  refine lv_iload_n hx hb dX6_behind_0 rfl (lv_at hl 0 rfl) ?_
  refine lv_iconst (v := 1) hx hb dX6_behind_1 (by decide) ?_
  refine lv_iadd hx hb dX6_behind_2 ?_
  refine lv_iconst (v := 4) hx hb dX6_behind_3 (by decide) ?_
  refine tk_irem hx hb dX6_behind_4 (by decide) ?_
  exact tk_ri hQ (tk_s1 hf) rfl hx hb hr hlocks hP hD hS dX6_behind_5
abbrev rm_X0_clear : Room := { frames := 0, cells := 0, slots := 0, locals := 0 }
set_option maxHeartbeats 4000000 in
set_option maxRecDepth 100000 in
theorem c_X0_clear (l : Launch) (G : va_G) (c3 : ClassId × ClassId × ClassId) (q : Nat → Nat) (S : tk_ST) (S0 : tk_ST) (hf : f_X0_clear S = some S0) : tk_Mv l yX0_clear wsX0_clear rm_X0_clear G c3 [.ref (q 4)] (tk_H c3 q S) (tk_H c3 q S0) := by
  refine tk_ofv (cc := cX0_clear) (maxL := 1) (ret := none) (by decide) rfl (Nat.le_of_ble_eq_true rfl) ?_
  intro p e s m below meth c A Q ls H locs hx hb hml hr hts hown hlocks hE hA hP hD hS hZ hQ hl
  have hl : lv_has ls 1 [(0, .ref (q 4))] := hl
  have hown : s.vm.findClass RX0 = some m.cls := hown
  unfold f_X0_clear at hf
  refine lv_aload_n hx hb dX0_clear_0 rfl (lv_at hl 0 rfl) ?_
  refine lv_iconst (v := 0) hx hb dX0_clear_1 (by decide) ?_
  refine va_put (D := G) (ci := 0) (v := .int (0 : Int32)) (ty := .int) (C := RX0) (T := TX0) (N := 3) hx hb hts i_X0_clear_X0 tyX0 tyX0_ok nmX0 hown hE.1 hP hD hS 4 rfl rfl 0 (by decide) (hts _ m_X0_clear_f15) (fun _ h9 => h9) rfl (by decide +kernel) rfl rfl (Nat.le_of_ble_eq_true rfl) dX0_clear_2 (fun H locs hP hD hS => ?_)
  have hP : va_P G vwCl (tk_H c3 q (tk_I S 10 (0 : Int32))) H := hP
  have hD : va_D A (tk_H c3 q (tk_I S 10 (0 : Int32))) := hD
  refine lv_aload_n hx hb dX0_clear_5 rfl (lv_at hl 0 rfl) ?_
  refine lv_iconst (v := 0) hx hb dX0_clear_6 (by decide) ?_
  refine va_put (D := G) (ci := 0) (v := .int (0 : Int32)) (ty := .int) (C := RX0) (T := TX0) (N := 3) hx hb hts i_X0_clear_X0 tyX0 tyX0_ok nmX0 hown hE.1 hP hD hS 4 rfl rfl 1 (by decide) (hts _ m_X0_clear_f18) (fun _ h9 => h9) rfl (by decide +kernel) rfl rfl (Nat.le_of_ble_eq_true rfl) dX0_clear_7 (fun H locs hP hD hS => ?_)
  have hP : va_P G vwCl (tk_H c3 q (tk_I (tk_I S 10 (0 : Int32)) 11 (0 : Int32))) H := hP
  have hD : va_D A (tk_H c3 q (tk_I (tk_I S 10 (0 : Int32)) 11 (0 : Int32))) := hD
  refine lv_aload_n hx hb dX0_clear_10 rfl (lv_at hl 0 rfl) ?_
  refine lv_iconst (v := -1) hx hb dX0_clear_11 (by decide) ?_
  refine va_put (D := G) (ci := 0) (v := .int (-1 : Int32)) (ty := .int) (C := RX0) (T := TX0) (N := 3) hx hb hts i_X0_clear_X0 tyX0 tyX0_ok nmX0 hown hE.1 hP hD hS 4 rfl rfl 2 (by decide) (hts _ m_X0_clear_f9) (fun _ h9 => h9) rfl (by decide +kernel) rfl rfl (Nat.le_of_ble_eq_true rfl) dX0_clear_12 (fun H locs hP hD hS => ?_)
  have hP : va_P G vwCl (tk_H c3 q (tk_I (tk_I (tk_I S 10 (0 : Int32)) 11 (0 : Int32)) 12 (-1 : Int32))) H := hP
  have hD : va_D A (tk_H c3 q (tk_I (tk_I (tk_I S 10 (0 : Int32)) 11 (0 : Int32)) 12 (-1 : Int32))) := hD
  exact tk_rv hQ (congrArg (tk_H c3 q) (tk_s1 hf)) hx hb hr hlocks hP hD hS dX0_clear_15
abbrev rm_X5_begin : Room := { frames := 0, cells := 0, slots := 0, locals := 0 }
set_option maxHeartbeats 4000000 in
set_option maxRecDepth 100000 in
theorem c_X5_begin (l : Launch) (G : va_G) (c3 : ClassId × ClassId × ClassId) (q : Nat → Nat) (S : tk_ST) (p0 : Int32) (S0 : tk_ST) (hf : f_X5_begin p0 S = some S0) : tk_Mv l yX5_begin wsX5_begin rm_X5_begin G c3 [.ref (q 5), .int p0] (tk_H c3 q S) (tk_H c3 q S0) := by
  refine tk_ofv (cc := cX5_begin) (maxL := 2) (ret := none) (by decide) rfl (Nat.le_of_ble_eq_true rfl) ?_
  intro p e s m below meth c A Q ls H locs hx hb hml hr hts hown hlocks hE hA hP hD hS hZ hQ hl
  have hl : lv_has ls 2 [(0, .ref (q 5)), (1, .int p0)] := hl
  have hown : s.vm.findClass RX5 = some m.cls := hown
  unfold f_X5_begin at hf
  refine lv_aload_n hx hb dX5_begin_0 rfl (lv_at hl 0 rfl) ?_
  refine lv_iload_n hx hb dX5_begin_1 rfl (lv_at hl 1 rfl) ?_
  refine va_put (D := G) (ci := 5) (v := .int p0) (ty := .int) (C := RX5) (T := TX5) (N := 3) hx hb hts i_X5_begin_X5 tyX5 tyX5_ok nmX5 hown hE.1 hP hD hS 5 rfl rfl 1 (by decide) (hts _ m_X5_begin_f20) (fun _ h9 => h9) rfl (by decide +kernel) rfl rfl (Nat.le_of_ble_eq_true rfl) dX5_begin_2 (fun H locs hP hD hS => ?_)
  have hP : va_P G vwCl (tk_H c3 q (tk_I S 13 p0)) H := hP
  have hD : va_D A (tk_H c3 q (tk_I S 13 p0)) := hD
  refine lv_aload_n hx hb dX5_begin_5 rfl (lv_at hl 0 rfl) ?_
  refine lv_iconst (v := 0) hx hb dX5_begin_6 (by decide) ?_
  refine va_put (D := G) (ci := 5) (v := .int (0 : Int32)) (ty := .int) (C := RX5) (T := TX5) (N := 3) hx hb hts i_X5_begin_X5 tyX5 tyX5_ok nmX5 hown hE.1 hP hD hS 5 rfl rfl 2 (by decide) (hts _ m_X5_begin_f24) (fun _ h9 => h9) rfl (by decide +kernel) rfl rfl (Nat.le_of_ble_eq_true rfl) dX5_begin_7 (fun H locs hP hD hS => ?_)
  have hP : va_P G vwCl (tk_H c3 q (tk_I (tk_I S 13 p0) 14 (0 : Int32))) H := hP
  have hD : va_D A (tk_H c3 q (tk_I (tk_I S 13 p0) 14 (0 : Int32))) := hD
  exact tk_rv hQ (congrArg (tk_H c3 q) (tk_s1 hf)) hx hb hr hlocks hP hD hS dX5_begin_10
abbrev rm_X3_put : Room := { frames := 0, cells := 0, slots := 0, locals := 0 }
set_option maxHeartbeats 4000000 in
set_option maxRecDepth 100000 in
theorem c_X3_put_p15 (l : Launch) (G : va_G) (c3 : ClassId × ClassId × ClassId) (q : Nat → Nat) (S : tk_ST) (p0 : Int32) (p1 : Int64) (S0 : tk_ST) (hf : f_X3_put_p15 p0 p1 S = some S0) : tk_Mv l yX3_put wsX3_put rm_X3_put G c3 [.ref (q 15), .int p0, .long p1] (tk_H c3 q S) (tk_H c3 q S0) := by
  refine tk_ofv (cc := cX3_put) (maxL := 4) (ret := none) (by decide) rfl (Nat.le_of_ble_eq_true rfl) ?_
  intro p e s m below meth c A Q ls H locs hx hb hml hr hts hown hlocks hE hA hP hD hS hZ hQ hl
  have hl : lv_has ls 4 [(0, .ref (q 15)), (1, .int p0), (2, .long p1)] := hl
  have hown : s.vm.findClass RX3 = some m.cls := hown
  unfold f_X3_put_p15 at hf
  refine lv_iload_n hx hb dX3_put_0 rfl (lv_at hl 1 rfl) ?_
  refine lv_if_lt (tgt := 20) hx hb dX3_put_1 (by decide) (fun h1 => ?_) (fun h1 => ?_)
  · have hf := tk_pos hf h1
    exact tk_rv hQ (congrArg (tk_H c3 q) (tk_s1 hf)) hx hb hr hlocks hP hD hS dX3_put_20
  · have hf := tk_neg hf h1
    refine lv_iload_n hx hb dX3_put_4 rfl (lv_at hl 1 rfl) ?_
    refine lv_aload_n hx hb dX3_put_5 rfl (lv_at hl 0 rfl) ?_
    refine va_get (D := G) (ci := 3) (v := .ref (q 16)) (C := RX3) (T := TX3) (N := 1) hx hb hts i_X3_put_X3 hown hE.1 hP 15 rfl rfl 0 (by decide) (hts _ m_X3_put_f13) (fun _ h9 => h9) rfl dX3_put_6 ?_
    refine va_alen (v := 2) hx hb hE.1 hP 16 1 rfl rfl rfl dX3_put_9 ?_
    refine lv_icmp_ge (tgt := 20) hx hb dX3_put_10 (by decide) (fun h2 => ?_) (fun h2 => ?_)
    · have hf := tk_pos hf h2
      exact tk_rv hQ (congrArg (tk_H c3 q) (tk_s1 hf)) hx hb hr hlocks hP hD hS dX3_put_20
    · have hf := tk_neg hf h2
      refine lv_aload_n hx hb dX3_put_13 rfl (lv_at hl 0 rfl) ?_
      refine va_get (D := G) (ci := 3) (v := .ref (q 16)) (C := RX3) (T := TX3) (N := 1) hx hb hts i_X3_put_X3 hown hE.1 hP 15 rfl rfl 0 (by decide) (hts _ m_X3_put_f13) (fun _ h9 => h9) rfl dX3_put_14 ?_
      refine lv_iload_n hx hb dX3_put_17 rfl (lv_at hl 1 rfl) ?_
      refine lv_lload_n hx hb dX3_put_18 rfl (lv_at hl 2 rfl) ?_
      obtain ⟨h3, hf⟩ := tk_ok hf
      refine va_last (f := (S.2.2.2 1)) hx hb hE.1 hP hD hS 16 1 rfl rfl h3 dX3_put_19 (fun H locs hP hD hS => ?_)
      have hP : va_P G vwCl (tk_H c3 q (tk_B S 1 (vp_updL (S.2.2.2 1) p0.toNatClampNeg p1))) H := hP
      have hD : va_D A (tk_H c3 q (tk_B S 1 (vp_updL (S.2.2.2 1) p0.toNatClampNeg p1))) := hD
      obtain ⟨S4, eS4⟩ : ∃ z : tk_ST, z = (tk_B S 1 (vp_updL (S.2.2.2 1) p0.toNatClampNeg p1)) := ⟨_, rfl⟩
      rw [← eS4] at hP hD
      have hf := tk_nm hf eS4
      exact tk_rv hQ (congrArg (tk_H c3 q) (tk_s1 hf)) hx hb hr hlocks hP hD hS dX3_put_20
abbrev rm_X6_clearDeal : Room := { frames := 1, cells := 0, slots := 0, locals := 23 }
set_option maxHeartbeats 4000000 in
set_option maxRecDepth 100000 in
theorem c_X6_clearDeal (l : Launch) (G : va_G) (c3 : ClassId × ClassId × ClassId) (q : Nat → Nat) (S : tk_ST) (S0 : tk_ST) (hf : f_X6_clearDeal S = some S0) : tk_Mv l yX6_clearDeal wsX6_clearDeal rm_X6_clearDeal G c3 [.ref (q 0)] (tk_H c3 q S) (tk_H c3 q S0) := by
  refine tk_ofv (cc := cX6_clearDeal) (maxL := 1) (ret := none) (by decide) rfl (Nat.le_of_ble_eq_true rfl) ?_
  intro p e s m below meth c A Q ls H locs hx hb hml hr hts hown hlocks hE hA hP hD hS hZ hQ hl
  have hl : lv_has ls 1 [(0, .ref (q 0))] := hl
  have hown : s.vm.findClass RX6 = some m.cls := hown
  unfold f_X6_clearDeal at hf
  refine lv_aload_n hx hb dX6_clearDeal_0 rfl (lv_at hl 0 rfl) ?_
  refine va_get (D := G) (ci := 6) (v := .ref (q 4)) (C := RX6) (T := TX6) (N := 18) hx hb hts i_X6_clearDeal_X6 hown hE.1 hP 0 rfl rfl 1 (by decide) (hts _ m_X6_clearDeal_f19) (fun _ h9 => h9) rfl dX6_clearDeal_1 ?_
  obtain ⟨S3, h2, hf⟩ := tk_b1s hf
  refine tk_cv (ws' := (tk_H c3 q S3)) (va_runV (As := []) (rest := []) ⟨hx, hb, hml, hown, hts⟩ (c_X0_clear l G c3 q S S3 h2 H.size) (cwV 0 hts gX6_clearDeal_X0_clear rfl rfl rfl hv_X0_clear ⟨Nat.le_of_ble_eq_true rfl, Nat.le_of_ble_eq_true rfl⟩) (tk_pV hE hP hD 4 rfl rfl) rfl rfl hl.1 rfl (lv_room (Nat.le_of_ble_eq_true rfl)) dX6_clearDeal_4 ⟨Nat.zero_le _, Nat.zero_le _⟩) hD hS hA (fun H locs hP hD hS => ?_)
  refine lv_aload_n hx hb dX6_clearDeal_7 rfl (lv_at hl 0 rfl) ?_
  refine va_get (D := G) (ci := 6) (v := .ref (q 5)) (C := RX6) (T := TX6) (N := 18) hx hb hts i_X6_clearDeal_X6 hown hE.1 hP 0 rfl rfl 2 (by decide) (hts _ m_X6_clearDeal_f26) (fun _ h9 => h9) rfl dX6_clearDeal_8 ?_
  refine lv_aload_n hx hb dX6_clearDeal_11 rfl (lv_at hl 0 rfl) ?_
  refine va_get (D := G) (ci := 6) (v := .int (S3.1 0)) (C := RX6) (T := TX6) (N := 18) hx hb hts i_X6_clearDeal_X6 hown hE.1 hP 0 rfl rfl 6 (by decide) (hts _ m_X6_clearDeal_f49) (fun _ h9 => h9) rfl dX6_clearDeal_12 ?_
  obtain ⟨S6, h5, hf⟩ := tk_b1s hf
  refine tk_cv (ws' := (tk_H c3 q S6)) (va_runV (As := [.int (S3.1 0)]) (rest := []) ⟨hx, hb, hml, hown, hts⟩ (c_X5_begin l G c3 q S3 (S3.1 0) S6 h5 H.size) (cwV 1 hts gX6_clearDeal_X5_begin rfl rfl rfl hv_X5_begin ⟨Nat.le_of_ble_eq_true rfl, Nat.le_of_ble_eq_true rfl⟩) (tk_pV hE hP hD 5 rfl rfl) rfl rfl hl.1 rfl (lv_room (Nat.le_of_ble_eq_true rfl)) dX6_clearDeal_15 ⟨Nat.zero_le _, Nat.zero_le _⟩) hD hS hA (fun H locs hP hD hS => ?_)
  refine lv_aload_n hx hb dX6_clearDeal_18 rfl (lv_at hl 0 rfl) ?_
  refine lv_iconst (v := -1) hx hb dX6_clearDeal_19 (by decide) ?_
  refine va_put (D := G) (ci := 6) (v := .int (-1 : Int32)) (ty := .int) (C := RX6) (T := TX6) (N := 18) hx hb hts i_X6_clearDeal_X6 tyX6 tyX6_ok nmX6 hown hE.1 hP hD hS 0 rfl rfl 9 (by decide) (hts _ m_X6_clearDeal_f59) (fun _ h9 => h9) rfl (by decide +kernel) rfl rfl (Nat.le_of_ble_eq_true rfl) dX6_clearDeal_20 (fun H locs hP hD hS => ?_)
  have hP : va_P G vwCl (tk_H c3 q (tk_I S6 3 (-1 : Int32))) H := hP
  have hD : va_D A (tk_H c3 q (tk_I S6 3 (-1 : Int32))) := hD
  refine lv_aload_n hx hb dX6_clearDeal_23 rfl (lv_at hl 0 rfl) ?_
  refine lv_iconst (v := -1) hx hb dX6_clearDeal_24 (by decide) ?_
  refine va_put (D := G) (ci := 6) (v := .int (-1 : Int32)) (ty := .int) (C := RX6) (T := TX6) (N := 18) hx hb hts i_X6_clearDeal_X6 tyX6 tyX6_ok nmX6 hown hE.1 hP hD hS 0 rfl rfl 10 (by decide) (hts _ m_X6_clearDeal_f62) (fun _ h9 => h9) rfl (by decide +kernel) rfl rfl (Nat.le_of_ble_eq_true rfl) dX6_clearDeal_25 (fun H locs hP hD hS => ?_)
  have hP : va_P G vwCl (tk_H c3 q (tk_I (tk_I S6 3 (-1 : Int32)) 4 (-1 : Int32))) H := hP
  have hD : va_D A (tk_H c3 q (tk_I (tk_I S6 3 (-1 : Int32)) 4 (-1 : Int32))) := hD
  refine lv_aload_n hx hb dX6_clearDeal_28 rfl (lv_at hl 0 rfl) ?_
  refine lv_iconst (v := -1) hx hb dX6_clearDeal_29 (by decide) ?_
  refine va_put (D := G) (ci := 6) (v := .int (-1 : Int32)) (ty := .int) (C := RX6) (T := TX6) (N := 18) hx hb hts i_X6_clearDeal_X6 tyX6 tyX6_ok nmX6 hown hE.1 hP hD hS 0 rfl rfl 11 (by decide) (hts _ m_X6_clearDeal_f65) (fun _ h9 => h9) rfl (by decide +kernel) rfl rfl (Nat.le_of_ble_eq_true rfl) dX6_clearDeal_30 (fun H locs hP hD hS => ?_)
  have hP : va_P G vwCl (tk_H c3 q (tk_I (tk_I (tk_I S6 3 (-1 : Int32)) 4 (-1 : Int32)) 5 (-1 : Int32))) H := hP
  have hD : va_D A (tk_H c3 q (tk_I (tk_I (tk_I S6 3 (-1 : Int32)) 4 (-1 : Int32)) 5 (-1 : Int32))) := hD
  refine lv_aload_n hx hb dX6_clearDeal_33 rfl (lv_at hl 0 rfl) ?_
  refine lv_iconst (v := -1) hx hb dX6_clearDeal_34 (by decide) ?_
  refine va_put (D := G) (ci := 6) (v := .int (-1 : Int32)) (ty := .int) (C := RX6) (T := TX6) (N := 18) hx hb hts i_X6_clearDeal_X6 tyX6 tyX6_ok nmX6 hown hE.1 hP hD hS 0 rfl rfl 12 (by decide) (hts _ m_X6_clearDeal_f68) (fun _ h9 => h9) rfl (by decide +kernel) rfl rfl (Nat.le_of_ble_eq_true rfl) dX6_clearDeal_35 (fun H locs hP hD hS => ?_)
  have hP : va_P G vwCl (tk_H c3 q (tk_I (tk_I (tk_I (tk_I S6 3 (-1 : Int32)) 4 (-1 : Int32)) 5 (-1 : Int32)) 6 (-1 : Int32))) H := hP
  have hD : va_D A (tk_H c3 q (tk_I (tk_I (tk_I (tk_I S6 3 (-1 : Int32)) 4 (-1 : Int32)) 5 (-1 : Int32)) 6 (-1 : Int32))) := hD
  refine lv_aload_n hx hb dX6_clearDeal_38 rfl (lv_at hl 0 rfl) ?_
  refine lv_iconst (v := 0) hx hb dX6_clearDeal_39 (by decide) ?_
  refine va_put (D := G) (ci := 6) (v := .int (0 : Int32)) (ty := .int) (C := RX6) (T := TX6) (N := 18) hx hb hts i_X6_clearDeal_X6 tyX6 tyX6_ok nmX6 hown hE.1 hP hD hS 0 rfl rfl 13 (by decide) (hts _ m_X6_clearDeal_f168) (fun _ h9 => h9) rfl (by decide +kernel) rfl rfl (Nat.le_of_ble_eq_true rfl) dX6_clearDeal_40 (fun H locs hP hD hS => ?_)
  have hP : va_P G vwCl (tk_H c3 q (tk_I (tk_I (tk_I (tk_I (tk_I S6 3 (-1 : Int32)) 4 (-1 : Int32)) 5 (-1 : Int32)) 6 (-1 : Int32)) 7 (0 : Int32))) H := hP
  have hD : va_D A (tk_H c3 q (tk_I (tk_I (tk_I (tk_I (tk_I S6 3 (-1 : Int32)) 4 (-1 : Int32)) 5 (-1 : Int32)) 6 (-1 : Int32)) 7 (0 : Int32))) := hD
  obtain ⟨S7, eS7⟩ : ∃ z : tk_ST, z = (tk_I (tk_I (tk_I (tk_I (tk_I S6 3 (-1 : Int32)) 4 (-1 : Int32)) 5 (-1 : Int32)) 6 (-1 : Int32)) 7 (0 : Int32)) := ⟨_, rfl⟩
  rw [← eS7] at hP hD
  have hf := tk_nm hf eS7
  refine lv_aload_n hx hb dX6_clearDeal_43 rfl (lv_at hl 0 rfl) ?_
  refine lv_lconst (v := 0) hx hb dX6_clearDeal_44 (by decide) ?_
  refine va_put (D := G) (ci := 6) (v := .long (0 : Int64)) (ty := .long) (C := RX6) (T := TX6) (N := 18) hx hb hts i_X6_clearDeal_X6 tyX6 tyX6_ok nmX6 hown hE.1 hP hD hS 0 rfl rfl 14 (by decide) (hts _ m_X6_clearDeal_f191) (fun _ h9 => h9) rfl (by decide +kernel) rfl rfl (Nat.le_of_ble_eq_true rfl) dX6_clearDeal_45 (fun H locs hP hD hS => ?_)
  have hP : va_P G vwCl (tk_H c3 q (tk_L S7 0 (0 : Int64))) H := hP
  have hD : va_D A (tk_H c3 q (tk_L S7 0 (0 : Int64))) := hD
  refine lv_aload_n hx hb dX6_clearDeal_48 rfl (lv_at hl 0 rfl) ?_
  refine lv_iconst (v := 0) hx hb dX6_clearDeal_49 (by decide) ?_
  refine va_put (D := G) (ci := 6) (v := .int (0 : Int32)) (ty := .int) (C := RX6) (T := TX6) (N := 18) hx hb hts i_X6_clearDeal_X6 tyX6 tyX6_ok nmX6 hown hE.1 hP hD hS 0 rfl rfl 16 (by decide) (hts _ m_X6_clearDeal_f214) (fun _ h9 => h9) rfl (by decide +kernel) rfl rfl (Nat.le_of_ble_eq_true rfl) dX6_clearDeal_50 (fun H locs hP hD hS => ?_)
  have hP : va_P G vwCl (tk_H c3 q (tk_I (tk_L S7 0 (0 : Int64)) 8 (0 : Int32))) H := hP
  have hD : va_D A (tk_H c3 q (tk_I (tk_L S7 0 (0 : Int64)) 8 (0 : Int32))) := hD
  refine lv_aload_n hx hb dX6_clearDeal_53 rfl (lv_at hl 0 rfl) ?_
  refine lv_iconst (v := 0) hx hb dX6_clearDeal_54 (by decide) ?_
  refine va_put (D := G) (ci := 6) (v := .int (0 : Int32)) (ty := .int) (C := RX6) (T := TX6) (N := 18) hx hb hts i_X6_clearDeal_X6 tyX6 tyX6_ok nmX6 hown hE.1 hP hD hS 0 rfl rfl 17 (by decide) (hts _ m_X6_clearDeal_f199) (fun _ h9 => h9) rfl (by decide +kernel) rfl rfl (Nat.le_of_ble_eq_true rfl) dX6_clearDeal_55 (fun H locs hP hD hS => ?_)
  have hP : va_P G vwCl (tk_H c3 q (tk_I (tk_I (tk_L S7 0 (0 : Int64)) 8 (0 : Int32)) 9 (0 : Int32))) H := hP
  have hD : va_D A (tk_H c3 q (tk_I (tk_I (tk_L S7 0 (0 : Int64)) 8 (0 : Int32)) 9 (0 : Int32))) := hD
  refine lv_aload_n hx hb dX6_clearDeal_58 rfl (lv_at hl 0 rfl) ?_
  refine va_get (D := G) (ci := 6) (v := .ref (q 15)) (C := RX6) (T := TX6) (N := 18) hx hb hts i_X6_clearDeal_X6 hown hE.1 hP 0 rfl rfl 5 (by decide) (hts _ m_X6_clearDeal_f46) (fun _ h9 => h9) rfl dX6_clearDeal_59 ?_
  refine lv_iconst (v := 0) hx hb dX6_clearDeal_62 (by decide) ?_
  refine lv_lconst (v := 0) hx hb dX6_clearDeal_63 (by decide) ?_
  obtain ⟨S10, h9, hf⟩ := tk_b1s hf
  refine tk_cv (ws' := (tk_H c3 q S10)) (va_runV (As := [.int (0 : Int32), .long (0 : Int64)]) (rest := []) ⟨hx, hb, hml, hown, hts⟩ (c_X3_put_p15 l G c3 q (tk_I (tk_I (tk_L S7 0 (0 : Int64)) 8 (0 : Int32)) 9 (0 : Int32)) (0 : Int32) (0 : Int64) S10 h9 H.size) (cwV 2 hts gX6_clearDeal_X3_put rfl rfl rfl hv_X3_put ⟨Nat.le_of_ble_eq_true rfl, Nat.le_of_ble_eq_true rfl⟩) (tk_pV hE hP hD 15 rfl rfl) rfl rfl hl.1 rfl (lv_room (Nat.le_of_ble_eq_true rfl)) dX6_clearDeal_64 ⟨Nat.zero_le _, Nat.zero_le _⟩) hD hS hA (fun H locs hP hD hS => ?_)
  refine lv_aload_n hx hb dX6_clearDeal_67 rfl (lv_at hl 0 rfl) ?_
  refine va_get (D := G) (ci := 6) (v := .ref (q 15)) (C := RX6) (T := TX6) (N := 18) hx hb hts i_X6_clearDeal_X6 hown hE.1 hP 0 rfl rfl 5 (by decide) (hts _ m_X6_clearDeal_f46) (fun _ h9 => h9) rfl dX6_clearDeal_68 ?_
  refine lv_iconst (v := 1) hx hb dX6_clearDeal_71 (by decide) ?_
  refine lv_lconst (v := 0) hx hb dX6_clearDeal_72 (by decide) ?_
  obtain ⟨S13, h12, hf⟩ := tk_b1s hf
  refine tk_cv (ws' := (tk_H c3 q S13)) (va_runV (As := [.int (1 : Int32), .long (0 : Int64)]) (rest := []) ⟨hx, hb, hml, hown, hts⟩ (c_X3_put_p15 l G c3 q S10 (1 : Int32) (0 : Int64) S13 h12 H.size) (cwV 2 hts gX6_clearDeal_X3_put rfl rfl rfl hv_X3_put ⟨Nat.le_of_ble_eq_true rfl, Nat.le_of_ble_eq_true rfl⟩) (tk_pV hE hP hD 15 rfl rfl) rfl rfl hl.1 rfl (lv_room (Nat.le_of_ble_eq_true rfl)) dX6_clearDeal_73 ⟨Nat.zero_le _, Nat.zero_le _⟩) hD hS hA (fun H locs hP hD hS => ?_)
  exact tk_rv hQ (congrArg (tk_H c3 q) (tk_s1 hf)) hx hb hr hlocks hP hD hS dX6_clearDeal_76
abbrev rm_X2_put : Room := { frames := 0, cells := 0, slots := 0, locals := 0 }
set_option maxHeartbeats 4000000 in
set_option maxRecDepth 100000 in
theorem c_X2_put_p2 (l : Launch) (G : va_G) (c3 : ClassId × ClassId × ClassId) (q : Nat → Nat) (S : tk_ST) (p0 : Int32) (p1 : Int32) (S0 : tk_ST) (hf : f_X2_put_p2 p0 p1 S = some S0) : tk_Mv l yX2_put wsX2_put rm_X2_put G c3 [.ref (q 2), .int p0, .int p1] (tk_H c3 q S) (tk_H c3 q S0) := by
  refine tk_ofv (cc := cX2_put) (maxL := 3) (ret := none) (by decide) rfl (Nat.le_of_ble_eq_true rfl) ?_
  intro p e s m below meth c A Q ls H locs hx hb hml hr hts hown hlocks hE hA hP hD hS hZ hQ hl
  have hl : lv_has ls 3 [(0, .ref (q 2)), (1, .int p0), (2, .int p1)] := hl
  have hown : s.vm.findClass RX2 = some m.cls := hown
  unfold f_X2_put_p2 at hf
  refine lv_iload_n hx hb dX2_put_0 rfl (lv_at hl 1 rfl) ?_
  refine lv_if_lt (tgt := 20) hx hb dX2_put_1 (by decide) (fun h1 => ?_) (fun h1 => ?_)
  · have hf := tk_pos hf h1
    exact tk_rv hQ (congrArg (tk_H c3 q) (tk_s1 hf)) hx hb hr hlocks hP hD hS dX2_put_20
  · have hf := tk_neg hf h1
    refine lv_iload_n hx hb dX2_put_4 rfl (lv_at hl 1 rfl) ?_
    refine lv_aload_n hx hb dX2_put_5 rfl (lv_at hl 0 rfl) ?_
    refine va_get (D := G) (ci := 2) (v := .ref (q 3)) (C := RX2) (T := TX2) (N := 1) hx hb hts i_X2_put_X2 hown hE.1 hP 2 rfl rfl 0 (by decide) (hts _ m_X2_put_f15) (fun _ h9 => h9) rfl dX2_put_6 ?_
    refine va_alen (v := 54) hx hb hE.1 hP 3 0 rfl rfl rfl dX2_put_9 ?_
    refine lv_icmp_ge (tgt := 20) hx hb dX2_put_10 (by decide) (fun h2 => ?_) (fun h2 => ?_)
    · have hf := tk_pos hf h2
      exact tk_rv hQ (congrArg (tk_H c3 q) (tk_s1 hf)) hx hb hr hlocks hP hD hS dX2_put_20
    · have hf := tk_neg hf h2
      refine lv_aload_n hx hb dX2_put_13 rfl (lv_at hl 0 rfl) ?_
      refine va_get (D := G) (ci := 2) (v := .ref (q 3)) (C := RX2) (T := TX2) (N := 1) hx hb hts i_X2_put_X2 hown hE.1 hP 2 rfl rfl 0 (by decide) (hts _ m_X2_put_f15) (fun _ h9 => h9) rfl dX2_put_14 ?_
      refine lv_iload_n hx hb dX2_put_17 rfl (lv_at hl 1 rfl) ?_
      refine lv_iload_n hx hb dX2_put_18 rfl (lv_at hl 2 rfl) ?_
      obtain ⟨h3, hf⟩ := tk_ok hf
      refine va_iast (f := (S.2.2.1 0)) hx hb hE.1 hP hD hS 3 0 rfl rfl h3 dX2_put_19 (fun H locs hP hD hS => ?_)
      have hP : va_P G vwCl (tk_H c3 q (tk_A S 0 (upd (S.2.2.1 0) p0.toNatClampNeg p1))) H := hP
      have hD : va_D A (tk_H c3 q (tk_A S 0 (upd (S.2.2.1 0) p0.toNatClampNeg p1))) := hD
      obtain ⟨S4, eS4⟩ : ∃ z : tk_ST, z = (tk_A S 0 (upd (S.2.2.1 0) p0.toNatClampNeg p1)) := ⟨_, rfl⟩
      rw [← eS4] at hP hD
      have hf := tk_nm hf eS4
      exact tk_rv hQ (congrArg (tk_H c3 q) (tk_s1 hf)) hx hb hr hlocks hP hD hS dX2_put_20
abbrev rm_X2_at : Room := { frames := 0, cells := 0, slots := 0, locals := 0 }
set_option maxHeartbeats 4000000 in
set_option maxRecDepth 100000 in
theorem c_X2_at_p2 (l : Launch) (G : va_G) (c3 : ClassId × ClassId × ClassId) (q : Nat → Nat) (S : tk_ST) (p0 : Int32) (r0 : Int32) (hf : f_X2_at_p2 p0 S = some r0) : tk_Mi l yX2_at wsX2_at rm_X2_at G c3 [.ref (q 2), .int p0] (tk_H c3 q S) (tk_H c3 q S) r0 := by
  refine tk_ofi (cc := cX2_at) (maxL := 2) (ret := some .int) (by decide) rfl (Nat.le_of_ble_eq_true rfl) ?_
  intro p e s m below meth c A Q ls H locs hx hb hml hr hts hown hlocks hE hA hP hD hS hZ hQ hl
  have hl : lv_has ls 2 [(0, .ref (q 2)), (1, .int p0)] := hl
  have hown : s.vm.findClass RX2 = some m.cls := hown
  unfold f_X2_at_p2 at hf
  refine lv_iload_n hx hb dX2_at_0 rfl (lv_at hl 1 rfl) ?_
  refine lv_if_lt (tgt := 22) hx hb dX2_at_1 (by decide) (fun h1 => ?_) (fun h1 => ?_)
  · have hf := tk_pos hf h1
    refine lv_iconst (v := -1) hx hb dX2_at_22 (by decide) ?_
    exact tk_ri hQ (tk_s1 hf) rfl hx hb hr hlocks hP hD hS dX2_at_23
  · have hf := tk_neg hf h1
    refine lv_iload_n hx hb dX2_at_4 rfl (lv_at hl 1 rfl) ?_
    refine lv_aload_n hx hb dX2_at_5 rfl (lv_at hl 0 rfl) ?_
    refine va_get (D := G) (ci := 2) (v := .ref (q 3)) (C := RX2) (T := TX2) (N := 1) hx hb hts i_X2_at_X2 hown hE.1 hP 2 rfl rfl 0 (by decide) (hts _ m_X2_at_f15) (fun _ h9 => h9) rfl dX2_at_6 ?_
    refine va_alen (v := 54) hx hb hE.1 hP 3 0 rfl rfl rfl dX2_at_9 ?_
    refine lv_icmp_ge (tgt := 22) hx hb dX2_at_10 (by decide) (fun h2 => ?_) (fun h2 => ?_)
    · have hf := tk_pos hf h2
      refine lv_iconst (v := -1) hx hb dX2_at_22 (by decide) ?_
      exact tk_ri hQ (tk_s1 hf) rfl hx hb hr hlocks hP hD hS dX2_at_23
    · have hf := tk_neg hf h2
      refine lv_aload_n hx hb dX2_at_13 rfl (lv_at hl 0 rfl) ?_
      refine va_get (D := G) (ci := 2) (v := .ref (q 3)) (C := RX2) (T := TX2) (N := 1) hx hb hts i_X2_at_X2 hown hE.1 hP 2 rfl rfl 0 (by decide) (hts _ m_X2_at_f15) (fun _ h9 => h9) rfl dX2_at_14 ?_
      refine lv_iload_n hx hb dX2_at_17 rfl (lv_at hl 1 rfl) ?_
      obtain ⟨h3, hf⟩ := tk_ok hf
      refine va_iald (f := (S.2.2.1 0)) hx hb hE.1 hP 3 0 rfl rfl h3 dX2_at_18 ?_
      refine lv_goto (tgt := 23) hx hb dX2_at_19 (by decide) ?_
      exact tk_ri hQ (tk_s1 hf) rfl hx hb hr hlocks hP hD hS dX2_at_23
abbrev rm_X1_swap : Room := { frames := 1, cells := 0, slots := 0, locals := 22 }
set_option maxHeartbeats 4000000 in
set_option maxRecDepth 100000 in
theorem c_X1_swap (l : Launch) (G : va_G) (c3 : ClassId × ClassId × ClassId) (q : Nat → Nat) (S : tk_ST) (p0 : Int32) (p1 : Int32) (S0 : tk_ST) (hf : f_X1_swap p0 p1 S = some S0) : tk_Mv l yX1_swap wsX1_swap rm_X1_swap G c3 [.ref (q 1), .int p0, .int p1] (tk_H c3 q S) (tk_H c3 q S0) := by
  refine tk_ofv (cc := cX1_swap) (maxL := 4) (ret := none) (by decide) rfl (Nat.le_of_ble_eq_true rfl) ?_
  intro p e s m below meth c A Q ls H locs hx hb hml hr hts hown hlocks hE hA hP hD hS hZ hQ hl
  have hl : lv_has ls 4 [(0, .ref (q 1)), (1, .int p0), (2, .int p1)] := hl
  have hown : s.vm.findClass RX1 = some m.cls := hown
  unfold f_X1_swap at hf
  refine lv_aload_n hx hb dX1_swap_0 rfl (lv_at hl 0 rfl) ?_
  refine va_get (D := G) (ci := 1) (v := .ref (q 2)) (C := RX1) (T := TX1) (N := 1) hx hb hts i_X1_swap_X1 hown hE.1 hP 1 rfl rfl 0 (by decide) (hts _ m_X1_swap_f14) (fun _ h9 => h9) rfl dX1_swap_1 ?_
  refine lv_iload_n hx hb dX1_swap_4 rfl (lv_at hl 1 rfl) ?_
  obtain ⟨r1, h2, hf⟩ := tk_b1s hf
  refine tk_ci (ws' := (tk_H c3 q S)) (va_runV (As := [.int p0]) (rest := []) ⟨hx, hb, hml, hown, hts⟩ (c_X2_at_p2 l G c3 q S p0 r1 h2 H.size) (cwV 1 hts gX1_swap_X2_at rfl rfl rfl hv_X2_at ⟨Nat.le_of_ble_eq_true rfl, Nat.le_of_ble_eq_true rfl⟩) (tk_pV hE hP hD 2 rfl rfl) rfl rfl hl.1 rfl (lv_room (Nat.le_of_ble_eq_true rfl)) dX1_swap_5 ⟨Nat.zero_le _, Nat.zero_le _⟩) hD hS hA (fun H locs hP hD hS => ?_)
  refine lv_istore_n (lv' := [(3, .int r1), (0, .ref (q 1)), (1, .int p0), (2, .int p1)]) hx hb dX1_swap_8 rfl hl (by decide) rfl (fun ls hl => ?_)
  refine lv_aload_n hx hb dX1_swap_9 rfl (lv_at hl 1 rfl) ?_
  refine va_get (D := G) (ci := 1) (v := .ref (q 2)) (C := RX1) (T := TX1) (N := 1) hx hb hts i_X1_swap_X1 hown hE.1 hP 1 rfl rfl 0 (by decide) (hts _ m_X1_swap_f14) (fun _ h9 => h9) rfl dX1_swap_10 ?_
  refine lv_iload_n hx hb dX1_swap_13 rfl (lv_at hl 2 rfl) ?_
  refine lv_aload_n hx hb dX1_swap_14 rfl (lv_at hl 1 rfl) ?_
  refine va_get (D := G) (ci := 1) (v := .ref (q 2)) (C := RX1) (T := TX1) (N := 1) hx hb hts i_X1_swap_X1 hown hE.1 hP 1 rfl rfl 0 (by decide) (hts _ m_X1_swap_f14) (fun _ h9 => h9) rfl dX1_swap_15 ?_
  refine lv_iload_n hx hb dX1_swap_18 rfl (lv_at hl 3 rfl) ?_
  obtain ⟨r4, h5, hf⟩ := tk_b1s hf
  refine tk_ci (ws' := (tk_H c3 q S)) (va_runV (As := [.int p1]) (rest := [.int p0, .ref (q 2)]) ⟨hx, hb, hml, hown, hts⟩ (c_X2_at_p2 l G c3 q S p1 r4 h5 H.size) (cwV 1 hts gX1_swap_X2_at rfl rfl rfl hv_X2_at ⟨Nat.le_of_ble_eq_true rfl, Nat.le_of_ble_eq_true rfl⟩) (tk_pV hE hP hD 2 rfl rfl) rfl rfl hl.1 rfl (lv_room (Nat.le_of_ble_eq_true rfl)) dX1_swap_19 ⟨Nat.zero_le _, Nat.zero_le _⟩) hD hS hA (fun H locs hP hD hS => ?_)
  obtain ⟨S9, h8, hf⟩ := tk_b1s hf
  refine tk_cv (ws' := (tk_H c3 q S9)) (va_runV (As := [.int p0, .int r4]) (rest := []) ⟨hx, hb, hml, hown, hts⟩ (c_X2_put_p2 l G c3 q S p0 r4 S9 h8 H.size) (cwV 2 hts gX1_swap_X2_put rfl rfl rfl hv_X2_put ⟨Nat.le_of_ble_eq_true rfl, Nat.le_of_ble_eq_true rfl⟩) (tk_pV hE hP hD 2 rfl rfl) rfl rfl hl.1 rfl (lv_room (Nat.le_of_ble_eq_true rfl)) dX1_swap_22 ⟨Nat.zero_le _, Nat.zero_le _⟩) hD hS hA (fun H locs hP hD hS => ?_)
  refine lv_aload_n hx hb dX1_swap_25 rfl (lv_at hl 1 rfl) ?_
  refine va_get (D := G) (ci := 1) (v := .ref (q 2)) (C := RX1) (T := TX1) (N := 1) hx hb hts i_X1_swap_X1 hown hE.1 hP 1 rfl rfl 0 (by decide) (hts _ m_X1_swap_f14) (fun _ h9 => h9) rfl dX1_swap_26 ?_
  refine lv_iload_n hx hb dX1_swap_29 rfl (lv_at hl 3 rfl) ?_
  refine lv_iload_n hx hb dX1_swap_30 rfl (lv_at hl 0 rfl) ?_
  obtain ⟨S12, h11, hf⟩ := tk_b1s hf
  refine tk_cv (ws' := (tk_H c3 q S12)) (va_runV (As := [.int p1, .int r1]) (rest := []) ⟨hx, hb, hml, hown, hts⟩ (c_X2_put_p2 l G c3 q S9 p1 r1 S12 h11 H.size) (cwV 2 hts gX1_swap_X2_put rfl rfl rfl hv_X2_put ⟨Nat.le_of_ble_eq_true rfl, Nat.le_of_ble_eq_true rfl⟩) (tk_pV hE hP hD 2 rfl rfl) rfl rfl hl.1 rfl (lv_room (Nat.le_of_ble_eq_true rfl)) dX1_swap_31 ⟨Nat.zero_le _, Nat.zero_le _⟩) hD hS hA (fun H locs hP hD hS => ?_)
  exact tk_rv hQ (congrArg (tk_H c3 q) (tk_s1 hf)) hx hb hr hlocks hP hD hS dX1_swap_34
abbrev rm_X1_shuffle : Room := { frames := 2, cells := 0, slots := 0, locals := 45 }
set_option maxHeartbeats 4000000 in
set_option maxRecDepth 100000 in
theorem c_X1_shuffle (l : Launch) (G : va_G) (c3 : ClassId × ClassId × ClassId) (q : Nat → Nat) (S : tk_ST) (p0 : Int32) (S0 : tk_ST) (hf : f_X1_shuffle p0 S = some S0) : tk_Mv l yX1_shuffle wsX1_shuffle rm_X1_shuffle G c3 [.ref (q 1), .int p0] (tk_H c3 q S) (tk_H c3 q S0) := by
  refine tk_ofv (cc := cX1_shuffle) (maxL := 4) (ret := none) (by decide) rfl (Nat.le_of_ble_eq_true rfl) ?_
  intro p e s m below meth c A Q ls H locs hx hb hml hr hts hown hlocks hE hA hP hD hS hZ hQ hl
  have hl : lv_has ls 4 [(0, .ref (q 1)), (1, .int p0)] := hl
  have hown : s.vm.findClass RX1 = some m.cls := hown
  have J_28 : ∀ (n_28 : Nat), ∀ (x2_28 : Int32) (x3_28 : Int32) (S_28 : tk_ST) (H : Heap) (locs : List Loc) (_ : va_P G vwCl (tk_H c3 q S_28) H) (_ : va_D A (tk_H c3 q S_28)) (_ : va_S A s.heap H locs) (ls : Array Slot) (_ : lv_has ls 4 [(0, .ref (q 1)), (2, .int x2_28), (3, .int x3_28)]) (_ : f_X1_shuffle_28 n_28 x2_28 x3_28 S_28 = some S0), W p l e rm_X1_shuffle s m ([.ref (q 1), .int p0] : List Value).toArray below meth c H locs 0 0 Q (F0 m 28 ls []) := by
    intro n_28
    induction n_28 with
    | zero =>
      intro x2_28 x3_28 S_28 H locs hP hD hS ls hl hf
      exact absurd hf (by intro h9; cases h9)
    | succ n_28 ih_28 =>
      intro x2_28 x3_28 S_28 H locs hP hD hS ls hl hf
      rw [f_X1_shuffle_28_s] at hf
      refine lv_iload_n hx hb dX1_shuffle_28 rfl (lv_at hl 2 rfl) ?_
      refine lv_iconst (v := 1) hx hb dX1_shuffle_29 (by decide) ?_
      refine lv_icmp_lt (tgt := 62) hx hb dX1_shuffle_30 (by decide) (fun h1 => ?_) (fun h1 => ?_)
      · have hf := tk_pos hf h1
        exact tk_rv hQ (congrArg (tk_H c3 q) (tk_s1 hf)) hx hb hr hlocks hP hD hS dX1_shuffle_62
      · have hf := tk_neg hf h1
        refine lv_sipush (v := 25173) hx hb dX1_shuffle_33 (by decide) ?_
        refine lv_iload_n hx hb dX1_shuffle_36 rfl (lv_at hl 1 rfl) ?_
        refine lv_imul hx hb dX1_shuffle_37 ?_
        refine lv_sipush (v := 13849) hx hb dX1_shuffle_38 (by decide) ?_
        refine lv_iadd hx hb dX1_shuffle_41 ?_
        refine lv_ldc (v := 65536) hx hb hown (hts _ m_X1_shuffle_k24) dX1_shuffle_42 ?_
        refine tk_irem hx hb dX1_shuffle_44 (by decide) ?_
        refine lv_topi (fun y2 ey2 => ?_)
        have hf := tk_nm hf ey2
        refine lv_istore_n (lv' := [(2, .int y2), (0, .ref (q 1)), (3, .int x3_28)]) hx hb dX1_shuffle_45 rfl hl (by decide) rfl (fun ls hl => ?_)
        refine lv_aload_n hx hb dX1_shuffle_46 rfl (lv_at hl 1 rfl) ?_
        refine lv_iload_n hx hb dX1_shuffle_47 rfl (lv_at hl 2 rfl) ?_
        refine lv_iload_n hx hb dX1_shuffle_48 rfl (lv_at hl 0 rfl) ?_
        refine lv_iload_n hx hb dX1_shuffle_49 rfl (lv_at hl 2 rfl) ?_
        refine lv_iconst (v := 1) hx hb dX1_shuffle_50 (by decide) ?_
        refine lv_iadd hx hb dX1_shuffle_51 ?_
        obtain ⟨h3, hf⟩ := tk_ok hf
        refine tk_irem hx hb dX1_shuffle_52 h3 ?_
        obtain ⟨S6, h5, hf⟩ := tk_b1s hf
        refine tk_cv (ws' := (tk_H c3 q S6)) (va_runV (As := [.int x3_28, .int (tk_rem y2 (x3_28 + (1 : Int32)))]) (rest := []) ⟨hx, hb, hml, hown, hts⟩ (c_X1_swap l G c3 q S_28 x3_28 (tk_rem y2 (x3_28 + (1 : Int32))) S6 h5 H.size) (cwV 2 hts gX1_shuffle_X1_swap rfl rfl rfl hv_X1_swap ⟨Nat.le_of_ble_eq_true rfl, Nat.le_of_ble_eq_true rfl⟩) (tk_pV hE hP hD 1 rfl rfl) rfl rfl hl.1 rfl (lv_room (Nat.le_of_ble_eq_true rfl)) dX1_shuffle_53 ⟨Nat.zero_le _, Nat.zero_le _⟩) hD hS hA (fun H locs hP hD hS => ?_)
        refine lv_iinc (v := (x3_28 + (-1 : Int32))) (lv' := [(3, .int (x3_28 + (-1 : Int32))), (2, .int y2), (0, .ref (q 1))]) hx hb dX1_shuffle_56 hl (k := 2) rfl rfl (by decide) rfl (fun ls hl => ?_)
        refine lv_goto (tgt := 28) hx hb dX1_shuffle_59 (by decide) ?_
        exact ih_28 y2 (x3_28 + (-1 : Int32)) S6 H locs hP hD hS ls (lv_sub hl [2, 1, 0] rfl) hf
  have J_2 : ∀ (n_2 : Nat), ∀ (x1_2 : Int32) (x2_2 : Int32) (S_2 : tk_ST) (H : Heap) (locs : List Loc) (_ : va_P G vwCl (tk_H c3 q S_2) H) (_ : va_D A (tk_H c3 q S_2)) (_ : va_S A s.heap H locs) (ls : Array Slot) (_ : lv_has ls 4 [(0, .ref (q 1)), (1, .int x1_2), (2, .int x2_2)]) (_ : f_X1_shuffle_2 n_2 x1_2 x2_2 S_2 = some S0), W p l e rm_X1_shuffle s m ([.ref (q 1), .int p0] : List Value).toArray below meth c H locs 0 0 Q (F0 m 2 ls []) := by
    intro n_2
    induction n_2 with
    | zero =>
      intro x1_2 x2_2 S_2 H locs hP hD hS ls hl hf
      exact absurd hf (by intro h9; cases h9)
    | succ n_2 ih_2 =>
      intro x1_2 x2_2 S_2 H locs hP hD hS ls hl hf
      rw [f_X1_shuffle_2_s] at hf
      refine lv_iload_n hx hb dX1_shuffle_2 rfl (lv_at hl 2 rfl) ?_
      refine lv_bipush (v := 54) hx hb dX1_shuffle_3 (by decide) ?_
      refine lv_icmp_ge (tgt := 23) hx hb dX1_shuffle_5 (by decide) (fun h7 => ?_) (fun h7 => ?_)
      · have hf := tk_pos hf h7
        refine lv_iload_n hx hb dX1_shuffle_23 rfl (lv_at hl 1 rfl) ?_
        refine lv_istore_n (lv' := [(2, .int x1_2), (0, .ref (q 1)), (1, .int x1_2)]) hx hb dX1_shuffle_24 rfl hl (by decide) rfl (fun ls hl => ?_)
        refine lv_bipush (v := 53) hx hb dX1_shuffle_25 (by decide) ?_
        refine lv_istore_n (lv' := [(3, .int (53 : Int32)), (2, .int x1_2), (0, .ref (q 1)), (1, .int x1_2)]) hx hb dX1_shuffle_27 rfl hl (by decide) rfl (fun ls hl => ?_)
        exact J_28 64 x1_2 (53 : Int32) S_2 H locs hP hD hS ls (lv_sub hl [2, 1, 0] rfl) hf
      · have hf := tk_neg hf h7
        refine lv_aload_n hx hb dX1_shuffle_8 rfl (lv_at hl 0 rfl) ?_
        refine va_get (D := G) (ci := 1) (v := .ref (q 2)) (C := RX1) (T := TX1) (N := 1) hx hb hts i_X1_shuffle_X1 hown hE.1 hP 1 rfl rfl 0 (by decide) (hts _ m_X1_shuffle_f14) (fun _ h9 => h9) rfl dX1_shuffle_9 ?_
        refine lv_iload_n hx hb dX1_shuffle_12 rfl (lv_at hl 2 rfl) ?_
        refine lv_iload_n hx hb dX1_shuffle_13 rfl (lv_at hl 2 rfl) ?_
        obtain ⟨S10, h9, hf⟩ := tk_b1s hf
        refine tk_cv (ws' := (tk_H c3 q S10)) (va_runV (As := [.int x2_2, .int x2_2]) (rest := []) ⟨hx, hb, hml, hown, hts⟩ (c_X2_put_p2 l G c3 q S_2 x2_2 x2_2 S10 h9 H.size) (cwV 2 hts gX1_shuffle_X2_put rfl rfl rfl hv_X2_put ⟨Nat.le_of_ble_eq_true rfl, Nat.le_of_ble_eq_true rfl⟩) (tk_pV hE hP hD 2 rfl rfl) rfl rfl hl.1 rfl (lv_room (Nat.le_of_ble_eq_true rfl)) dX1_shuffle_14 ⟨Nat.zero_le _, Nat.zero_le _⟩) hD hS hA (fun H locs hP hD hS => ?_)
        refine lv_iinc (v := (x2_2 + (1 : Int32))) (lv' := [(2, .int (x2_2 + (1 : Int32))), (0, .ref (q 1)), (1, .int x1_2)]) hx hb dX1_shuffle_17 hl (k := 2) rfl rfl (by decide) rfl (fun ls hl => ?_)
        refine lv_goto (tgt := 2) hx hb dX1_shuffle_20 (by decide) ?_
        exact ih_2 x1_2 (x2_2 + (1 : Int32)) S10 H locs hP hD hS ls (lv_sub hl [1, 2, 0] rfl) hf
  unfold f_X1_shuffle at hf
  refine lv_iconst (v := 0) hx hb dX1_shuffle_0 (by decide) ?_
  refine lv_istore_n (lv' := [(2, .int (0 : Int32)), (0, .ref (q 1)), (1, .int p0)]) hx hb dX1_shuffle_1 rfl hl (by decide) rfl (fun ls hl => ?_)
  exact J_2 64 p0 (0 : Int32) S H locs hP hD hS ls (lv_sub hl [1, 2, 0] rfl) hf
abbrev rm_X6_only : Room := { frames := 0, cells := 0, slots := 0, locals := 0 }
set_option maxHeartbeats 4000000 in
set_option maxRecDepth 100000 in
theorem c_X6_only (l : Launch) (G : va_G) (c3 : ClassId × ClassId × ClassId) (ws : va_W) (p0 : Int32) (r0 : Int64) (hf : f_X6_only p0 = some r0) : tk_Ml l yX6_only wsX6_only rm_X6_only G c3 [.int p0] ws ws r0 := by
  refine tk_ofl (cc := cX6_only) (maxL := 1) (ret := some .long) (by decide) rfl (Nat.le_of_ble_eq_true rfl) ?_
  intro p e s m below meth c A Q ls H locs hx hb hml hr hts hown hlocks hE hA hP hD hS hZ hQ hl
  have hl : lv_has ls 1 [(0, .int p0)] := hl
  have hown : s.vm.findClass RX6 = some m.cls := hown
  unfold f_X6_only at hf
  refine lv_lconst (v := 1) hx hb dX6_only_0 (by decide) ?_
  refine lv_iload_n hx hb dX6_only_1 rfl (lv_at hl 0 rfl) ?_
  refine lv_lshl (v := (1 : Int64) <<< (p0.toInt64 &&& 63)) hx hb dX6_only_2 rfl ?_
  exact tk_rl hQ (tk_s1 hf) rfl hx hb hr hlocks hP hD hS dX6_only_3
abbrev rm_X1_cardsFrom : Room := { frames := 1, cells := 0, slots := 0, locals := 21 }
set_option maxHeartbeats 4000000 in
set_option maxRecDepth 100000 in
theorem c_X1_cardsFrom (l : Launch) (G : va_G) (c3 : ClassId × ClassId × ClassId) (q : Nat → Nat) (S : tk_ST) (p0 : Int32) (p1 : Int32) (r0 : Int64) (hf : f_X1_cardsFrom p0 p1 S = some r0) : tk_Ml l yX1_cardsFrom wsX1_cardsFrom rm_X1_cardsFrom G c3 [.ref (q 1), .int p0, .int p1] (tk_H c3 q S) (tk_H c3 q S) r0 := by
  refine tk_ofl (cc := cX1_cardsFrom) (maxL := 6) (ret := some .long) (by decide) rfl (Nat.le_of_ble_eq_true rfl) ?_
  intro p e s m below meth c A Q ls H locs hx hb hml hr hts hown hlocks hE hA hP hD hS hZ hQ hl
  have hl : lv_has ls 6 [(0, .ref (q 1)), (1, .int p0), (2, .int p1)] := hl
  have hown : s.vm.findClass RX1 = some m.cls := hown
  have J_5 : ∀ (n_5 : Nat), ∀ (x1_5 : Int32) (x2_5 : Int32) (x3_5 : Int64) (x5_5 : Int32) (H : Heap) (locs : List Loc) (_ : va_P G vwCl (tk_H c3 q S) H) (_ : va_D A (tk_H c3 q S)) (_ : va_S A s.heap H locs) (ls : Array Slot) (_ : lv_has ls 6 [(0, .ref (q 1)), (1, .int x1_5), (2, .int x2_5), (3, .long x3_5), (5, .int x5_5)]) (_ : f_X1_cardsFrom_5 n_5 x1_5 x2_5 x3_5 x5_5 S = some r0), W p l e rm_X1_cardsFrom s m ([.ref (q 1), .int p0, .int p1] : List Value).toArray below meth c H locs 0 0 Q (F0 m 5 ls []) := by
    intro n_5
    induction n_5 with
    | zero =>
      intro x1_5 x2_5 x3_5 x5_5 H locs hP hD hS ls hl hf
      exact absurd hf (by intro h9; cases h9)
    | succ n_5 ih_5 =>
      intro x1_5 x2_5 x3_5 x5_5 H locs hP hD hS ls hl hf
      rw [f_X1_cardsFrom_5_s] at hf
      refine lv_iload hx hb dX1_cardsFrom_5 (lv_at hl 4 rfl) ?_
      refine lv_iload_n hx hb dX1_cardsFrom_7 rfl (lv_at hl 2 rfl) ?_
      refine lv_icmp_ge (tgt := 34) hx hb dX1_cardsFrom_8 (by decide) (fun h1 => ?_) (fun h1 => ?_)
      · have hf := tk_pos hf h1
        refine lv_lload_n hx hb dX1_cardsFrom_34 rfl (lv_at hl 3 rfl) ?_
        exact tk_rl hQ (tk_s1 hf) rfl hx hb hr hlocks hP hD hS dX1_cardsFrom_35
      · have hf := tk_neg hf h1
        refine lv_lload_n hx hb dX1_cardsFrom_11 rfl (lv_at hl 3 rfl) ?_
        refine lv_aload_n hx hb dX1_cardsFrom_12 rfl (lv_at hl 0 rfl) ?_
        refine va_get (D := G) (ci := 1) (v := .ref (q 2)) (C := RX1) (T := TX1) (N := 1) hx hb hts i_X1_cardsFrom_X1 hown hE.1 hP 1 rfl rfl 0 (by decide) (hts _ m_X1_cardsFrom_f14) (fun _ h9 => h9) rfl dX1_cardsFrom_13 ?_
        refine lv_iload_n hx hb dX1_cardsFrom_16 rfl (lv_at hl 1 rfl) ?_
        refine lv_iload hx hb dX1_cardsFrom_17 (lv_at hl 4 rfl) ?_
        refine lv_iadd hx hb dX1_cardsFrom_19 ?_
        obtain ⟨r2, h3, hf⟩ := tk_b1s hf
        refine tk_ci (ws' := (tk_H c3 q S)) (va_runV (As := [.int (x1_5 + x5_5)]) (rest := [.long x3_5]) ⟨hx, hb, hml, hown, hts⟩ (c_X2_at_p2 l G c3 q S (x1_5 + x5_5) r2 h3 H.size) (cwV 1 hts gX1_cardsFrom_X2_at rfl rfl rfl hv_X2_at ⟨Nat.le_of_ble_eq_true rfl, Nat.le_of_ble_eq_true rfl⟩) (tk_pV hE hP hD 2 rfl rfl) rfl rfl hl.1 rfl (lv_room (Nat.le_of_ble_eq_true rfl)) dX1_cardsFrom_20 ⟨Nat.zero_le _, Nat.zero_le _⟩) hD hS hA (fun H locs hP hD hS => ?_)
        obtain ⟨r5, h6, hf⟩ := tk_b1s hf
        refine tk_cl (ws' := (tk_H c3 q S)) (va_runSN (As := [.int r2]) (rest := [.long x3_5]) ⟨hx, hb, hml, hown, hts⟩ (c_X6_only l G c3 (tk_H c3 q S) r2 r5 h6 H.size) ⟨va_cnB 1 hts gX1_cardsFrom_X6_only_n32 rfl rfl rfl hE.2.1.2.2.2.2.2.2.2.1 (hts _ m_X1_cardsFrom_iX6) hs_X6_only ⟨Nat.le_of_ble_eq_true rfl, Nat.le_of_ble_eq_true rfl⟩, (hts _ m_X1_cardsFrom_st_X6_only), trivial⟩ (tk_pS hE hP hD) rfl rfl hl.1 rfl (lv_room (Nat.le_of_ble_eq_true rfl)) dX1_cardsFrom_23 ⟨Nat.zero_le _, Nat.zero_le _⟩) hD hS hA (fun H locs hP hD hS => ?_)
        refine lv_lor hx hb dX1_cardsFrom_26 ?_
        refine lv_lstore_n (lv' := [(3, .long (x3_5 ||| r5)), (0, .ref (q 1)), (1, .int x1_5), (2, .int x2_5), (5, .int x5_5)]) hx hb dX1_cardsFrom_27 rfl hl (by decide) rfl (fun ls hl => ?_)
        refine lv_iinc (v := (x5_5 + (1 : Int32))) (lv' := [(5, .int (x5_5 + (1 : Int32))), (3, .long (x3_5 ||| r5)), (0, .ref (q 1)), (1, .int x1_5), (2, .int x2_5)]) hx hb dX1_cardsFrom_28 hl (k := 4) rfl rfl (by decide) rfl (fun ls hl => ?_)
        refine lv_goto (tgt := 5) hx hb dX1_cardsFrom_31 (by decide) ?_
        exact ih_5 x1_5 x2_5 (x3_5 ||| r5) (x5_5 + (1 : Int32)) H locs hP hD hS ls (lv_sub hl [2, 3, 4, 1, 0] rfl) hf
  unfold f_X1_cardsFrom at hf
  refine lv_lconst (v := 0) hx hb dX1_cardsFrom_0 (by decide) ?_
  refine lv_lstore_n (lv' := [(3, .long (0 : Int64)), (0, .ref (q 1)), (1, .int p0), (2, .int p1)]) hx hb dX1_cardsFrom_1 rfl hl (by decide) rfl (fun ls hl => ?_)
  refine lv_iconst (v := 0) hx hb dX1_cardsFrom_2 (by decide) ?_
  refine lv_istore (lv' := [(5, .int (0 : Int32)), (3, .long (0 : Int64)), (0, .ref (q 1)), (1, .int p0), (2, .int p1)]) hx hb dX1_cardsFrom_3 hl (by decide) rfl (fun ls hl => ?_)
  exact J_5 64 p0 p1 (0 : Int64) (0 : Int32) H locs hP hD hS ls (lv_sub hl [2, 3, 4, 1, 0] rfl) hf
set_option maxHeartbeats 4000000 in
set_option maxRecDepth 100000 in
theorem c_X3_put_p13 (l : Launch) (G : va_G) (c3 : ClassId × ClassId × ClassId) (q : Nat → Nat) (S : tk_ST) (p0 : Int32) (p1 : Int64) (S0 : tk_ST) (hf : f_X3_put_p13 p0 p1 S = some S0) : tk_Mv l yX3_put wsX3_put rm_X3_put G c3 [.ref (q 13), .int p0, .long p1] (tk_H c3 q S) (tk_H c3 q S0) := by
  refine tk_ofv (cc := cX3_put) (maxL := 4) (ret := none) (by decide) rfl (Nat.le_of_ble_eq_true rfl) ?_
  intro p e s m below meth c A Q ls H locs hx hb hml hr hts hown hlocks hE hA hP hD hS hZ hQ hl
  have hl : lv_has ls 4 [(0, .ref (q 13)), (1, .int p0), (2, .long p1)] := hl
  have hown : s.vm.findClass RX3 = some m.cls := hown
  unfold f_X3_put_p13 at hf
  refine lv_iload_n hx hb dX3_put_0 rfl (lv_at hl 1 rfl) ?_
  refine lv_if_lt (tgt := 20) hx hb dX3_put_1 (by decide) (fun h1 => ?_) (fun h1 => ?_)
  · have hf := tk_pos hf h1
    exact tk_rv hQ (congrArg (tk_H c3 q) (tk_s1 hf)) hx hb hr hlocks hP hD hS dX3_put_20
  · have hf := tk_neg hf h1
    refine lv_iload_n hx hb dX3_put_4 rfl (lv_at hl 1 rfl) ?_
    refine lv_aload_n hx hb dX3_put_5 rfl (lv_at hl 0 rfl) ?_
    refine va_get (D := G) (ci := 3) (v := .ref (q 14)) (C := RX3) (T := TX3) (N := 1) hx hb hts i_X3_put_X3 hown hE.1 hP 13 rfl rfl 0 (by decide) (hts _ m_X3_put_f13) (fun _ h9 => h9) rfl dX3_put_6 ?_
    refine va_alen (v := 4) hx hb hE.1 hP 14 1 rfl rfl rfl dX3_put_9 ?_
    refine lv_icmp_ge (tgt := 20) hx hb dX3_put_10 (by decide) (fun h2 => ?_) (fun h2 => ?_)
    · have hf := tk_pos hf h2
      exact tk_rv hQ (congrArg (tk_H c3 q) (tk_s1 hf)) hx hb hr hlocks hP hD hS dX3_put_20
    · have hf := tk_neg hf h2
      refine lv_aload_n hx hb dX3_put_13 rfl (lv_at hl 0 rfl) ?_
      refine va_get (D := G) (ci := 3) (v := .ref (q 14)) (C := RX3) (T := TX3) (N := 1) hx hb hts i_X3_put_X3 hown hE.1 hP 13 rfl rfl 0 (by decide) (hts _ m_X3_put_f13) (fun _ h9 => h9) rfl dX3_put_14 ?_
      refine lv_iload_n hx hb dX3_put_17 rfl (lv_at hl 1 rfl) ?_
      refine lv_lload_n hx hb dX3_put_18 rfl (lv_at hl 2 rfl) ?_
      obtain ⟨h3, hf⟩ := tk_ok hf
      refine va_last (f := (S.2.2.2 0)) hx hb hE.1 hP hD hS 14 1 rfl rfl h3 dX3_put_19 (fun H locs hP hD hS => ?_)
      have hP : va_P G vwCl (tk_H c3 q (tk_B S 0 (vp_updL (S.2.2.2 0) p0.toNatClampNeg p1))) H := hP
      have hD : va_D A (tk_H c3 q (tk_B S 0 (vp_updL (S.2.2.2 0) p0.toNatClampNeg p1))) := hD
      obtain ⟨S4, eS4⟩ : ∃ z : tk_ST, z = (tk_B S 0 (vp_updL (S.2.2.2 0) p0.toNatClampNeg p1)) := ⟨_, rfl⟩
      rw [← eS4] at hP hD
      have hf := tk_nm hf eS4
      exact tk_rv hQ (congrArg (tk_H c3 q) (tk_s1 hf)) hx hb hr hlocks hP hD hS dX3_put_20
abbrev rm_X6_handOut : Room := { frames := 2, cells := 0, slots := 0, locals := 46 }
set_option maxHeartbeats 4000000 in
set_option maxRecDepth 100000 in
theorem c_X6_handOut (l : Launch) (G : va_G) (c3 : ClassId × ClassId × ClassId) (q : Nat → Nat) (S : tk_ST) (S0 : tk_ST) (hf : f_X6_handOut S = some S0) : tk_Mv l yX6_handOut wsX6_handOut rm_X6_handOut G c3 [.ref (q 0)] (tk_H c3 q S) (tk_H c3 q S0) := by
  refine tk_ofv (cc := cX6_handOut) (maxL := 3) (ret := none) (by decide) rfl (Nat.le_of_ble_eq_true rfl) ?_
  intro p e s m below meth c A Q ls H locs hx hb hml hr hts hown hlocks hE hA hP hD hS hZ hQ hl
  have hl : lv_has ls 3 [(0, .ref (q 0))] := hl
  have hown : s.vm.findClass RX6 = some m.cls := hown
  have J_7 : ∀ (n_7 : Nat), ∀ (x1_7 : Int32) (x2_7 : Int32) (S_7 : tk_ST) (H : Heap) (locs : List Loc) (_ : va_P G vwCl (tk_H c3 q S_7) H) (_ : va_D A (tk_H c3 q S_7)) (_ : va_S A s.heap H locs) (ls : Array Slot) (_ : lv_has ls 3 [(0, .ref (q 0)), (1, .int x1_7), (2, .int x2_7)]) (_ : f_X6_handOut_7 n_7 x1_7 x2_7 S_7 = some S0), W p l e rm_X6_handOut s m ([.ref (q 0)] : List Value).toArray below meth c H locs 0 0 Q (F0 m 7 ls []) := by
    intro n_7
    induction n_7 with
    | zero =>
      intro x1_7 x2_7 S_7 H locs hP hD hS ls hl hf
      exact absurd hf (by intro h9; cases h9)
    | succ n_7 ih_7 =>
      intro x1_7 x2_7 S_7 H locs hP hD hS ls hl hf
      rw [f_X6_handOut_7_s] at hf
      refine lv_iload_n hx hb dX6_handOut_7 rfl (lv_at hl 2 rfl) ?_
      refine lv_iconst (v := 4) hx hb dX6_handOut_8 (by decide) ?_
      refine lv_icmp_ge (tgt := 44) hx hb dX6_handOut_9 (by decide) (fun h1 => ?_) (fun h1 => ?_)
      · have hf := tk_pos hf h1
        refine lv_aload_n hx hb dX6_handOut_44 rfl (lv_at hl 0 rfl) ?_
        refine lv_aload_n hx hb dX6_handOut_45 rfl (lv_at hl 0 rfl) ?_
        refine va_get (D := G) (ci := 6) (v := .ref (q 1)) (C := RX6) (T := TX6) (N := 18) hx hb hts i_X6_handOut_X6 hown hE.1 hP 0 rfl rfl 0 (by decide) (hts _ m_X6_handOut_f12) (fun _ h9 => h9) rfl dX6_handOut_46 ?_
        refine lv_bipush (v := 48) hx hb dX6_handOut_49 (by decide) ?_
        refine lv_bipush (v := 6) hx hb dX6_handOut_51 (by decide) ?_
        obtain ⟨r2, h3, hf⟩ := tk_b1s hf
        refine tk_cl (ws' := (tk_H c3 q S_7)) (va_runV (As := [.int (48 : Int32), .int (6 : Int32)]) (rest := [.ref (q 0)]) ⟨hx, hb, hml, hown, hts⟩ (c_X1_cardsFrom l G c3 q S_7 (48 : Int32) (6 : Int32) r2 h3 H.size) (cwV 2 hts gX6_handOut_X1_cardsFrom rfl rfl rfl hv_X1_cardsFrom ⟨Nat.le_of_ble_eq_true rfl, Nat.le_of_ble_eq_true rfl⟩) (tk_pV hE hP hD 1 rfl rfl) rfl rfl hl.1 rfl (lv_room (Nat.le_of_ble_eq_true rfl)) dX6_handOut_53 ⟨Nat.zero_le _, Nat.zero_le _⟩) hD hS hA (fun H locs hP hD hS => ?_)
        refine va_put (D := G) (ci := 6) (v := .long r2) (ty := .long) (C := RX6) (T := TX6) (N := 18) hx hb hts i_X6_handOut_X6 tyX6 tyX6_ok nmX6 hown hE.1 hP hD hS 0 rfl rfl 15 (by decide) (hts _ m_X6_handOut_f162) (fun _ h9 => h9) rfl (by decide +kernel) rfl rfl (Nat.le_of_ble_eq_true rfl) dX6_handOut_56 (fun H locs hP hD hS => ?_)
        have hP : va_P G vwCl (tk_H c3 q (tk_L S_7 1 r2)) H := hP
        have hD : va_D A (tk_H c3 q (tk_L S_7 1 r2)) := hD
        exact tk_rv hQ (congrArg (tk_H c3 q) (tk_s1 hf)) hx hb hr hlocks hP hD hS dX6_handOut_59
      · have hf := tk_neg hf h1
        refine lv_aload_n hx hb dX6_handOut_12 rfl (lv_at hl 0 rfl) ?_
        refine va_get (D := G) (ci := 6) (v := .ref (q 13)) (C := RX6) (T := TX6) (N := 18) hx hb hts i_X6_handOut_X6 hown hE.1 hP 0 rfl rfl 4 (by decide) (hts _ m_X6_handOut_f42) (fun _ h9 => h9) rfl dX6_handOut_13 ?_
        refine lv_iload_n hx hb dX6_handOut_16 rfl (lv_at hl 1 rfl) ?_
        refine lv_aload_n hx hb dX6_handOut_17 rfl (lv_at hl 0 rfl) ?_
        refine va_get (D := G) (ci := 6) (v := .ref (q 1)) (C := RX6) (T := TX6) (N := 18) hx hb hts i_X6_handOut_X6 hown hE.1 hP 0 rfl rfl 0 (by decide) (hts _ m_X6_handOut_f12) (fun _ h9 => h9) rfl dX6_handOut_18 ?_
        refine lv_iload_n hx hb dX6_handOut_21 rfl (lv_at hl 2 rfl) ?_
        refine lv_bipush (v := 12) hx hb dX6_handOut_22 (by decide) ?_
        refine lv_imul hx hb dX6_handOut_24 ?_
        refine lv_bipush (v := 12) hx hb dX6_handOut_25 (by decide) ?_
        obtain ⟨r5, h6, hf⟩ := tk_b1s hf
        refine tk_cl (ws' := (tk_H c3 q S_7)) (va_runV (As := [.int (x2_7 * (12 : Int32)), .int (12 : Int32)]) (rest := [.int x1_7, .ref (q 13)]) ⟨hx, hb, hml, hown, hts⟩ (c_X1_cardsFrom l G c3 q S_7 (x2_7 * (12 : Int32)) (12 : Int32) r5 h6 H.size) (cwV 2 hts gX6_handOut_X1_cardsFrom rfl rfl rfl hv_X1_cardsFrom ⟨Nat.le_of_ble_eq_true rfl, Nat.le_of_ble_eq_true rfl⟩) (tk_pV hE hP hD 1 rfl rfl) rfl rfl hl.1 rfl (lv_room (Nat.le_of_ble_eq_true rfl)) dX6_handOut_27 ⟨Nat.zero_le _, Nat.zero_le _⟩) hD hS hA (fun H locs hP hD hS => ?_)
        obtain ⟨S10, h9, hf⟩ := tk_b1s hf
        refine tk_cv (ws' := (tk_H c3 q S10)) (va_runV (As := [.int x1_7, .long r5]) (rest := []) ⟨hx, hb, hml, hown, hts⟩ (c_X3_put_p13 l G c3 q S_7 x1_7 r5 S10 h9 H.size) (cwV 2 hts gX6_handOut_X3_put rfl rfl rfl hv_X3_put ⟨Nat.le_of_ble_eq_true rfl, Nat.le_of_ble_eq_true rfl⟩) (tk_pV hE hP hD 13 rfl rfl) rfl rfl hl.1 rfl (lv_room (Nat.le_of_ble_eq_true rfl)) dX6_handOut_30 ⟨Nat.zero_le _, Nat.zero_le _⟩) hD hS hA (fun H locs hP hD hS => ?_)
        refine lv_iload_n hx hb dX6_handOut_33 rfl (lv_at hl 1 rfl) ?_
        obtain ⟨r11, h12, hf⟩ := tk_b1s hf
        refine tk_ci (ws' := (tk_H c3 q S10)) (va_runS (As := [.int x1_7]) (rest := []) ⟨hx, hb, hml, hown, hts⟩ (c_X6_behind l G c3 (tk_H c3 q S10) x1_7 r11 h12 H.size) (va_cwS 1 hts gX6_handOut_X6_behind rfl rfl rfl hs_X6_behind ⟨Nat.le_of_ble_eq_true rfl, Nat.le_of_ble_eq_true rfl⟩) (tk_pS hE hP hD) rfl rfl hl.1 rfl (lv_room (Nat.le_of_ble_eq_true rfl)) dX6_handOut_34 ⟨Nat.zero_le _, Nat.zero_le _⟩) hD hS hA (fun H locs hP hD hS => ?_)
        refine lv_istore_n (lv' := [(1, .int r11), (0, .ref (q 0)), (2, .int x2_7)]) hx hb dX6_handOut_37 rfl hl (by decide) rfl (fun ls hl => ?_)
        refine lv_iinc (v := (x2_7 + (1 : Int32))) (lv' := [(2, .int (x2_7 + (1 : Int32))), (1, .int r11), (0, .ref (q 0))]) hx hb dX6_handOut_38 hl (k := 2) rfl rfl (by decide) rfl (fun ls hl => ?_)
        refine lv_goto (tgt := 7) hx hb dX6_handOut_41 (by decide) ?_
        exact ih_7 r11 (x2_7 + (1 : Int32)) S10 H locs hP hD hS ls (lv_sub hl [2, 1, 0] rfl) hf
  unfold f_X6_handOut at hf
  refine lv_aload_n hx hb dX6_handOut_0 rfl (lv_at hl 0 rfl) ?_
  refine va_get (D := G) (ci := 6) (v := .int (S.1 0)) (C := RX6) (T := TX6) (N := 18) hx hb hts i_X6_handOut_X6 hown hE.1 hP 0 rfl rfl 6 (by decide) (hts _ m_X6_handOut_f49) (fun _ h9 => h9) rfl dX6_handOut_1 ?_
  refine lv_istore_n (lv' := [(1, .int (S.1 0)), (0, .ref (q 0))]) hx hb dX6_handOut_4 rfl hl (by decide) rfl (fun ls hl => ?_)
  refine lv_iconst (v := 0) hx hb dX6_handOut_5 (by decide) ?_
  refine lv_istore_n (lv' := [(2, .int (0 : Int32)), (1, .int (S.1 0)), (0, .ref (q 0))]) hx hb dX6_handOut_6 rfl hl (by decide) rfl (fun ls hl => ?_)
  exact J_7 64 (S.1 0) (0 : Int32) S H locs hP hD hS ls (lv_sub hl [2, 1, 0] rfl) hf
abbrev rm_X6_deal : Room := { frames := 6, cells := 1, slots := 6, locals := 90 }
set_option maxHeartbeats 4000000 in
set_option maxRecDepth 100000 in
theorem c_X6_deal (l : Launch) (hlst : l.stackTraces = false) (G : va_G) (c3 : ClassId × ClassId × ClassId) (q : Nat → Nat) (S : tk_ST) (p0 : Int32) (k0 : Int32) (r0 : Int32) (S0 : tk_ST) (hf : f_X6_deal p0 S = some (k0, r0, S0)) : tk_Xi l yX6_deal wsX6_deal rm_X6_deal G c3 [.ref (q 0), .int p0] (tk_H c3 q S) (tk_H c3 q S0) k0 r0 := by
  refine tk_ofXi (cc := cX6_deal) (maxL := 2) (ret := some .int) (by decide) rfl (Nat.le_of_ble_eq_true rfl) ?_
  intro p e s m below meth c A Q ls H locs hx hb hml hr hts hown hlocks hE hA hP hD hS hZ hQ hl
  have hl : lv_has ls 2 [(0, .ref (q 0)), (1, .int p0)] := hl
  have hown : s.vm.findClass RX6 = some m.cls := hown
  have J_10 : ∀ (S_10 : tk_ST) (H : Heap) (locs : List Loc) (_ : va_P G vwCl (tk_H c3 q S_10) H) (_ : va_D A (tk_H c3 q S_10)) (_ : va_S A s.heap H locs) (ls : Array Slot) (_ : lv_has ls 2 []) (_ : f_X6_deal_10 S_10 = some (k0, r0, S0)), W p l e rm_X6_deal s m ([.ref (q 0), .int p0] : List Value).toArray below meth c H locs 0 0 Q (F0 m 10 ls []) := by
    intro S_10 H locs hP hD hS ls hl hf
    unfold f_X6_deal_10 at hf
    exact tk_throw (G := G) (c3 := c3) (cls := "java/lang/IllegalArgumentException") (text := "no such number of a deal") (ik := 72) (is := 74) (ic := 76) hQ (tk_s3 hf).1 (by decide) ex_1 (congrArg (tk_H c3 q) (tk_s3 hf).2.2) hlst hx hb hown ft_1 (hts _ m_X6_deal_cl72) (hts _ m_X6_deal_ie1) hE st_74 (fun w h => hts w (h_X6_deal_x76 w h)) ng_76 hE.2.1.2.2.2.2.2.2.2.2.2.2.1 gd_76 hZ.1 hP hD hS (hl.1.trans hml.symm) dX6_deal_10 dX6_deal_13 dX6_deal_14 dX6_deal_16 dX6_deal_19 hZ.2 (Nat.le_of_ble_eq_true rfl) (Nat.le_of_ble_eq_true rfl) (Nat.le_of_ble_eq_true rfl) (Nat.le_of_ble_eq_true rfl) hlocks
  unfold f_X6_deal at hf
  refine lv_iload_n hx hb dX6_deal_0 rfl (lv_at hl 1 rfl) ?_
  refine lv_if_lt (tgt := 10) hx hb dX6_deal_1 (by decide) (fun h1 => ?_) (fun h1 => ?_)
  · have hf := tk_pos hf h1
    exact J_10 S H locs hP hD hS ls (lv_sub hl [] rfl) hf
  · have hf := tk_neg hf h1
    refine lv_iload_n hx hb dX6_deal_4 rfl (lv_at hl 1 rfl) ?_
    refine lv_ldc (v := 65536) hx hb hown (hts _ m_X6_deal_k71) dX6_deal_5 ?_
    refine lv_icmp_lt (tgt := 20) hx hb dX6_deal_7 (by decide) (fun h2 => ?_) (fun h2 => ?_)
    · have hf := tk_pos hf h2
      refine lv_aload_n hx hb dX6_deal_20 rfl (lv_at hl 0 rfl) ?_
      refine va_get (D := G) (ci := 6) (v := .int (S.1 1)) (C := RX6) (T := TX6) (N := 18) hx hb hts i_X6_deal_X6 hown hE.1 hP 0 rfl rfl 7 (by decide) (hts _ m_X6_deal_f53) (fun _ h9 => h9) rfl dX6_deal_21 ?_
      refine lv_if_eq (tgt := 37) hx hb dX6_deal_24 (by decide) (fun h3 => ?_) (fun h3 => ?_)
      · have hf := tk_pos hf h3
        refine lv_aload_n hx hb dX6_deal_37 rfl (lv_at hl 0 rfl) ?_
        refine lv_aload_n hx hb dX6_deal_38 rfl (lv_at hl 0 rfl) ?_
        refine va_get (D := G) (ci := 6) (v := .int (S.1 0)) (C := RX6) (T := TX6) (N := 18) hx hb hts i_X6_deal_X6 hown hE.1 hP 0 rfl rfl 6 (by decide) (hts _ m_X6_deal_f49) (fun _ h9 => h9) rfl dX6_deal_39 ?_
        obtain ⟨r4, h5, hf⟩ := tk_b1s hf
        refine tk_ci (ws' := (tk_H c3 q S)) (va_runS (As := [.int (S.1 0)]) (rest := [.ref (q 0)]) ⟨hx, hb, hml, hown, hts⟩ (c_X6_behind l G c3 (tk_H c3 q S) (S.1 0) r4 h5 H.size) (va_cwS 1 hts gX6_deal_X6_behind rfl rfl rfl hs_X6_behind ⟨Nat.le_of_ble_eq_true rfl, Nat.le_of_ble_eq_true rfl⟩) (tk_pS hE hP hD) rfl rfl hl.1 rfl (lv_room (Nat.le_of_ble_eq_true rfl)) dX6_deal_42 ⟨Nat.zero_le _, Nat.zero_le _⟩) hD hS hA (fun H locs hP hD hS => ?_)
        refine va_put (D := G) (ci := 6) (v := .int r4) (ty := .int) (C := RX6) (T := TX6) (N := 18) hx hb hts i_X6_deal_X6 tyX6 tyX6_ok nmX6 hown hE.1 hP hD hS 0 rfl rfl 6 (by decide) (hts _ m_X6_deal_f49) (fun _ h9 => h9) rfl (by decide +kernel) rfl rfl (Nat.le_of_ble_eq_true rfl) dX6_deal_45 (fun H locs hP hD hS => ?_)
        have hP : va_P G vwCl (tk_H c3 q (tk_I S 0 r4)) H := hP
        have hD : va_D A (tk_H c3 q (tk_I S 0 r4)) := hD
        refine lv_aload_n hx hb dX6_deal_48 rfl (lv_at hl 0 rfl) ?_
        obtain ⟨S9, h8, hf⟩ := tk_b1s hf
        refine tk_cv (ws' := (tk_H c3 q S9)) (va_runV (As := []) (rest := []) ⟨hx, hb, hml, hown, hts⟩ (c_X6_clearDeal l G c3 q (tk_I S 0 r4) S9 h8 H.size) (cwV 0 hts gX6_deal_X6_clearDeal rfl rfl rfl hv_X6_clearDeal ⟨Nat.le_of_ble_eq_true rfl, Nat.le_of_ble_eq_true rfl⟩) (tk_pV hE hP hD 0 rfl rfl) rfl rfl hl.1 rfl (lv_room (Nat.le_of_ble_eq_true rfl)) dX6_deal_49 ⟨Nat.zero_le _, Nat.zero_le _⟩) hD hS hA (fun H locs hP hD hS => ?_)
        refine lv_aload_n hx hb dX6_deal_52 rfl (lv_at hl 0 rfl) ?_
        refine va_get (D := G) (ci := 6) (v := .ref (q 1)) (C := RX6) (T := TX6) (N := 18) hx hb hts i_X6_deal_X6 hown hE.1 hP 0 rfl rfl 0 (by decide) (hts _ m_X6_deal_f12) (fun _ h9 => h9) rfl dX6_deal_53 ?_
        refine lv_iload_n hx hb dX6_deal_56 rfl (lv_at hl 1 rfl) ?_
        obtain ⟨S12, h11, hf⟩ := tk_b1s hf
        refine tk_cv (ws' := (tk_H c3 q S12)) (va_runV (As := [.int p0]) (rest := []) ⟨hx, hb, hml, hown, hts⟩ (c_X1_shuffle l G c3 q S9 p0 S12 h11 H.size) (cwV 1 hts gX6_deal_X1_shuffle rfl rfl rfl hv_X1_shuffle ⟨Nat.le_of_ble_eq_true rfl, Nat.le_of_ble_eq_true rfl⟩) (tk_pV hE hP hD 1 rfl rfl) rfl rfl hl.1 rfl (lv_room (Nat.le_of_ble_eq_true rfl)) dX6_deal_57 ⟨Nat.zero_le _, Nat.zero_le _⟩) hD hS hA (fun H locs hP hD hS => ?_)
        refine lv_aload_n hx hb dX6_deal_60 rfl (lv_at hl 0 rfl) ?_
        obtain ⟨S15, h14, hf⟩ := tk_b1s hf
        refine tk_cv (ws' := (tk_H c3 q S15)) (va_runV (As := []) (rest := []) ⟨hx, hb, hml, hown, hts⟩ (c_X6_handOut l G c3 q S12 S15 h14 H.size) (cwV 0 hts gX6_deal_X6_handOut rfl rfl rfl hv_X6_handOut ⟨Nat.le_of_ble_eq_true rfl, Nat.le_of_ble_eq_true rfl⟩) (tk_pV hE hP hD 0 rfl rfl) rfl rfl hl.1 rfl (lv_room (Nat.le_of_ble_eq_true rfl)) dX6_deal_61 ⟨Nat.zero_le _, Nat.zero_le _⟩) hD hS hA (fun H locs hP hD hS => ?_)
        refine lv_aload_n hx hb dX6_deal_64 rfl (lv_at hl 0 rfl) ?_
        refine lv_iconst (v := 1) hx hb dX6_deal_65 (by decide) ?_
        refine va_put (D := G) (ci := 6) (v := .int (1 : Int32)) (ty := .int) (C := RX6) (T := TX6) (N := 18) hx hb hts i_X6_deal_X6 tyX6 tyX6_ok nmX6 hown hE.1 hP hD hS 0 rfl rfl 7 (by decide) (hts _ m_X6_deal_f53) (fun _ h9 => h9) rfl (by decide +kernel) rfl rfl (Nat.le_of_ble_eq_true rfl) dX6_deal_66 (fun H locs hP hD hS => ?_)
        have hP : va_P G vwCl (tk_H c3 q (tk_I S15 1 (1 : Int32))) H := hP
        have hD : va_D A (tk_H c3 q (tk_I S15 1 (1 : Int32))) := hD
        refine lv_aload_n hx hb dX6_deal_69 rfl (lv_at hl 0 rfl) ?_
        refine lv_aload_n hx hb dX6_deal_70 rfl (lv_at hl 0 rfl) ?_
        refine va_get (D := G) (ci := 6) (v := .int (S15.1 0)) (C := RX6) (T := TX6) (N := 18) hx hb hts i_X6_deal_X6 hown hE.1 hP 0 rfl rfl 6 (by decide) (hts _ m_X6_deal_f49) (fun _ h9 => h9) rfl dX6_deal_71 ?_
        refine va_put (D := G) (ci := 6) (v := .int (S15.1 0)) (ty := .int) (C := RX6) (T := TX6) (N := 18) hx hb hts i_X6_deal_X6 tyX6 tyX6_ok nmX6 hown hE.1 hP hD hS 0 rfl rfl 8 (by decide) (hts _ m_X6_deal_f56) (fun _ h9 => h9) rfl (by decide +kernel) rfl rfl (Nat.le_of_ble_eq_true rfl) dX6_deal_74 (fun H locs hP hD hS => ?_)
        have hP : va_P G vwCl (tk_H c3 q (tk_I (tk_I S15 1 (1 : Int32)) 2 (S15.1 0))) H := hP
        have hD : va_D A (tk_H c3 q (tk_I (tk_I S15 1 (1 : Int32)) 2 (S15.1 0))) := hD
        refine lv_aload_n hx hb dX6_deal_77 rfl (lv_at hl 0 rfl) ?_
        refine va_get (D := G) (ci := 6) (v := .int (S15.1 0)) (C := RX6) (T := TX6) (N := 18) hx hb hts i_X6_deal_X6 hown hE.1 hP 0 rfl rfl 6 (by decide) (hts _ m_X6_deal_f49) (fun _ h9 => h9) rfl dX6_deal_78 ?_
        exact tk_xri hQ (tk_s3 hf).1 (tk_s3 hf).2.1 (congrArg (tk_H c3 q) (tk_s3 hf).2.2) hx hb hr hlocks hP hD hS dX6_deal_81
      · have hf := tk_neg hf h3
        exact tk_throw (G := G) (c3 := c3) (cls := "java/lang/IllegalStateException") (text := "the latest deal is not over") (ik := 79) (is := 81) (ic := 83) hQ (tk_s3 hf).1 (by decide) ex_2 (congrArg (tk_H c3 q) (tk_s3 hf).2.2) hlst hx hb hown ft_2 (hts _ m_X6_deal_cl79) (hts _ m_X6_deal_ie2) hE st_81 (fun w h => hts w (h_X6_deal_x83 w h)) ng_83 hE.2.1.2.2.2.2.2.2.2.2.2.2.2.1 gd_83 hZ.1 hP hD hS (hl.1.trans hml.symm) dX6_deal_27 dX6_deal_30 dX6_deal_31 dX6_deal_33 dX6_deal_36 hZ.2 (Nat.le_of_ble_eq_true rfl) (Nat.le_of_ble_eq_true rfl) (Nat.le_of_ble_eq_true rfl) (Nat.le_of_ble_eq_true rfl) hlocks
    · have hf := tk_neg hf h2
      exact J_10 S H locs hP hD hS ls (lv_sub hl [] rfl) hf
abbrev rm_X0_enter : Room := { frames := 0, cells := 0, slots := 0, locals := 0 }
set_option maxHeartbeats 4000000 in
set_option maxRecDepth 100000 in
theorem c_X0_enter (l : Launch) (G : va_G) (c3 : ClassId × ClassId × ClassId) (q : Nat → Nat) (S : tk_ST) (p0 : Int32) (p1 : Int32) (S0 : tk_ST) (hf : f_X0_enter p0 p1 S = some S0) : tk_Mv l yX0_enter wsX0_enter rm_X0_enter G c3 [.ref (q 4), .int p0, .int p1] (tk_H c3 q S) (tk_H c3 q S0) := by
  refine tk_ofv (cc := cX0_enter) (maxL := 3) (ret := none) (by decide) rfl (Nat.le_of_ble_eq_true rfl) ?_
  intro p e s m below meth c A Q ls H locs hx hb hml hr hts hown hlocks hE hA hP hD hS hZ hQ hl
  have hl : lv_has ls 3 [(0, .ref (q 4)), (1, .int p0), (2, .int p1)] := hl
  have hown : s.vm.findClass RX0 = some m.cls := hown
  unfold f_X0_enter at hf
  refine lv_iload_n hx hb dX0_enter_0 rfl (lv_at hl 2 rfl) ?_
  refine lv_if_ne (tgt := 19) hx hb dX0_enter_1 (by decide) (fun h1 => ?_) (fun h1 => ?_)
  · have hf := tk_neg hf h1
    refine lv_aload_n hx hb dX0_enter_19 rfl (lv_at hl 0 rfl) ?_
    refine lv_iload_n hx hb dX0_enter_20 rfl (lv_at hl 2 rfl) ?_
    refine va_put (D := G) (ci := 0) (v := .int p1) (ty := .int) (C := RX0) (T := TX0) (N := 3) hx hb hts i_X0_enter_X0 tyX0 tyX0_ok nmX0 hown hE.1 hP hD hS 4 rfl rfl 1 (by decide) (hts _ m_X0_enter_f18) (fun _ h9 => h9) rfl (by decide +kernel) rfl rfl (Nat.le_of_ble_eq_true rfl) dX0_enter_21 (fun H locs hP hD hS => ?_)
    have hP : va_P G vwCl (tk_H c3 q (tk_I S 11 p1)) H := hP
    have hD : va_D A (tk_H c3 q (tk_I S 11 p1)) := hD
    refine lv_aload_n hx hb dX0_enter_24 rfl (lv_at hl 0 rfl) ?_
    refine lv_iload_n hx hb dX0_enter_25 rfl (lv_at hl 1 rfl) ?_
    refine va_put (D := G) (ci := 0) (v := .int p0) (ty := .int) (C := RX0) (T := TX0) (N := 3) hx hb hts i_X0_enter_X0 tyX0 tyX0_ok nmX0 hown hE.1 hP hD hS 4 rfl rfl 2 (by decide) (hts _ m_X0_enter_f9) (fun _ h9 => h9) rfl (by decide +kernel) rfl rfl (Nat.le_of_ble_eq_true rfl) dX0_enter_26 (fun H locs hP hD hS => ?_)
    have hP : va_P G vwCl (tk_H c3 q (tk_I (tk_I S 11 p1) 12 p0)) H := hP
    have hD : va_D A (tk_H c3 q (tk_I (tk_I S 11 p1) 12 p0)) := hD
    exact tk_rv hQ (congrArg (tk_H c3 q) (tk_s1 hf)) hx hb hr hlocks hP hD hS dX0_enter_29
  · have hf := tk_pos hf h1
    refine lv_aload_n hx hb dX0_enter_4 rfl (lv_at hl 0 rfl) ?_
    refine lv_dup hx hb dX0_enter_5 rfl ?_
    refine va_get (D := G) (ci := 0) (v := .int (S.1 10)) (C := RX0) (T := TX0) (N := 3) hx hb hts i_X0_enter_X0 hown hE.1 hP 4 rfl rfl 0 (by decide) (hts _ m_X0_enter_f15) (fun _ h9 => h9) rfl dX0_enter_6 ?_
    refine lv_iconst (v := 1) hx hb dX0_enter_9 (by decide) ?_
    refine lv_iload_n hx hb dX0_enter_10 rfl (lv_at hl 1 rfl) ?_
    refine lv_ishl hx hb dX0_enter_11 ?_
    refine lv_ior hx hb dX0_enter_12 ?_
    refine va_put (D := G) (ci := 0) (v := .int ((S.1 10) ||| ((1 : Int32) <<< (p0 &&& 31)))) (ty := .int) (C := RX0) (T := TX0) (N := 3) hx hb hts i_X0_enter_X0 tyX0 tyX0_ok nmX0 hown hE.1 hP hD hS 4 rfl rfl 0 (by decide) (hts _ m_X0_enter_f15) (fun _ h9 => h9) rfl (by decide +kernel) rfl rfl (Nat.le_of_ble_eq_true rfl) dX0_enter_13 (fun H locs hP hD hS => ?_)
    have hP : va_P G vwCl (tk_H c3 q (tk_I S 10 ((S.1 10) ||| ((1 : Int32) <<< (p0 &&& 31))))) H := hP
    have hD : va_D A (tk_H c3 q (tk_I S 10 ((S.1 10) ||| ((1 : Int32) <<< (p0 &&& 31))))) := hD
    refine lv_goto (tgt := 29) hx hb dX0_enter_16 (by decide) ?_
    exact tk_rv hQ (congrArg (tk_H c3 q) (tk_s1 hf)) hx hb hr hlocks hP hD hS dX0_enter_29
abbrev rm_J6_bitCount_0f7a4 : Room := { frames := 0, cells := 0, slots := 0, locals := 0 }
set_option maxHeartbeats 4000000 in
set_option maxRecDepth 100000 in
theorem c_J6_bitCount_0f7a4 (l : Launch) (G : va_G) (c3 : ClassId × ClassId × ClassId) (ws : va_W) (p0 : Int32) (r0 : Int32) (hf : f_J6_bitCount_0f7a4 p0 = some r0) : tk_Mi l yJ6_bitCount_0f7a4 wsJ6_bitCount_0f7a4 rm_J6_bitCount_0f7a4 G c3 [.int p0] ws ws r0 := by
  refine tk_ofi (cc := cJ6_bitCount_0f7a4) (maxL := 1) (ret := some .int) (by decide) rfl (Nat.le_of_ble_eq_true rfl) ?_
  intro p e s m below meth c A Q ls H locs hx hb hml hr hts hown hlocks hE hA hP hD hS hZ hQ hl
  have hl : lv_has ls 1 [(0, .int p0)] := hl
  have hown : s.vm.findClass RJ6 = some m.cls := hown
  unfold f_J6_bitCount_0f7a4 at hf
  refine lv_iload_n hx hb dJ6_bitCount_0f7a4_0 rfl (lv_at hl 0 rfl) ?_
  refine lv_iload_n hx hb dJ6_bitCount_0f7a4_1 rfl (lv_at hl 0 rfl) ?_
  refine lv_iconst (v := 1) hx hb dJ6_bitCount_0f7a4_2 (by decide) ?_
  refine lv_iushr (v := ((p0).toUInt32 >>> (((1 : Int32)).toUInt32 &&& Int32.toUInt32 31)).toInt32) hx hb dJ6_bitCount_0f7a4_3 rfl ?_
  refine lv_ldcw (v := 1431655765) hx hb hown (hts _ m_J6_bitCount_0f7a4_k265) dJ6_bitCount_0f7a4_4 ?_
  refine lv_iand hx hb dJ6_bitCount_0f7a4_7 ?_
  refine lv_isub hx hb dJ6_bitCount_0f7a4_8 ?_
  refine lv_istore_n (lv' := [(0, .int (p0 - ((((p0).toUInt32 >>> (((1 : Int32)).toUInt32 &&& Int32.toUInt32 31)).toInt32) &&& (1431655765 : Int32))))]) hx hb dJ6_bitCount_0f7a4_9 rfl hl (by decide) rfl (fun ls hl => ?_)
  refine lv_iload_n hx hb dJ6_bitCount_0f7a4_10 rfl (lv_at hl 0 rfl) ?_
  refine lv_ldcw (v := 858993459) hx hb hown (hts _ m_J6_bitCount_0f7a4_k266) dJ6_bitCount_0f7a4_11 ?_
  refine lv_iand hx hb dJ6_bitCount_0f7a4_14 ?_
  refine lv_iload_n hx hb dJ6_bitCount_0f7a4_15 rfl (lv_at hl 0 rfl) ?_
  refine lv_iconst (v := 2) hx hb dJ6_bitCount_0f7a4_16 (by decide) ?_
  refine lv_iushr (v := (((p0 - ((((p0).toUInt32 >>> (((1 : Int32)).toUInt32 &&& Int32.toUInt32 31)).toInt32) &&& (1431655765 : Int32)))).toUInt32 >>> (((2 : Int32)).toUInt32 &&& Int32.toUInt32 31)).toInt32) hx hb dJ6_bitCount_0f7a4_17 rfl ?_
  refine lv_ldcw (v := 858993459) hx hb hown (hts _ m_J6_bitCount_0f7a4_k266) dJ6_bitCount_0f7a4_18 ?_
  refine lv_iand hx hb dJ6_bitCount_0f7a4_21 ?_
  refine lv_iadd hx hb dJ6_bitCount_0f7a4_22 ?_
  refine lv_topi (fun y1 ey1 => ?_)
  have hf := tk_nm hf ey1
  refine lv_istore_n (lv' := [(0, .int y1)]) hx hb dJ6_bitCount_0f7a4_23 rfl hl (by decide) rfl (fun ls hl => ?_)
  refine lv_iload_n hx hb dJ6_bitCount_0f7a4_24 rfl (lv_at hl 0 rfl) ?_
  refine lv_iload_n hx hb dJ6_bitCount_0f7a4_25 rfl (lv_at hl 0 rfl) ?_
  refine lv_iconst (v := 4) hx hb dJ6_bitCount_0f7a4_26 (by decide) ?_
  refine lv_iushr (v := ((y1).toUInt32 >>> (((4 : Int32)).toUInt32 &&& Int32.toUInt32 31)).toInt32) hx hb dJ6_bitCount_0f7a4_27 rfl ?_
  refine lv_iadd hx hb dJ6_bitCount_0f7a4_28 ?_
  refine lv_ldcw (v := 252645135) hx hb hown (hts _ m_J6_bitCount_0f7a4_k267) dJ6_bitCount_0f7a4_29 ?_
  refine lv_iand hx hb dJ6_bitCount_0f7a4_32 ?_
  refine lv_istore_n (lv' := [(0, .int ((y1 + (((y1).toUInt32 >>> (((4 : Int32)).toUInt32 &&& Int32.toUInt32 31)).toInt32)) &&& (252645135 : Int32)))]) hx hb dJ6_bitCount_0f7a4_33 rfl hl (by decide) rfl (fun ls hl => ?_)
  refine lv_iload_n hx hb dJ6_bitCount_0f7a4_34 rfl (lv_at hl 0 rfl) ?_
  refine lv_iload_n hx hb dJ6_bitCount_0f7a4_35 rfl (lv_at hl 0 rfl) ?_
  refine lv_bipush (v := 8) hx hb dJ6_bitCount_0f7a4_36 (by decide) ?_
  refine lv_iushr (v := ((((y1 + (((y1).toUInt32 >>> (((4 : Int32)).toUInt32 &&& Int32.toUInt32 31)).toInt32)) &&& (252645135 : Int32))).toUInt32 >>> (((8 : Int32)).toUInt32 &&& Int32.toUInt32 31)).toInt32) hx hb dJ6_bitCount_0f7a4_38 rfl ?_
  refine lv_iadd hx hb dJ6_bitCount_0f7a4_39 ?_
  refine lv_topi (fun y2 ey2 => ?_)
  have hf := tk_nm hf ey2
  refine lv_istore_n (lv' := [(0, .int y2)]) hx hb dJ6_bitCount_0f7a4_40 rfl hl (by decide) rfl (fun ls hl => ?_)
  refine lv_iload_n hx hb dJ6_bitCount_0f7a4_41 rfl (lv_at hl 0 rfl) ?_
  refine lv_iload_n hx hb dJ6_bitCount_0f7a4_42 rfl (lv_at hl 0 rfl) ?_
  refine lv_bipush (v := 16) hx hb dJ6_bitCount_0f7a4_43 (by decide) ?_
  refine lv_iushr (v := ((y2).toUInt32 >>> (((16 : Int32)).toUInt32 &&& Int32.toUInt32 31)).toInt32) hx hb dJ6_bitCount_0f7a4_45 rfl ?_
  refine lv_iadd hx hb dJ6_bitCount_0f7a4_46 ?_
  refine lv_istore_n (lv' := [(0, .int (y2 + (((y2).toUInt32 >>> (((16 : Int32)).toUInt32 &&& Int32.toUInt32 31)).toInt32)))]) hx hb dJ6_bitCount_0f7a4_47 rfl hl (by decide) rfl (fun ls hl => ?_)
  refine lv_iload_n hx hb dJ6_bitCount_0f7a4_48 rfl (lv_at hl 0 rfl) ?_
  refine lv_bipush (v := 63) hx hb dJ6_bitCount_0f7a4_49 (by decide) ?_
  refine lv_iand hx hb dJ6_bitCount_0f7a4_51 ?_
  exact tk_ri hQ (tk_s1 hf) rfl hx hb hr hlocks hP hD hS dJ6_bitCount_0f7a4_52
abbrev rm_X0_allPassed : Room := { frames := 1, cells := 0, slots := 0, locals := 20 }
set_option maxHeartbeats 4000000 in
set_option maxRecDepth 100000 in
theorem c_X0_allPassed (l : Launch) (G : va_G) (c3 : ClassId × ClassId × ClassId) (q : Nat → Nat) (S : tk_ST) (r0 : Int32) (hf : f_X0_allPassed S = some r0) : tk_Mi l yX0_allPassed wsX0_allPassed rm_X0_allPassed G c3 [.ref (q 4)] (tk_H c3 q S) (tk_H c3 q S) r0 := by
  refine tk_ofi (cc := cX0_allPassed) (maxL := 1) (ret := some .boolean) (by decide) rfl (Nat.le_of_ble_eq_true rfl) ?_
  intro p e s m below meth c A Q ls H locs hx hb hml hr hts hown hlocks hE hA hP hD hS hZ hQ hl
  have hl : lv_has ls 1 [(0, .ref (q 4))] := hl
  have hown : s.vm.findClass RX0 = some m.cls := hown
  unfold f_X0_allPassed at hf
  refine lv_aload_n hx hb dX0_allPassed_0 rfl (lv_at hl 0 rfl) ?_
  refine va_get (D := G) (ci := 0) (v := .int (S.1 10)) (C := RX0) (T := TX0) (N := 3) hx hb hts i_X0_allPassed_X0 hown hE.1 hP 4 rfl rfl 0 (by decide) (hts _ m_X0_allPassed_f15) (fun _ h9 => h9) rfl dX0_allPassed_1 ?_
  obtain ⟨r1, h2, hf⟩ := tk_b1s hf
  refine tk_ci (ws' := (tk_H c3 q S)) (va_runS (As := [.int (S.1 10)]) (rest := []) ⟨hx, hb, hml, hown, hts⟩ (c_J6_bitCount_0f7a4 l G c3 (tk_H c3 q S) (S.1 10) r1 h2 H.size) (va_cwS 1 hts gX0_allPassed_J6_bitCount_0f7a4 rfl rfl rfl hs_J6_bitCount_0f7a4 ⟨Nat.le_of_ble_eq_true rfl, Nat.le_of_ble_eq_true rfl⟩) (tk_pS hE hP hD) rfl rfl hl.1 rfl (lv_room (Nat.le_of_ble_eq_true rfl)) dX0_allPassed_4 ⟨Nat.zero_le _, Nat.zero_le _⟩) hD hS hA (fun H locs hP hD hS => ?_)
  refine lv_iconst (v := 4) hx hb dX0_allPassed_7 (by decide) ?_
  refine lv_icmp_ne (tgt := 15) hx hb dX0_allPassed_8 (by decide) (fun h4 => ?_) (fun h4 => ?_)
  · have hf := tk_neg hf h4
    refine lv_iconst (v := 0) hx hb dX0_allPassed_15 (by decide) ?_
    exact tk_rz hQ (tk_s1 hf) rfl (by decide) hx hb hr hlocks hP hD hS dX0_allPassed_16
  · have hf := tk_pos hf h4
    refine lv_iconst (v := 1) hx hb dX0_allPassed_11 (by decide) ?_
    refine lv_goto (tgt := 16) hx hb dX0_allPassed_12 (by decide) ?_
    exact tk_rz hQ (tk_s1 hf) rfl (by decide) hx hb hr hlocks hP hD hS dX0_allPassed_16
abbrev rm_X6_endDeal : Room := { frames := 0, cells := 0, slots := 0, locals := 0 }
set_option maxHeartbeats 4000000 in
set_option maxRecDepth 100000 in
theorem c_X6_endDeal (l : Launch) (G : va_G) (c3 : ClassId × ClassId × ClassId) (q : Nat → Nat) (S : tk_ST) (S0 : tk_ST) (hf : f_X6_endDeal S = some S0) : tk_Mv l yX6_endDeal wsX6_endDeal rm_X6_endDeal G c3 [.ref (q 0)] (tk_H c3 q S) (tk_H c3 q S0) := by
  refine tk_ofv (cc := cX6_endDeal) (maxL := 1) (ret := none) (by decide) rfl (Nat.le_of_ble_eq_true rfl) ?_
  intro p e s m below meth c A Q ls H locs hx hb hml hr hts hown hlocks hE hA hP hD hS hZ hQ hl
  have hl : lv_has ls 1 [(0, .ref (q 0))] := hl
  have hown : s.vm.findClass RX6 = some m.cls := hown
  unfold f_X6_endDeal at hf
  refine lv_aload_n hx hb dX6_endDeal_0 rfl (lv_at hl 0 rfl) ?_
  refine lv_iconst (v := 0) hx hb dX6_endDeal_1 (by decide) ?_
  refine va_put (D := G) (ci := 6) (v := .int (0 : Int32)) (ty := .int) (C := RX6) (T := TX6) (N := 18) hx hb hts i_X6_endDeal_X6 tyX6 tyX6_ok nmX6 hown hE.1 hP hD hS 0 rfl rfl 7 (by decide) (hts _ m_X6_endDeal_f53) (fun _ h9 => h9) rfl (by decide +kernel) rfl rfl (Nat.le_of_ble_eq_true rfl) dX6_endDeal_2 (fun H locs hP hD hS => ?_)
  have hP : va_P G vwCl (tk_H c3 q (tk_I S 1 (0 : Int32))) H := hP
  have hD : va_D A (tk_H c3 q (tk_I S 1 (0 : Int32))) := hD
  refine lv_aload_n hx hb dX6_endDeal_5 rfl (lv_at hl 0 rfl) ?_
  refine lv_iconst (v := -1) hx hb dX6_endDeal_6 (by decide) ?_
  refine va_put (D := G) (ci := 6) (v := .int (-1 : Int32)) (ty := .int) (C := RX6) (T := TX6) (N := 18) hx hb hts i_X6_endDeal_X6 tyX6 tyX6_ok nmX6 hown hE.1 hP hD hS 0 rfl rfl 8 (by decide) (hts _ m_X6_endDeal_f56) (fun _ h9 => h9) rfl (by decide +kernel) rfl rfl (Nat.le_of_ble_eq_true rfl) dX6_endDeal_7 (fun H locs hP hD hS => ?_)
  have hP : va_P G vwCl (tk_H c3 q (tk_I (tk_I S 1 (0 : Int32)) 2 (-1 : Int32))) H := hP
  have hD : va_D A (tk_H c3 q (tk_I (tk_I S 1 (0 : Int32)) 2 (-1 : Int32))) := hD
  exact tk_rv hQ (congrArg (tk_H c3 q) (tk_s1 hf)) hx hb hr hlocks hP hD hS dX6_endDeal_10
abbrev rm_X0_isSettled : Room := { frames := 1, cells := 0, slots := 0, locals := 20 }
set_option maxHeartbeats 4000000 in
set_option maxRecDepth 100000 in
theorem c_X0_isSettled (l : Launch) (G : va_G) (c3 : ClassId × ClassId × ClassId) (q : Nat → Nat) (S : tk_ST) (r0 : Int32) (hf : f_X0_isSettled S = some r0) : tk_Mi l yX0_isSettled wsX0_isSettled rm_X0_isSettled G c3 [.ref (q 4)] (tk_H c3 q S) (tk_H c3 q S) r0 := by
  refine tk_ofi (cc := cX0_isSettled) (maxL := 1) (ret := some .boolean) (by decide) rfl (Nat.le_of_ble_eq_true rfl) ?_
  intro p e s m below meth c A Q ls H locs hx hb hml hr hts hown hlocks hE hA hP hD hS hZ hQ hl
  have hl : lv_has ls 1 [(0, .ref (q 4))] := hl
  have hown : s.vm.findClass RX0 = some m.cls := hown
  unfold f_X0_isSettled at hf
  refine lv_aload_n hx hb dX0_isSettled_0 rfl (lv_at hl 0 rfl) ?_
  refine va_get (D := G) (ci := 0) (v := .int (S.1 12)) (C := RX0) (T := TX0) (N := 3) hx hb hts i_X0_isSettled_X0 hown hE.1 hP 4 rfl rfl 2 (by decide) (hts _ m_X0_isSettled_f9) (fun _ h9 => h9) rfl dX0_isSettled_1 ?_
  refine lv_iconst (v := -1) hx hb dX0_isSettled_4 (by decide) ?_
  refine lv_icmp_eq (tgt := 23) hx hb dX0_isSettled_5 (by decide) (fun h1 => ?_) (fun h1 => ?_)
  · have hf := tk_pos hf h1
    refine lv_iconst (v := 0) hx hb dX0_isSettled_23 (by decide) ?_
    exact tk_rz hQ (tk_s1 hf) rfl (by decide) hx hb hr hlocks hP hD hS dX0_isSettled_24
  · have hf := tk_neg hf h1
    refine lv_aload_n hx hb dX0_isSettled_8 rfl (lv_at hl 0 rfl) ?_
    refine va_get (D := G) (ci := 0) (v := .int (S.1 10)) (C := RX0) (T := TX0) (N := 3) hx hb hts i_X0_isSettled_X0 hown hE.1 hP 4 rfl rfl 0 (by decide) (hts _ m_X0_isSettled_f15) (fun _ h9 => h9) rfl dX0_isSettled_9 ?_
    obtain ⟨r2, h3, hf⟩ := tk_b1s hf
    refine tk_ci (ws' := (tk_H c3 q S)) (va_runS (As := [.int (S.1 10)]) (rest := []) ⟨hx, hb, hml, hown, hts⟩ (c_J6_bitCount_0f7a4 l G c3 (tk_H c3 q S) (S.1 10) r2 h3 H.size) (va_cwS 1 hts gX0_isSettled_J6_bitCount_0f7a4 rfl rfl rfl hs_J6_bitCount_0f7a4 ⟨Nat.le_of_ble_eq_true rfl, Nat.le_of_ble_eq_true rfl⟩) (tk_pS hE hP hD) rfl rfl hl.1 rfl (lv_room (Nat.le_of_ble_eq_true rfl)) dX0_isSettled_12 ⟨Nat.zero_le _, Nat.zero_le _⟩) hD hS hA (fun H locs hP hD hS => ?_)
    refine lv_iconst (v := 3) hx hb dX0_isSettled_15 (by decide) ?_
    refine lv_icmp_ne (tgt := 23) hx hb dX0_isSettled_16 (by decide) (fun h5 => ?_) (fun h5 => ?_)
    · have hf := tk_neg hf h5
      refine lv_iconst (v := 0) hx hb dX0_isSettled_23 (by decide) ?_
      exact tk_rz hQ (tk_s1 hf) rfl (by decide) hx hb hr hlocks hP hD hS dX0_isSettled_24
    · have hf := tk_pos hf h5
      refine lv_iconst (v := 1) hx hb dX0_isSettled_19 (by decide) ?_
      refine lv_goto (tgt := 24) hx hb dX0_isSettled_20 (by decide) ?_
      exact tk_rz hQ (tk_s1 hf) rfl (by decide) hx hb hr hlocks hP hD hS dX0_isSettled_24
abbrev rm_X6_beginPlay : Room := { frames := 1, cells := 0, slots := 0, locals := 23 }
set_option maxHeartbeats 4000000 in
set_option maxRecDepth 100000 in
theorem c_X6_beginPlay (l : Launch) (G : va_G) (c3 : ClassId × ClassId × ClassId) (q : Nat → Nat) (S : tk_ST) (S0 : tk_ST) (hf : f_X6_beginPlay S = some S0) : tk_Mv l yX6_beginPlay wsX6_beginPlay rm_X6_beginPlay G c3 [.ref (q 0)] (tk_H c3 q S) (tk_H c3 q S0) := by
  refine tk_ofv (cc := cX6_beginPlay) (maxL := 1) (ret := none) (by decide) rfl (Nat.le_of_ble_eq_true rfl) ?_
  intro p e s m below meth c A Q ls H locs hx hb hml hr hts hown hlocks hE hA hP hD hS hZ hQ hl
  have hl : lv_has ls 1 [(0, .ref (q 0))] := hl
  have hown : s.vm.findClass RX6 = some m.cls := hown
  unfold f_X6_beginPlay at hf
  refine lv_aload_n hx hb dX6_beginPlay_0 rfl (lv_at hl 0 rfl) ?_
  refine va_get (D := G) (ci := 6) (v := .ref (q 15)) (C := RX6) (T := TX6) (N := 18) hx hb hts i_X6_beginPlay_X6 hown hE.1 hP 0 rfl rfl 5 (by decide) (hts _ m_X6_beginPlay_f46) (fun _ h9 => h9) rfl dX6_beginPlay_1 ?_
  refine lv_iconst (v := 0) hx hb dX6_beginPlay_4 (by decide) ?_
  refine lv_aload_n hx hb dX6_beginPlay_5 rfl (lv_at hl 0 rfl) ?_
  refine va_get (D := G) (ci := 6) (v := .long (S.2.1 0)) (C := RX6) (T := TX6) (N := 18) hx hb hts i_X6_beginPlay_X6 hown hE.1 hP 0 rfl rfl 14 (by decide) (hts _ m_X6_beginPlay_f191) (fun _ h9 => h9) rfl dX6_beginPlay_6 ?_
  obtain ⟨S3, h2, hf⟩ := tk_b1s hf
  refine tk_cv (ws' := (tk_H c3 q S3)) (va_runV (As := [.int (0 : Int32), .long (S.2.1 0)]) (rest := []) ⟨hx, hb, hml, hown, hts⟩ (c_X3_put_p15 l G c3 q S (0 : Int32) (S.2.1 0) S3 h2 H.size) (cwV 2 hts gX6_beginPlay_X3_put rfl rfl rfl hv_X3_put ⟨Nat.le_of_ble_eq_true rfl, Nat.le_of_ble_eq_true rfl⟩) (tk_pV hE hP hD 15 rfl rfl) rfl rfl hl.1 rfl (lv_room (Nat.le_of_ble_eq_true rfl)) dX6_beginPlay_9 ⟨Nat.zero_le _, Nat.zero_le _⟩) hD hS hA (fun H locs hP hD hS => ?_)
  refine lv_aload_n hx hb dX6_beginPlay_12 rfl (lv_at hl 0 rfl) ?_
  refine va_get (D := G) (ci := 6) (v := .ref (q 15)) (C := RX6) (T := TX6) (N := 18) hx hb hts i_X6_beginPlay_X6 hown hE.1 hP 0 rfl rfl 5 (by decide) (hts _ m_X6_beginPlay_f46) (fun _ h9 => h9) rfl dX6_beginPlay_13 ?_
  refine lv_iconst (v := 1) hx hb dX6_beginPlay_16 (by decide) ?_
  refine lv_aload_n hx hb dX6_beginPlay_17 rfl (lv_at hl 0 rfl) ?_
  refine va_get (D := G) (ci := 6) (v := .long (S3.2.1 1)) (C := RX6) (T := TX6) (N := 18) hx hb hts i_X6_beginPlay_X6 hown hE.1 hP 0 rfl rfl 15 (by decide) (hts _ m_X6_beginPlay_f162) (fun _ h9 => h9) rfl dX6_beginPlay_18 ?_
  obtain ⟨S6, h5, hf⟩ := tk_b1s hf
  refine tk_cv (ws' := (tk_H c3 q S6)) (va_runV (As := [.int (1 : Int32), .long (S3.2.1 1)]) (rest := []) ⟨hx, hb, hml, hown, hts⟩ (c_X3_put_p15 l G c3 q S3 (1 : Int32) (S3.2.1 1) S6 h5 H.size) (cwV 2 hts gX6_beginPlay_X3_put rfl rfl rfl hv_X3_put ⟨Nat.le_of_ble_eq_true rfl, Nat.le_of_ble_eq_true rfl⟩) (tk_pV hE hP hD 15 rfl rfl) rfl rfl hl.1 rfl (lv_room (Nat.le_of_ble_eq_true rfl)) dX6_beginPlay_21 ⟨Nat.zero_le _, Nat.zero_le _⟩) hD hS hA (fun H locs hP hD hS => ?_)
  refine lv_aload_n hx hb dX6_beginPlay_24 rfl (lv_at hl 0 rfl) ?_
  refine lv_iconst (v := 5) hx hb dX6_beginPlay_25 (by decide) ?_
  refine va_put (D := G) (ci := 6) (v := .int (5 : Int32)) (ty := .int) (C := RX6) (T := TX6) (N := 18) hx hb hts i_X6_beginPlay_X6 tyX6 tyX6_ok nmX6 hown hE.1 hP hD hS 0 rfl rfl 7 (by decide) (hts _ m_X6_beginPlay_f53) (fun _ h9 => h9) rfl (by decide +kernel) rfl rfl (Nat.le_of_ble_eq_true rfl) dX6_beginPlay_26 (fun H locs hP hD hS => ?_)
  have hP : va_P G vwCl (tk_H c3 q (tk_I S6 1 (5 : Int32))) H := hP
  have hD : va_D A (tk_H c3 q (tk_I S6 1 (5 : Int32))) := hD
  refine lv_aload_n hx hb dX6_beginPlay_29 rfl (lv_at hl 0 rfl) ?_
  refine lv_aload_n hx hb dX6_beginPlay_30 rfl (lv_at hl 0 rfl) ?_
  refine va_get (D := G) (ci := 6) (v := .int (S6.1 0)) (C := RX6) (T := TX6) (N := 18) hx hb hts i_X6_beginPlay_X6 hown hE.1 hP 0 rfl rfl 6 (by decide) (hts _ m_X6_beginPlay_f49) (fun _ h9 => h9) rfl dX6_beginPlay_31 ?_
  refine va_put (D := G) (ci := 6) (v := .int (S6.1 0)) (ty := .int) (C := RX6) (T := TX6) (N := 18) hx hb hts i_X6_beginPlay_X6 tyX6 tyX6_ok nmX6 hown hE.1 hP hD hS 0 rfl rfl 8 (by decide) (hts _ m_X6_beginPlay_f56) (fun _ h9 => h9) rfl (by decide +kernel) rfl rfl (Nat.le_of_ble_eq_true rfl) dX6_beginPlay_34 (fun H locs hP hD hS => ?_)
  have hP : va_P G vwCl (tk_H c3 q (tk_I (tk_I S6 1 (5 : Int32)) 2 (S6.1 0))) H := hP
  have hD : va_D A (tk_H c3 q (tk_I (tk_I S6 1 (5 : Int32)) 2 (S6.1 0))) := hD
  exact tk_rv hQ (congrArg (tk_H c3 q) (tk_s1 hf)) hx hb hr hlocks hP hD hS dX6_beginPlay_37
abbrev rm_X6_beginGame : Room := { frames := 2, cells := 0, slots := 0, locals := 43 }
set_option maxHeartbeats 4000000 in
set_option maxRecDepth 100000 in
theorem c_X6_beginGame (l : Launch) (G : va_G) (c3 : ClassId × ClassId × ClassId) (q : Nat → Nat) (S : tk_ST) (S0 : tk_ST) (hf : f_X6_beginGame S = some S0) : tk_Mv l yX6_beginGame wsX6_beginGame rm_X6_beginGame G c3 [.ref (q 0)] (tk_H c3 q S) (tk_H c3 q S0) := by
  refine tk_ofv (cc := cX6_beginGame) (maxL := 1) (ret := none) (by decide) rfl (Nat.le_of_ble_eq_true rfl) ?_
  intro p e s m below meth c A Q ls H locs hx hb hml hr hts hown hlocks hE hA hP hD hS hZ hQ hl
  have hl : lv_has ls 1 [(0, .ref (q 0))] := hl
  have hown : s.vm.findClass RX6 = some m.cls := hown
  unfold f_X6_beginGame at hf
  refine lv_aload_n hx hb dX6_beginGame_0 rfl (lv_at hl 0 rfl) ?_
  refine lv_aload_n hx hb dX6_beginGame_1 rfl (lv_at hl 0 rfl) ?_
  refine va_get (D := G) (ci := 6) (v := .ref (q 4)) (C := RX6) (T := TX6) (N := 18) hx hb hts i_X6_beginGame_X6 hown hE.1 hP 0 rfl rfl 1 (by decide) (hts _ m_X6_beginGame_f19) (fun _ h9 => h9) rfl dX6_beginGame_2 ?_
  refine va_getN (D := G) (ci := 0) (v := .int (S.1 12)) (C := RX0) (T := TX0) (N := 3) hx hb hts i_X6_beginGame_X0 hown hE.1 hP 4 rfl rfl 2 (by decide) (va_Nw.use rfl hE.2.1.2.2.2.2.2.1) (fun _ h9 => h9) rfl dX6_beginGame_5 ?_
  refine va_put (D := G) (ci := 6) (v := .int (S.1 12)) (ty := .int) (C := RX6) (T := TX6) (N := 18) hx hb hts i_X6_beginGame_X6 tyX6 tyX6_ok nmX6 hown hE.1 hP hD hS 0 rfl rfl 9 (by decide) (hts _ m_X6_beginGame_f59) (fun _ h9 => h9) rfl (by decide +kernel) rfl rfl (Nat.le_of_ble_eq_true rfl) dX6_beginGame_8 (fun H locs hP hD hS => ?_)
  have hP : va_P G vwCl (tk_H c3 q (tk_I S 3 (S.1 12))) H := hP
  have hD : va_D A (tk_H c3 q (tk_I S 3 (S.1 12))) := hD
  refine lv_aload_n hx hb dX6_beginGame_11 rfl (lv_at hl 0 rfl) ?_
  refine lv_aload_n hx hb dX6_beginGame_12 rfl (lv_at hl 0 rfl) ?_
  refine va_get (D := G) (ci := 6) (v := .int (S.1 12)) (C := RX6) (T := TX6) (N := 18) hx hb hts i_X6_beginGame_X6 hown hE.1 hP 0 rfl rfl 9 (by decide) (hts _ m_X6_beginGame_f59) (fun _ h9 => h9) rfl dX6_beginGame_13 ?_
  refine va_put (D := G) (ci := 6) (v := .int (S.1 12)) (ty := .int) (C := RX6) (T := TX6) (N := 18) hx hb hts i_X6_beginGame_X6 tyX6 tyX6_ok nmX6 hown hE.1 hP hD hS 0 rfl rfl 8 (by decide) (hts _ m_X6_beginGame_f56) (fun _ h9 => h9) rfl (by decide +kernel) rfl rfl (Nat.le_of_ble_eq_true rfl) dX6_beginGame_16 (fun H locs hP hD hS => ?_)
  have hP : va_P G vwCl (tk_H c3 q (tk_I (tk_I S 3 (S.1 12)) 2 (S.1 12))) H := hP
  have hD : va_D A (tk_H c3 q (tk_I (tk_I S 3 (S.1 12)) 2 (S.1 12))) := hD
  refine lv_aload_n hx hb dX6_beginGame_19 rfl (lv_at hl 0 rfl) ?_
  refine va_get (D := G) (ci := 6) (v := .ref (q 4)) (C := RX6) (T := TX6) (N := 18) hx hb hts i_X6_beginGame_X6 hown hE.1 hP 0 rfl rfl 1 (by decide) (hts _ m_X6_beginGame_f19) (fun _ h9 => h9) rfl dX6_beginGame_20 ?_
  refine va_getN (D := G) (ci := 0) (v := .int (S.1 11)) (C := RX0) (T := TX0) (N := 3) hx hb hts i_X6_beginGame_X0 hown hE.1 hP 4 rfl rfl 1 (by decide) (va_Nw.use rfl hE.2.1.1) (fun _ h9 => h9) rfl dX6_beginGame_23 ?_
  refine lv_iconst (v := 3) hx hb dX6_beginGame_26 (by decide) ?_
  refine lv_icmp_gt (tgt := 38) hx hb dX6_beginGame_27 (by decide) (fun h1 => ?_) (fun h1 => ?_)
  · have hf := tk_pos hf h1
    refine lv_aload_n hx hb dX6_beginGame_38 rfl (lv_at hl 0 rfl) ?_
    refine va_get (D := G) (ci := 6) (v := .ref (q 4)) (C := RX6) (T := TX6) (N := 18) hx hb hts i_X6_beginGame_X6 hown hE.1 hP 0 rfl rfl 1 (by decide) (hts _ m_X6_beginGame_f19) (fun _ h9 => h9) rfl dX6_beginGame_39 ?_
    refine va_getN (D := G) (ci := 0) (v := .int (S.1 11)) (C := RX0) (T := TX0) (N := 3) hx hb hts i_X6_beginGame_X0 hown hE.1 hP 4 rfl rfl 1 (by decide) (va_Nw.use rfl hE.2.1.1) (fun _ h9 => h9) rfl dX6_beginGame_42 ?_
    refine lv_iconst (v := 4) hx hb dX6_beginGame_45 (by decide) ?_
    refine lv_icmp_gt (tgt := 57) hx hb dX6_beginGame_46 (by decide) (fun h2 => ?_) (fun h2 => ?_)
    · have hf := tk_pos hf h2
      refine lv_aload_n hx hb dX6_beginGame_57 rfl (lv_at hl 0 rfl) ?_
      obtain ⟨S5, h4, hf⟩ := tk_b1s hf
      refine tk_cv (ws' := (tk_H c3 q S5)) (va_runV (As := []) (rest := []) ⟨hx, hb, hml, hown, hts⟩ (c_X6_beginPlay l G c3 q (tk_I (tk_I S 3 (S.1 12)) 2 (S.1 12)) S5 h4 H.size) (cwV 0 hts gX6_beginGame_X6_beginPlay rfl rfl rfl hv_X6_beginPlay ⟨Nat.le_of_ble_eq_true rfl, Nat.le_of_ble_eq_true rfl⟩) (tk_pV hE hP hD 0 rfl rfl) rfl rfl hl.1 rfl (lv_room (Nat.le_of_ble_eq_true rfl)) dX6_beginGame_58 ⟨Nat.zero_le _, Nat.zero_le _⟩) hD hS hA (fun H locs hP hD hS => ?_)
      exact tk_rv hQ (congrArg (tk_H c3 q) (tk_s1 hf)) hx hb hr hlocks hP hD hS dX6_beginGame_61
    · have hf := tk_neg hf h2
      refine lv_aload_n hx hb dX6_beginGame_49 rfl (lv_at hl 0 rfl) ?_
      refine lv_iconst (v := 3) hx hb dX6_beginGame_50 (by decide) ?_
      refine va_put (D := G) (ci := 6) (v := .int (3 : Int32)) (ty := .int) (C := RX6) (T := TX6) (N := 18) hx hb hts i_X6_beginGame_X6 tyX6 tyX6_ok nmX6 hown hE.1 hP hD hS 0 rfl rfl 7 (by decide) (hts _ m_X6_beginGame_f53) (fun _ h9 => h9) rfl (by decide +kernel) rfl rfl (Nat.le_of_ble_eq_true rfl) dX6_beginGame_51 (fun H locs hP hD hS => ?_)
      have hP : va_P G vwCl (tk_H c3 q (tk_I (tk_I (tk_I S 3 (S.1 12)) 2 (S.1 12)) 1 (3 : Int32))) H := hP
      have hD : va_D A (tk_H c3 q (tk_I (tk_I (tk_I S 3 (S.1 12)) 2 (S.1 12)) 1 (3 : Int32))) := hD
      refine lv_goto (tgt := 61) hx hb dX6_beginGame_54 (by decide) ?_
      exact tk_rv hQ (congrArg (tk_H c3 q) (tk_s1 hf)) hx hb hr hlocks hP hD hS dX6_beginGame_61
  · have hf := tk_neg hf h1
    refine lv_aload_n hx hb dX6_beginGame_30 rfl (lv_at hl 0 rfl) ?_
    refine lv_iconst (v := 2) hx hb dX6_beginGame_31 (by decide) ?_
    refine va_put (D := G) (ci := 6) (v := .int (2 : Int32)) (ty := .int) (C := RX6) (T := TX6) (N := 18) hx hb hts i_X6_beginGame_X6 tyX6 tyX6_ok nmX6 hown hE.1 hP hD hS 0 rfl rfl 7 (by decide) (hts _ m_X6_beginGame_f53) (fun _ h9 => h9) rfl (by decide +kernel) rfl rfl (Nat.le_of_ble_eq_true rfl) dX6_beginGame_32 (fun H locs hP hD hS => ?_)
    have hP : va_P G vwCl (tk_H c3 q (tk_I (tk_I (tk_I S 3 (S.1 12)) 2 (S.1 12)) 1 (2 : Int32))) H := hP
    have hD : va_D A (tk_H c3 q (tk_I (tk_I (tk_I S 3 (S.1 12)) 2 (S.1 12)) 1 (2 : Int32))) := hD
    refine lv_goto (tgt := 61) hx hb dX6_beginGame_35 (by decide) ?_
    exact tk_rv hQ (congrArg (tk_H c3 q) (tk_s1 hf)) hx hb hr hlocks hP hD hS dX6_beginGame_61
abbrev rm_X0_hasPassed : Room := { frames := 0, cells := 0, slots := 0, locals := 0 }
set_option maxHeartbeats 4000000 in
set_option maxRecDepth 100000 in
theorem c_X0_hasPassed (l : Launch) (G : va_G) (c3 : ClassId × ClassId × ClassId) (q : Nat → Nat) (S : tk_ST) (p0 : Int32) (r0 : Int32) (hf : f_X0_hasPassed p0 S = some r0) : tk_Mi l yX0_hasPassed wsX0_hasPassed rm_X0_hasPassed G c3 [.ref (q 4), .int p0] (tk_H c3 q S) (tk_H c3 q S) r0 := by
  refine tk_ofi (cc := cX0_hasPassed) (maxL := 2) (ret := some .boolean) (by decide) rfl (Nat.le_of_ble_eq_true rfl) ?_
  intro p e s m below meth c A Q ls H locs hx hb hml hr hts hown hlocks hE hA hP hD hS hZ hQ hl
  have hl : lv_has ls 2 [(0, .ref (q 4)), (1, .int p0)] := hl
  have hown : s.vm.findClass RX0 = some m.cls := hown
  unfold f_X0_hasPassed at hf
  refine lv_aload_n hx hb dX0_hasPassed_0 rfl (lv_at hl 0 rfl) ?_
  refine va_get (D := G) (ci := 0) (v := .int (S.1 10)) (C := RX0) (T := TX0) (N := 3) hx hb hts i_X0_hasPassed_X0 hown hE.1 hP 4 rfl rfl 0 (by decide) (hts _ m_X0_hasPassed_f15) (fun _ h9 => h9) rfl dX0_hasPassed_1 ?_
  refine lv_iload_n hx hb dX0_hasPassed_4 rfl (lv_at hl 1 rfl) ?_
  refine lv_ishr hx hb dX0_hasPassed_5 ?_
  refine lv_iconst (v := 1) hx hb dX0_hasPassed_6 (by decide) ?_
  refine lv_iand hx hb dX0_hasPassed_7 ?_
  refine lv_iconst (v := 1) hx hb dX0_hasPassed_8 (by decide) ?_
  refine lv_icmp_ne (tgt := 16) hx hb dX0_hasPassed_9 (by decide) (fun h1 => ?_) (fun h1 => ?_)
  · have hf := tk_neg hf h1
    refine lv_iconst (v := 0) hx hb dX0_hasPassed_16 (by decide) ?_
    exact tk_rz hQ (tk_s1 hf) rfl (by decide) hx hb hr hlocks hP hD hS dX0_hasPassed_17
  · have hf := tk_pos hf h1
    refine lv_iconst (v := 1) hx hb dX0_hasPassed_12 (by decide) ?_
    refine lv_goto (tgt := 17) hx hb dX0_hasPassed_13 (by decide) ?_
    exact tk_rz hQ (tk_s1 hf) rfl (by decide) hx hb hr hlocks hP hD hS dX0_hasPassed_17
abbrev rm_X0_nextBehind : Room := { frames := 1, cells := 0, slots := 0, locals := 21 }
set_option maxHeartbeats 4000000 in
set_option maxRecDepth 100000 in
theorem c_X0_nextBehind (l : Launch) (G : va_G) (c3 : ClassId × ClassId × ClassId) (q : Nat → Nat) (S : tk_ST) (p0 : Int32) (r0 : Int32) (hf : f_X0_nextBehind p0 S = some r0) : tk_Mi l yX0_nextBehind wsX0_nextBehind rm_X0_nextBehind G c3 [.ref (q 4), .int p0] (tk_H c3 q S) (tk_H c3 q S) r0 := by
  refine tk_ofi (cc := cX0_nextBehind) (maxL := 4) (ret := some .int) (by decide) rfl (Nat.le_of_ble_eq_true rfl) ?_
  intro p e s m below meth c A Q ls H locs hx hb hml hr hts hown hlocks hE hA hP hD hS hZ hQ hl
  have hl : lv_has ls 4 [(0, .ref (q 4)), (1, .int p0)] := hl
  have hown : s.vm.findClass RX0 = some m.cls := hown
  have J_7 : ∀ (n_7 : Nat), ∀ (x2_7 : Int32) (x3_7 : Int32) (H : Heap) (locs : List Loc) (_ : va_P G vwCl (tk_H c3 q S) H) (_ : va_D A (tk_H c3 q S)) (_ : va_S A s.heap H locs) (ls : Array Slot) (_ : lv_has ls 4 [(0, .ref (q 4)), (2, .int x2_7), (3, .int x3_7)]) (_ : f_X0_nextBehind_7 n_7 x2_7 x3_7 S = some r0), W p l e rm_X0_nextBehind s m ([.ref (q 4), .int p0] : List Value).toArray below meth c H locs 0 0 Q (F0 m 7 ls []) := by
    intro n_7
    induction n_7 with
    | zero =>
      intro x2_7 x3_7 H locs hP hD hS ls hl hf
      exact absurd hf (by intro h9; cases h9)
    | succ n_7 ih_7 =>
      intro x2_7 x3_7 H locs hP hD hS ls hl hf
      rw [f_X0_nextBehind_7_s] at hf
      refine lv_iload_n hx hb dX0_nextBehind_7 rfl (lv_at hl 2 rfl) ?_
      refine lv_iconst (v := 4) hx hb dX0_nextBehind_8 (by decide) ?_
      refine lv_icmp_ge (tgt := 31) hx hb dX0_nextBehind_9 (by decide) (fun h1 => ?_) (fun h1 => ?_)
      · have hf := tk_pos hf h1
        refine lv_iload_n hx hb dX0_nextBehind_31 rfl (lv_at hl 1 rfl) ?_
        exact tk_ri hQ (tk_s1 hf) rfl hx hb hr hlocks hP hD hS dX0_nextBehind_32
      · have hf := tk_neg hf h1
        refine lv_aload_n hx hb dX0_nextBehind_12 rfl (lv_at hl 0 rfl) ?_
        refine lv_iload_n hx hb dX0_nextBehind_13 rfl (lv_at hl 1 rfl) ?_
        obtain ⟨r2, h3, hf⟩ := tk_b1s hf
        refine tk_ci (ws' := (tk_H c3 q S)) (va_runV (As := [.int x2_7]) (rest := []) ⟨hx, hb, hml, hown, hts⟩ (c_X0_hasPassed l G c3 q S x2_7 r2 h3 H.size) (cwV 1 hts gX0_nextBehind_X0_hasPassed rfl rfl rfl hv_X0_hasPassed ⟨Nat.le_of_ble_eq_true rfl, Nat.le_of_ble_eq_true rfl⟩) (tk_pV hE hP hD 4 rfl rfl) rfl rfl hl.1 rfl (lv_room (Nat.le_of_ble_eq_true rfl)) dX0_nextBehind_14 ⟨Nat.zero_le _, Nat.zero_le _⟩) hD hS hA (fun H locs hP hD hS => ?_)
        refine lv_if_eq (tgt := 31) hx hb dX0_nextBehind_17 (by decide) (fun h5 => ?_) (fun h5 => ?_)
        · have hf := tk_pos hf h5
          refine lv_iload_n hx hb dX0_nextBehind_31 rfl (lv_at hl 1 rfl) ?_
          exact tk_ri hQ (tk_s1 hf) rfl hx hb hr hlocks hP hD hS dX0_nextBehind_32
        · have hf := tk_neg hf h5
          refine lv_iload_n hx hb dX0_nextBehind_20 rfl (lv_at hl 1 rfl) ?_
          obtain ⟨r6, h7, hf⟩ := tk_b1s hf
          refine tk_ci (ws' := (tk_H c3 q S)) (va_runSN (As := [.int x2_7]) (rest := []) ⟨hx, hb, hml, hown, hts⟩ (c_X6_behind l G c3 (tk_H c3 q S) x2_7 r6 h7 H.size) ⟨va_cnB 1 hts gX0_nextBehind_X6_behind_n27 rfl rfl rfl hE.2.1.2.2.2.2.2.2.1 (hts _ m_X0_nextBehind_iX6) hs_X6_behind ⟨Nat.le_of_ble_eq_true rfl, Nat.le_of_ble_eq_true rfl⟩, (hts _ m_X0_nextBehind_st_X6_behind), trivial⟩ (tk_pS hE hP hD) rfl rfl hl.1 rfl (lv_room (Nat.le_of_ble_eq_true rfl)) dX0_nextBehind_21 ⟨Nat.zero_le _, Nat.zero_le _⟩) hD hS hA (fun H locs hP hD hS => ?_)
          refine lv_istore_n (lv' := [(2, .int r6), (0, .ref (q 4)), (3, .int x3_7)]) hx hb dX0_nextBehind_24 rfl hl (by decide) rfl (fun ls hl => ?_)
          refine lv_iinc (v := (x3_7 + (1 : Int32))) (lv' := [(3, .int (x3_7 + (1 : Int32))), (2, .int r6), (0, .ref (q 4))]) hx hb dX0_nextBehind_25 hl (k := 2) rfl rfl (by decide) rfl (fun ls hl => ?_)
          refine lv_goto (tgt := 7) hx hb dX0_nextBehind_28 (by decide) ?_
          exact ih_7 r6 (x3_7 + (1 : Int32)) H locs hP hD hS ls (lv_sub hl [2, 1, 0] rfl) hf
  unfold f_X0_nextBehind at hf
  refine lv_iload_n hx hb dX0_nextBehind_0 rfl (lv_at hl 1 rfl) ?_
  obtain ⟨r9, h10, hf⟩ := tk_b1s hf
  refine tk_ci (ws' := (tk_H c3 q S)) (va_runSN (As := [.int p0]) (rest := []) ⟨hx, hb, hml, hown, hts⟩ (c_X6_behind l G c3 (tk_H c3 q S) p0 r9 h10 H.size) ⟨va_cnB 1 hts gX0_nextBehind_X6_behind_n27 rfl rfl rfl hE.2.1.2.2.2.2.2.2.1 (hts _ m_X0_nextBehind_iX6) hs_X6_behind ⟨Nat.le_of_ble_eq_true rfl, Nat.le_of_ble_eq_true rfl⟩, (hts _ m_X0_nextBehind_st_X6_behind), trivial⟩ (tk_pS hE hP hD) rfl rfl hl.1 rfl (lv_room (Nat.le_of_ble_eq_true rfl)) dX0_nextBehind_1 ⟨Nat.zero_le _, Nat.zero_le _⟩) hD hS hA (fun H locs hP hD hS => ?_)
  refine lv_istore_n (lv' := [(2, .int r9), (0, .ref (q 4)), (1, .int p0)]) hx hb dX0_nextBehind_4 rfl hl (by decide) rfl (fun ls hl => ?_)
  refine lv_iconst (v := 1) hx hb dX0_nextBehind_5 (by decide) ?_
  refine lv_istore_n (lv' := [(3, .int (1 : Int32)), (2, .int r9), (0, .ref (q 4)), (1, .int p0)]) hx hb dX0_nextBehind_6 rfl hl (by decide) rfl (fun ls hl => ?_)
  exact J_7 64 r9 (1 : Int32) H locs hP hD hS ls (lv_sub hl [2, 1, 0] rfl) hf
abbrev rm_X6_bid : Room := { frames := 6, cells := 1, slots := 6, locals := 90 }
set_option maxHeartbeats 4000000 in
set_option maxRecDepth 100000 in
theorem c_X6_bid (l : Launch) (hlst : l.stackTraces = false) (G : va_G) (c3 : ClassId × ClassId × ClassId) (q : Nat → Nat) (S : tk_ST) (p0 : Int32) (k0 : Int32) (r0 : Int32) (S0 : tk_ST) (hf : f_X6_bid p0 S = some (k0, r0, S0)) : tk_Xi l yX6_bid wsX6_bid rm_X6_bid G c3 [.ref (q 0), .int p0] (tk_H c3 q S) (tk_H c3 q S0) k0 r0 := by
  refine tk_ofXi (cc := cX6_bid) (maxL := 2) (ret := some .int) (by decide) rfl (Nat.le_of_ble_eq_true rfl) ?_
  intro p e s m below meth c A Q ls H locs hx hb hml hr hts hown hlocks hE hA hP hD hS hZ hQ hl
  have hl : lv_has ls 2 [(0, .ref (q 0)), (1, .int p0)] := hl
  have hown : s.vm.findClass RX6 = some m.cls := hown
  have J_9 : ∀ (S_9 : tk_ST) (H : Heap) (locs : List Loc) (_ : va_P G vwCl (tk_H c3 q S_9) H) (_ : va_D A (tk_H c3 q S_9)) (_ : va_S A s.heap H locs) (ls : Array Slot) (_ : lv_has ls 2 []) (_ : f_X6_bid_9 S_9 = some (k0, r0, S0)), W p l e rm_X6_bid s m ([.ref (q 0), .int p0] : List Value).toArray below meth c H locs 0 0 Q (F0 m 9 ls []) := by
    intro S_9 H locs hP hD hS ls hl hf
    unfold f_X6_bid_9 at hf
    exact tk_throw (G := G) (c3 := c3) (cls := "java/lang/IllegalArgumentException") (text := "no such level") (ik := 72) (is := 97) (ic := 76) hQ (tk_s3 hf).1 (by decide) ex_1 (congrArg (tk_H c3 q) (tk_s3 hf).2.2) hlst hx hb hown ft_1 (hts _ m_X6_bid_cl72) (hts _ m_X6_bid_ie1) hE st_97 (fun w h => hts w (h_X6_bid_x76 w h)) ng_76 hE.2.1.2.2.2.2.2.2.2.2.2.2.1 gd_76 hZ.1 hP hD hS (hl.1.trans hml.symm) dX6_bid_9 dX6_bid_12 dX6_bid_13 dX6_bid_15 dX6_bid_18 hZ.2 (Nat.le_of_ble_eq_true rfl) (Nat.le_of_ble_eq_true rfl) (Nat.le_of_ble_eq_true rfl) (Nat.le_of_ble_eq_true rfl) hlocks
  have J_62 : ∀ (x1_62 : Int32) (S_62 : tk_ST) (H : Heap) (locs : List Loc) (_ : va_P G vwCl (tk_H c3 q S_62) H) (_ : va_D A (tk_H c3 q S_62)) (_ : va_S A s.heap H locs) (ls : Array Slot) (_ : lv_has ls 2 [(0, .ref (q 0)), (1, .int x1_62)]) (_ : f_X6_bid_62 x1_62 S_62 = some (k0, r0, S0)), W p l e rm_X6_bid s m ([.ref (q 0), .int p0] : List Value).toArray below meth c H locs 0 0 Q (F0 m 62 ls []) := by
    intro x1_62 S_62 H locs hP hD hS ls hl hf
    unfold f_X6_bid_62 at hf
    refine lv_aload_n hx hb dX6_bid_62 rfl (lv_at hl 0 rfl) ?_
    refine va_get (D := G) (ci := 6) (v := .ref (q 4)) (C := RX6) (T := TX6) (N := 18) hx hb hts i_X6_bid_X6 hown hE.1 hP 0 rfl rfl 1 (by decide) (hts _ m_X6_bid_f19) (fun _ h9 => h9) rfl dX6_bid_63 ?_
    refine lv_aload_n hx hb dX6_bid_66 rfl (lv_at hl 0 rfl) ?_
    refine va_get (D := G) (ci := 6) (v := .int (S_62.1 2)) (C := RX6) (T := TX6) (N := 18) hx hb hts i_X6_bid_X6 hown hE.1 hP 0 rfl rfl 8 (by decide) (hts _ m_X6_bid_f56) (fun _ h9 => h9) rfl dX6_bid_67 ?_
    refine lv_iload_n hx hb dX6_bid_70 rfl (lv_at hl 1 rfl) ?_
    obtain ⟨S3, h2, hf⟩ := tk_b1s hf
    refine tk_cv (ws' := (tk_H c3 q S3)) (va_runV (As := [.int (S_62.1 2), .int x1_62]) (rest := []) ⟨hx, hb, hml, hown, hts⟩ (c_X0_enter l G c3 q S_62 (S_62.1 2) x1_62 S3 h2 H.size) (cwV 2 hts gX6_bid_X0_enter rfl rfl rfl hv_X0_enter ⟨Nat.le_of_ble_eq_true rfl, Nat.le_of_ble_eq_true rfl⟩) (tk_pV hE hP hD 4 rfl rfl) rfl rfl hl.1 rfl (lv_room (Nat.le_of_ble_eq_true rfl)) dX6_bid_71 ⟨Nat.zero_le _, Nat.zero_le _⟩) hD hS hA (fun H locs hP hD hS => ?_)
    refine lv_aload_n hx hb dX6_bid_74 rfl (lv_at hl 0 rfl) ?_
    refine va_get (D := G) (ci := 6) (v := .ref (q 4)) (C := RX6) (T := TX6) (N := 18) hx hb hts i_X6_bid_X6 hown hE.1 hP 0 rfl rfl 1 (by decide) (hts _ m_X6_bid_f19) (fun _ h9 => h9) rfl dX6_bid_75 ?_
    obtain ⟨r4, h5, hf⟩ := tk_b1s hf
    refine tk_ci (ws' := (tk_H c3 q S3)) (va_runV (As := []) (rest := []) ⟨hx, hb, hml, hown, hts⟩ (c_X0_allPassed l G c3 q S3 r4 h5 H.size) (cwV 0 hts gX6_bid_X0_allPassed rfl rfl rfl hv_X0_allPassed ⟨Nat.le_of_ble_eq_true rfl, Nat.le_of_ble_eq_true rfl⟩) (tk_pV hE hP hD 4 rfl rfl) rfl rfl hl.1 rfl (lv_room (Nat.le_of_ble_eq_true rfl)) dX6_bid_78 ⟨Nat.zero_le _, Nat.zero_le _⟩) hD hS hA (fun H locs hP hD hS => ?_)
    refine lv_if_eq (tgt := 91) hx hb dX6_bid_81 (by decide) (fun h7 => ?_) (fun h7 => ?_)
    · have hf := tk_pos hf h7
      refine lv_aload_n hx hb dX6_bid_91 rfl (lv_at hl 0 rfl) ?_
      refine va_get (D := G) (ci := 6) (v := .ref (q 4)) (C := RX6) (T := TX6) (N := 18) hx hb hts i_X6_bid_X6 hown hE.1 hP 0 rfl rfl 1 (by decide) (hts _ m_X6_bid_f19) (fun _ h9 => h9) rfl dX6_bid_92 ?_
      obtain ⟨r8, h9, hf⟩ := tk_b1s hf
      refine tk_ci (ws' := (tk_H c3 q S3)) (va_runV (As := []) (rest := []) ⟨hx, hb, hml, hown, hts⟩ (c_X0_isSettled l G c3 q S3 r8 h9 H.size) (cwV 0 hts gX6_bid_X0_isSettled rfl rfl rfl hv_X0_isSettled ⟨Nat.le_of_ble_eq_true rfl, Nat.le_of_ble_eq_true rfl⟩) (tk_pV hE hP hD 4 rfl rfl) rfl rfl hl.1 rfl (lv_room (Nat.le_of_ble_eq_true rfl)) dX6_bid_95 ⟨Nat.zero_le _, Nat.zero_le _⟩) hD hS hA (fun H locs hP hD hS => ?_)
      refine lv_if_eq (tgt := 108) hx hb dX6_bid_98 (by decide) (fun h11 => ?_) (fun h11 => ?_)
      · have hf := tk_pos hf h11
        refine lv_aload_n hx hb dX6_bid_108 rfl (lv_at hl 0 rfl) ?_
        refine lv_aload_n hx hb dX6_bid_109 rfl (lv_at hl 0 rfl) ?_
        refine va_get (D := G) (ci := 6) (v := .ref (q 4)) (C := RX6) (T := TX6) (N := 18) hx hb hts i_X6_bid_X6 hown hE.1 hP 0 rfl rfl 1 (by decide) (hts _ m_X6_bid_f19) (fun _ h9 => h9) rfl dX6_bid_110 ?_
        refine lv_aload_n hx hb dX6_bid_113 rfl (lv_at hl 0 rfl) ?_
        refine va_get (D := G) (ci := 6) (v := .int (S3.1 2)) (C := RX6) (T := TX6) (N := 18) hx hb hts i_X6_bid_X6 hown hE.1 hP 0 rfl rfl 8 (by decide) (hts _ m_X6_bid_f56) (fun _ h9 => h9) rfl dX6_bid_114 ?_
        obtain ⟨r12, h13, hf⟩ := tk_b1s hf
        refine tk_ci (ws' := (tk_H c3 q S3)) (va_runV (As := [.int (S3.1 2)]) (rest := [.ref (q 0)]) ⟨hx, hb, hml, hown, hts⟩ (c_X0_nextBehind l G c3 q S3 (S3.1 2) r12 h13 H.size) (cwV 1 hts gX6_bid_X0_nextBehind rfl rfl rfl hv_X0_nextBehind ⟨Nat.le_of_ble_eq_true rfl, Nat.le_of_ble_eq_true rfl⟩) (tk_pV hE hP hD 4 rfl rfl) rfl rfl hl.1 rfl (lv_room (Nat.le_of_ble_eq_true rfl)) dX6_bid_117 ⟨Nat.zero_le _, Nat.zero_le _⟩) hD hS hA (fun H locs hP hD hS => ?_)
        refine va_put (D := G) (ci := 6) (v := .int r12) (ty := .int) (C := RX6) (T := TX6) (N := 18) hx hb hts i_X6_bid_X6 tyX6 tyX6_ok nmX6 hown hE.1 hP hD hS 0 rfl rfl 8 (by decide) (hts _ m_X6_bid_f56) (fun _ h9 => h9) rfl (by decide +kernel) rfl rfl (Nat.le_of_ble_eq_true rfl) dX6_bid_120 (fun H locs hP hD hS => ?_)
        have hP : va_P G vwCl (tk_H c3 q (tk_I S3 2 r12)) H := hP
        have hD : va_D A (tk_H c3 q (tk_I S3 2 r12)) := hD
        refine lv_aload_n hx hb dX6_bid_123 rfl (lv_at hl 0 rfl) ?_
        refine va_get (D := G) (ci := 6) (v := .int (S3.1 1)) (C := RX6) (T := TX6) (N := 18) hx hb hts i_X6_bid_X6 hown hE.1 hP 0 rfl rfl 7 (by decide) (hts _ m_X6_bid_f53) (fun _ h9 => h9) rfl dX6_bid_124 ?_
        exact tk_xri hQ (tk_s3 hf).1 (tk_s3 hf).2.1 (congrArg (tk_H c3 q) (tk_s3 hf).2.2) hx hb hr hlocks hP hD hS dX6_bid_127
      · have hf := tk_neg hf h11
        refine lv_aload_n hx hb dX6_bid_101 rfl (lv_at hl 0 rfl) ?_
        obtain ⟨S17, h16, hf⟩ := tk_b1s hf
        refine tk_cv (ws' := (tk_H c3 q S17)) (va_runV (As := []) (rest := []) ⟨hx, hb, hml, hown, hts⟩ (c_X6_beginGame l G c3 q S3 S17 h16 H.size) (cwV 0 hts gX6_bid_X6_beginGame rfl rfl rfl hv_X6_beginGame ⟨Nat.le_of_ble_eq_true rfl, Nat.le_of_ble_eq_true rfl⟩) (tk_pV hE hP hD 0 rfl rfl) rfl rfl hl.1 rfl (lv_room (Nat.le_of_ble_eq_true rfl)) dX6_bid_102 ⟨Nat.zero_le _, Nat.zero_le _⟩) hD hS hA (fun H locs hP hD hS => ?_)
        refine lv_goto (tgt := 123) hx hb dX6_bid_105 (by decide) ?_
        refine lv_aload_n hx hb dX6_bid_123 rfl (lv_at hl 0 rfl) ?_
        refine va_get (D := G) (ci := 6) (v := .int (S17.1 1)) (C := RX6) (T := TX6) (N := 18) hx hb hts i_X6_bid_X6 hown hE.1 hP 0 rfl rfl 7 (by decide) (hts _ m_X6_bid_f53) (fun _ h9 => h9) rfl dX6_bid_124 ?_
        exact tk_xri hQ (tk_s3 hf).1 (tk_s3 hf).2.1 (congrArg (tk_H c3 q) (tk_s3 hf).2.2) hx hb hr hlocks hP hD hS dX6_bid_127
    · have hf := tk_neg hf h7
      refine lv_aload_n hx hb dX6_bid_84 rfl (lv_at hl 0 rfl) ?_
      obtain ⟨S20, h19, hf⟩ := tk_b1s hf
      refine tk_cv (ws' := (tk_H c3 q S20)) (va_runV (As := []) (rest := []) ⟨hx, hb, hml, hown, hts⟩ (c_X6_endDeal l G c3 q S3 S20 h19 H.size) (cwV 0 hts gX6_bid_X6_endDeal rfl rfl rfl hv_X6_endDeal ⟨Nat.le_of_ble_eq_true rfl, Nat.le_of_ble_eq_true rfl⟩) (tk_pV hE hP hD 0 rfl rfl) rfl rfl hl.1 rfl (lv_room (Nat.le_of_ble_eq_true rfl)) dX6_bid_85 ⟨Nat.zero_le _, Nat.zero_le _⟩) hD hS hA (fun H locs hP hD hS => ?_)
      refine lv_goto (tgt := 123) hx hb dX6_bid_88 (by decide) ?_
      refine lv_aload_n hx hb dX6_bid_123 rfl (lv_at hl 0 rfl) ?_
      refine va_get (D := G) (ci := 6) (v := .int (S20.1 1)) (C := RX6) (T := TX6) (N := 18) hx hb hts i_X6_bid_X6 hown hE.1 hP 0 rfl rfl 7 (by decide) (hts _ m_X6_bid_f53) (fun _ h9 => h9) rfl dX6_bid_124 ?_
      exact tk_xri hQ (tk_s3 hf).1 (tk_s3 hf).2.1 (congrArg (tk_H c3 q) (tk_s3 hf).2.2) hx hb hr hlocks hP hD hS dX6_bid_127
  unfold f_X6_bid at hf
  refine lv_iload_n hx hb dX6_bid_0 rfl (lv_at hl 1 rfl) ?_
  refine lv_if_lt (tgt := 9) hx hb dX6_bid_1 (by decide) (fun h21 => ?_) (fun h21 => ?_)
  · have hf := tk_pos hf h21
    exact J_9 S H locs hP hD hS ls (lv_sub hl [] rfl) hf
  · have hf := tk_neg hf h21
    refine lv_iload_n hx hb dX6_bid_4 rfl (lv_at hl 1 rfl) ?_
    refine lv_iconst (v := 5) hx hb dX6_bid_5 (by decide) ?_
    refine lv_icmp_le (tgt := 19) hx hb dX6_bid_6 (by decide) (fun h22 => ?_) (fun h22 => ?_)
    · have hf := tk_pos hf h22
      refine lv_aload_n hx hb dX6_bid_19 rfl (lv_at hl 0 rfl) ?_
      refine va_get (D := G) (ci := 6) (v := .int (S.1 1)) (C := RX6) (T := TX6) (N := 18) hx hb hts i_X6_bid_X6 hown hE.1 hP 0 rfl rfl 7 (by decide) (hts _ m_X6_bid_f53) (fun _ h9 => h9) rfl dX6_bid_20 ?_
      refine lv_iconst (v := 1) hx hb dX6_bid_23 (by decide) ?_
      refine lv_icmp_eq (tgt := 37) hx hb dX6_bid_24 (by decide) (fun h23 => ?_) (fun h23 => ?_)
      · have hf := tk_pos hf h23
        refine lv_iload_n hx hb dX6_bid_37 rfl (lv_at hl 1 rfl) ?_
        refine lv_if_le (tgt := 62) hx hb dX6_bid_38 (by decide) (fun h24 => ?_) (fun h24 => ?_)
        · have hf := tk_pos hf h24
          exact J_62 p0 S H locs hP hD hS ls (lv_sub hl [0, 1] rfl) hf
        · have hf := tk_neg hf h24
          refine lv_iload_n hx hb dX6_bid_41 rfl (lv_at hl 1 rfl) ?_
          refine lv_aload_n hx hb dX6_bid_42 rfl (lv_at hl 0 rfl) ?_
          refine va_get (D := G) (ci := 6) (v := .ref (q 4)) (C := RX6) (T := TX6) (N := 18) hx hb hts i_X6_bid_X6 hown hE.1 hP 0 rfl rfl 1 (by decide) (hts _ m_X6_bid_f19) (fun _ h9 => h9) rfl dX6_bid_43 ?_
          refine va_getN (D := G) (ci := 0) (v := .int (S.1 11)) (C := RX0) (T := TX0) (N := 3) hx hb hts i_X6_bid_X0 hown hE.1 hP 4 rfl rfl 1 (by decide) (va_Nw.use rfl hE.2.1.1) (fun _ h9 => h9) rfl dX6_bid_46 ?_
          refine lv_icmp_gt (tgt := 62) hx hb dX6_bid_49 (by decide) (fun h25 => ?_) (fun h25 => ?_)
          · have hf := tk_pos hf h25
            exact J_62 p0 S H locs hP hD hS ls (lv_sub hl [0, 1] rfl) hf
          · have hf := tk_neg hf h25
            exact tk_throw (G := G) (c3 := c3) (cls := "java/lang/IllegalStateException") (text := "the level is not above the highest one") (ik := 79) (is := 104) (ic := 83) hQ (tk_s3 hf).1 (by decide) ex_2 (congrArg (tk_H c3 q) (tk_s3 hf).2.2) hlst hx hb hown ft_2 (hts _ m_X6_bid_cl79) (hts _ m_X6_bid_ie2) hE st_104 (fun w h => hts w (h_X6_bid_x83 w h)) ng_83 hE.2.1.2.2.2.2.2.2.2.2.2.2.2.1 gd_83 hZ.1 hP hD hS (hl.1.trans hml.symm) dX6_bid_52 dX6_bid_55 dX6_bid_56 dX6_bid_58 dX6_bid_61 hZ.2 (Nat.le_of_ble_eq_true rfl) (Nat.le_of_ble_eq_true rfl) (Nat.le_of_ble_eq_true rfl) (Nat.le_of_ble_eq_true rfl) hlocks
      · have hf := tk_neg hf h23
        exact tk_throw (G := G) (c3 := c3) (cls := "java/lang/IllegalStateException") (text := "nobody bids now") (ik := 79) (is := 99) (ic := 83) hQ (tk_s3 hf).1 (by decide) ex_2 (congrArg (tk_H c3 q) (tk_s3 hf).2.2) hlst hx hb hown ft_2 (hts _ m_X6_bid_cl79) (hts _ m_X6_bid_ie2) hE st_99 (fun w h => hts w (h_X6_bid_x83 w h)) ng_83 hE.2.1.2.2.2.2.2.2.2.2.2.2.2.1 gd_83 hZ.1 hP hD hS (hl.1.trans hml.symm) dX6_bid_27 dX6_bid_30 dX6_bid_31 dX6_bid_33 dX6_bid_36 hZ.2 (Nat.le_of_ble_eq_true rfl) (Nat.le_of_ble_eq_true rfl) (Nat.le_of_ble_eq_true rfl) (Nat.le_of_ble_eq_true rfl) hlocks
    · have hf := tk_neg hf h22
      exact J_9 S H locs hP hD hS ls (lv_sub hl [] rfl) hf
abbrev rm_X6_calledKing : Room := { frames := 0, cells := 0, slots := 0, locals := 0 }
set_option maxHeartbeats 4000000 in
set_option maxRecDepth 100000 in
theorem c_X6_calledKing (l : Launch) (G : va_G) (c3 : ClassId × ClassId × ClassId) (q : Nat → Nat) (S : tk_ST) (r0 : Int32) (hf : f_X6_calledKing S = some r0) : tk_Mi l yX6_calledKing wsX6_calledKing rm_X6_calledKing G c3 [.ref (q 0)] (tk_H c3 q S) (tk_H c3 q S) r0 := by
  refine tk_ofi (cc := cX6_calledKing) (maxL := 1) (ret := some .int) (by decide) rfl (Nat.le_of_ble_eq_true rfl) ?_
  intro p e s m below meth c A Q ls H locs hx hb hml hr hts hown hlocks hE hA hP hD hS hZ hQ hl
  have hl : lv_has ls 1 [(0, .ref (q 0))] := hl
  have hown : s.vm.findClass RX6 = some m.cls := hown
  unfold f_X6_calledKing at hf
  refine lv_bipush (v := 8) hx hb dX6_calledKing_0 (by decide) ?_
  refine lv_aload_n hx hb dX6_calledKing_2 rfl (lv_at hl 0 rfl) ?_
  refine va_get (D := G) (ci := 6) (v := .int (S.1 4)) (C := RX6) (T := TX6) (N := 18) hx hb hts i_X6_calledKing_X6 hown hE.1 hP 0 rfl rfl 10 (by decide) (hts _ m_X6_calledKing_f62) (fun _ h9 => h9) rfl dX6_calledKing_3 ?_
  refine lv_imul hx hb dX6_calledKing_6 ?_
  refine lv_bipush (v := 7) hx hb dX6_calledKing_7 (by decide) ?_
  refine lv_iadd hx hb dX6_calledKing_9 ?_
  exact tk_ri hQ (tk_s1 hf) rfl hx hb hr hlocks hP hD hS dX6_calledKing_10
abbrev rm_X3_at : Room := { frames := 0, cells := 0, slots := 0, locals := 0 }
set_option maxHeartbeats 4000000 in
set_option maxRecDepth 100000 in
theorem c_X3_at_p13 (l : Launch) (G : va_G) (c3 : ClassId × ClassId × ClassId) (q : Nat → Nat) (S : tk_ST) (p0 : Int32) (r0 : Int64) (hf : f_X3_at_p13 p0 S = some r0) : tk_Ml l yX3_at wsX3_at rm_X3_at G c3 [.ref (q 13), .int p0] (tk_H c3 q S) (tk_H c3 q S) r0 := by
  refine tk_ofl (cc := cX3_at) (maxL := 2) (ret := some .long) (by decide) rfl (Nat.le_of_ble_eq_true rfl) ?_
  intro p e s m below meth c A Q ls H locs hx hb hml hr hts hown hlocks hE hA hP hD hS hZ hQ hl
  have hl : lv_has ls 2 [(0, .ref (q 13)), (1, .int p0)] := hl
  have hown : s.vm.findClass RX3 = some m.cls := hown
  unfold f_X3_at_p13 at hf
  refine lv_iload_n hx hb dX3_at_0 rfl (lv_at hl 1 rfl) ?_
  refine lv_if_lt (tgt := 22) hx hb dX3_at_1 (by decide) (fun h1 => ?_) (fun h1 => ?_)
  · have hf := tk_pos hf h1
    refine lv_lconst (v := 0) hx hb dX3_at_22 (by decide) ?_
    exact tk_rl hQ (tk_s1 hf) rfl hx hb hr hlocks hP hD hS dX3_at_23
  · have hf := tk_neg hf h1
    refine lv_iload_n hx hb dX3_at_4 rfl (lv_at hl 1 rfl) ?_
    refine lv_aload_n hx hb dX3_at_5 rfl (lv_at hl 0 rfl) ?_
    refine va_get (D := G) (ci := 3) (v := .ref (q 14)) (C := RX3) (T := TX3) (N := 1) hx hb hts i_X3_at_X3 hown hE.1 hP 13 rfl rfl 0 (by decide) (hts _ m_X3_at_f13) (fun _ h9 => h9) rfl dX3_at_6 ?_
    refine va_alen (v := 4) hx hb hE.1 hP 14 1 rfl rfl rfl dX3_at_9 ?_
    refine lv_icmp_ge (tgt := 22) hx hb dX3_at_10 (by decide) (fun h2 => ?_) (fun h2 => ?_)
    · have hf := tk_pos hf h2
      refine lv_lconst (v := 0) hx hb dX3_at_22 (by decide) ?_
      exact tk_rl hQ (tk_s1 hf) rfl hx hb hr hlocks hP hD hS dX3_at_23
    · have hf := tk_neg hf h2
      refine lv_aload_n hx hb dX3_at_13 rfl (lv_at hl 0 rfl) ?_
      refine va_get (D := G) (ci := 3) (v := .ref (q 14)) (C := RX3) (T := TX3) (N := 1) hx hb hts i_X3_at_X3 hown hE.1 hP 13 rfl rfl 0 (by decide) (hts _ m_X3_at_f13) (fun _ h9 => h9) rfl dX3_at_14 ?_
      refine lv_iload_n hx hb dX3_at_17 rfl (lv_at hl 1 rfl) ?_
      obtain ⟨h3, hf⟩ := tk_ok hf
      refine va_lald (f := (S.2.2.2 0)) hx hb hE.1 hP 14 1 rfl rfl h3 dX3_at_18 ?_
      refine lv_goto (tgt := 23) hx hb dX3_at_19 (by decide) ?_
      exact tk_rl hQ (tk_s1 hf) rfl hx hb hr hlocks hP hD hS dX3_at_23
abbrev rm_X6_holds : Room := { frames := 0, cells := 0, slots := 0, locals := 0 }
set_option maxHeartbeats 4000000 in
set_option maxRecDepth 100000 in
theorem c_X6_holds (l : Launch) (G : va_G) (c3 : ClassId × ClassId × ClassId) (ws : va_W) (p0 : Int64) (p1 : Int32) (r0 : Int32) (hf : f_X6_holds p0 p1 = some r0) : tk_Mi l yX6_holds wsX6_holds rm_X6_holds G c3 [.long p0, .int p1] ws ws r0 := by
  refine tk_ofi (cc := cX6_holds) (maxL := 3) (ret := some .boolean) (by decide) rfl (Nat.le_of_ble_eq_true rfl) ?_
  intro p e s m below meth c A Q ls H locs hx hb hml hr hts hown hlocks hE hA hP hD hS hZ hQ hl
  have hl : lv_has ls 3 [(0, .long p0), (2, .int p1)] := hl
  have hown : s.vm.findClass RX6 = some m.cls := hown
  unfold f_X6_holds at hf
  refine lv_lload_n hx hb dX6_holds_0 rfl (lv_at hl 0 rfl) ?_
  refine lv_iload_n hx hb dX6_holds_1 rfl (lv_at hl 1 rfl) ?_
  refine lv_lshr (v := p0 >>> (p1.toInt64 &&& 63)) hx hb dX6_holds_2 rfl ?_
  refine lv_lconst (v := 1) hx hb dX6_holds_3 (by decide) ?_
  refine lv_land hx hb dX6_holds_4 ?_
  refine lv_lconst (v := 1) hx hb dX6_holds_5 (by decide) ?_
  refine W.lcmp hx hb dX6_holds_6 ?_
  refine lv_if_ne (tgt := 14) hx hb dX6_holds_7 (by decide) (fun h1 => ?_) (fun h1 => ?_)
  · have hf := tk_neg hf h1
    refine lv_iconst (v := 0) hx hb dX6_holds_14 (by decide) ?_
    exact tk_rz hQ (tk_s1 hf) rfl (by decide) hx hb hr hlocks hP hD hS dX6_holds_15
  · have hf := tk_pos hf h1
    refine lv_iconst (v := 1) hx hb dX6_holds_10 (by decide) ?_
    refine lv_goto (tgt := 15) hx hb dX6_holds_11 (by decide) ?_
    exact tk_rz hQ (tk_s1 hf) rfl (by decide) hx hb hr hlocks hP hD hS dX6_holds_15
abbrev rm_X6_ownerOf : Room := { frames := 1, cells := 0, slots := 0, locals := 22 }
set_option maxHeartbeats 4000000 in
set_option maxRecDepth 100000 in
theorem c_X6_ownerOf (l : Launch) (G : va_G) (c3 : ClassId × ClassId × ClassId) (q : Nat → Nat) (S : tk_ST) (p0 : Int32) (r0 : Int32) (hf : f_X6_ownerOf p0 S = some r0) : tk_Mi l yX6_ownerOf wsX6_ownerOf rm_X6_ownerOf G c3 [.ref (q 0), .int p0] (tk_H c3 q S) (tk_H c3 q S) r0 := by
  refine tk_ofi (cc := cX6_ownerOf) (maxL := 3) (ret := some .int) (by decide) rfl (Nat.le_of_ble_eq_true rfl) ?_
  intro p e s m below meth c A Q ls H locs hx hb hml hr hts hown hlocks hE hA hP hD hS hZ hQ hl
  have hl : lv_has ls 3 [(0, .ref (q 0)), (1, .int p0)] := hl
  have hown : s.vm.findClass RX6 = some m.cls := hown
  have J_2 : ∀ (n_2 : Nat), ∀ (x1_2 : Int32) (x2_2 : Int32) (H : Heap) (locs : List Loc) (_ : va_P G vwCl (tk_H c3 q S) H) (_ : va_D A (tk_H c3 q S)) (_ : va_S A s.heap H locs) (ls : Array Slot) (_ : lv_has ls 3 [(0, .ref (q 0)), (1, .int x1_2), (2, .int x2_2)]) (_ : f_X6_ownerOf_2 n_2 x1_2 x2_2 S = some r0), W p l e rm_X6_ownerOf s m ([.ref (q 0), .int p0] : List Value).toArray below meth c H locs 0 0 Q (F0 m 2 ls []) := by
    intro n_2
    induction n_2 with
    | zero =>
      intro x1_2 x2_2 H locs hP hD hS ls hl hf
      exact absurd hf (by intro h9; cases h9)
    | succ n_2 ih_2 =>
      intro x1_2 x2_2 H locs hP hD hS ls hl hf
      rw [f_X6_ownerOf_2_s] at hf
      refine lv_iload_n hx hb dX6_ownerOf_2 rfl (lv_at hl 2 rfl) ?_
      refine lv_iconst (v := 4) hx hb dX6_ownerOf_3 (by decide) ?_
      refine lv_icmp_ge (tgt := 30) hx hb dX6_ownerOf_4 (by decide) (fun h1 => ?_) (fun h1 => ?_)
      · have hf := tk_pos hf h1
        refine lv_iconst (v := -1) hx hb dX6_ownerOf_30 (by decide) ?_
        exact tk_ri hQ (tk_s1 hf) rfl hx hb hr hlocks hP hD hS dX6_ownerOf_31
      · have hf := tk_neg hf h1
        refine lv_aload_n hx hb dX6_ownerOf_7 rfl (lv_at hl 0 rfl) ?_
        refine va_get (D := G) (ci := 6) (v := .ref (q 13)) (C := RX6) (T := TX6) (N := 18) hx hb hts i_X6_ownerOf_X6 hown hE.1 hP 0 rfl rfl 4 (by decide) (hts _ m_X6_ownerOf_f42) (fun _ h9 => h9) rfl dX6_ownerOf_8 ?_
        refine lv_iload_n hx hb dX6_ownerOf_11 rfl (lv_at hl 2 rfl) ?_
        obtain ⟨r2, h3, hf⟩ := tk_b1s hf
        refine tk_cl (ws' := (tk_H c3 q S)) (va_runV (As := [.int x2_2]) (rest := []) ⟨hx, hb, hml, hown, hts⟩ (c_X3_at_p13 l G c3 q S x2_2 r2 h3 H.size) (cwV 1 hts gX6_ownerOf_X3_at rfl rfl rfl hv_X3_at ⟨Nat.le_of_ble_eq_true rfl, Nat.le_of_ble_eq_true rfl⟩) (tk_pV hE hP hD 13 rfl rfl) rfl rfl hl.1 rfl (lv_room (Nat.le_of_ble_eq_true rfl)) dX6_ownerOf_12 ⟨Nat.zero_le _, Nat.zero_le _⟩) hD hS hA (fun H locs hP hD hS => ?_)
        refine lv_iload_n hx hb dX6_ownerOf_15 rfl (lv_at hl 1 rfl) ?_
        obtain ⟨r5, h6, hf⟩ := tk_b1s hf
        refine tk_ci (ws' := (tk_H c3 q S)) (va_runS (As := [.long r2, .int x1_2]) (rest := []) ⟨hx, hb, hml, hown, hts⟩ (c_X6_holds l G c3 (tk_H c3 q S) r2 x1_2 r5 h6 H.size) (va_cwS 2 hts gX6_ownerOf_X6_holds rfl rfl rfl hs_X6_holds ⟨Nat.le_of_ble_eq_true rfl, Nat.le_of_ble_eq_true rfl⟩) (tk_pS hE hP hD) rfl rfl hl.1 rfl (lv_room (Nat.le_of_ble_eq_true rfl)) dX6_ownerOf_16 ⟨Nat.zero_le _, Nat.zero_le _⟩) hD hS hA (fun H locs hP hD hS => ?_)
        refine lv_if_eq (tgt := 24) hx hb dX6_ownerOf_19 (by decide) (fun h8 => ?_) (fun h8 => ?_)
        · have hf := tk_pos hf h8
          refine lv_iinc (v := (x2_2 + (1 : Int32))) (lv' := [(2, .int (x2_2 + (1 : Int32))), (0, .ref (q 0)), (1, .int x1_2)]) hx hb dX6_ownerOf_24 hl (k := 2) rfl rfl (by decide) rfl (fun ls hl => ?_)
          refine lv_goto (tgt := 2) hx hb dX6_ownerOf_27 (by decide) ?_
          exact ih_2 x1_2 (x2_2 + (1 : Int32)) H locs hP hD hS ls (lv_sub hl [1, 2, 0] rfl) hf
        · have hf := tk_neg hf h8
          refine lv_iload_n hx hb dX6_ownerOf_22 rfl (lv_at hl 2 rfl) ?_
          exact tk_ri hQ (tk_s1 hf) rfl hx hb hr hlocks hP hD hS dX6_ownerOf_23
  unfold f_X6_ownerOf at hf
  refine lv_iconst (v := 0) hx hb dX6_ownerOf_0 (by decide) ?_
  refine lv_istore_n (lv' := [(2, .int (0 : Int32)), (0, .ref (q 0)), (1, .int p0)]) hx hb dX6_ownerOf_1 rfl hl (by decide) rfl (fun ls hl => ?_)
  exact J_2 64 p0 (0 : Int32) H locs hP hD hS ls (lv_sub hl [1, 2, 0] rfl) hf
abbrev rm_X6_call : Room := { frames := 6, cells := 1, slots := 6, locals := 90 }
set_option maxHeartbeats 4000000 in
set_option maxRecDepth 100000 in
theorem c_X6_call (l : Launch) (hlst : l.stackTraces = false) (G : va_G) (c3 : ClassId × ClassId × ClassId) (q : Nat → Nat) (S : tk_ST) (p0 : Int32) (k0 : Int32) (r0 : Int32) (S0 : tk_ST) (hf : f_X6_call p0 S = some (k0, r0, S0)) : tk_Xi l yX6_call wsX6_call rm_X6_call G c3 [.ref (q 0), .int p0] (tk_H c3 q S) (tk_H c3 q S0) k0 r0 := by
  refine tk_ofXi (cc := cX6_call) (maxL := 2) (ret := some .int) (by decide) rfl (Nat.le_of_ble_eq_true rfl) ?_
  intro p e s m below meth c A Q ls H locs hx hb hml hr hts hown hlocks hE hA hP hD hS hZ hQ hl
  have hl : lv_has ls 2 [(0, .ref (q 0)), (1, .int p0)] := hl
  have hown : s.vm.findClass RX6 = some m.cls := hown
  have J_9 : ∀ (S_9 : tk_ST) (H : Heap) (locs : List Loc) (_ : va_P G vwCl (tk_H c3 q S_9) H) (_ : va_D A (tk_H c3 q S_9)) (_ : va_S A s.heap H locs) (ls : Array Slot) (_ : lv_has ls 2 []) (_ : f_X6_call_9 S_9 = some (k0, r0, S0)), W p l e rm_X6_call s m ([.ref (q 0), .int p0] : List Value).toArray below meth c H locs 0 0 Q (F0 m 9 ls []) := by
    intro S_9 H locs hP hD hS ls hl hf
    unfold f_X6_call_9 at hf
    exact tk_throw (G := G) (c3 := c3) (cls := "java/lang/IndexOutOfBoundsException") (text := "no such suit") (ik := 126) (is := 128) (ic := 130) hQ (tk_s3 hf).1 (by decide) ex_3 (congrArg (tk_H c3 q) (tk_s3 hf).2.2) hlst hx hb hown ft_3 (hts _ m_X6_call_cl126) (hts _ m_X6_call_ie3) hE st_128 (fun w h => hts w (h_X6_call_x130 w h)) ng_130 hE.2.1.2.2.2.2.2.2.2.2.2.2.2.2.1 gd_130 hZ.1 hP hD hS (hl.1.trans hml.symm) dX6_call_9 dX6_call_12 dX6_call_13 dX6_call_15 dX6_call_18 hZ.2 (Nat.le_of_ble_eq_true rfl) (Nat.le_of_ble_eq_true rfl) (Nat.le_of_ble_eq_true rfl) (Nat.le_of_ble_eq_true rfl) hlocks
  have J_74 : ∀ (k1_74 : Int32) (S_74 : tk_ST) (H : Heap) (locs : List Loc) (_ : va_P G vwCl (tk_H c3 q S_74) H) (_ : va_D A (tk_H c3 q S_74)) (_ : va_S A s.heap H locs) (ls : Array Slot) (_ : lv_has ls 2 [(0, .ref (q 0))]) (_ : f_X6_call_74 k1_74 S_74 = some (k0, r0, S0)), W p l e rm_X6_call s m ([.ref (q 0), .int p0] : List Value).toArray below meth c H locs 0 0 Q (F0 m 74 ls [.int k1_74, .ref (q 0)]) := by
    intro k1_74 S_74 H locs hP hD hS ls hl hf
    unfold f_X6_call_74 at hf
    refine va_put (D := G) (ci := 6) (v := .int k1_74) (ty := .int) (C := RX6) (T := TX6) (N := 18) hx hb hts i_X6_call_X6 tyX6 tyX6_ok nmX6 hown hE.1 hP hD hS 0 rfl rfl 12 (by decide) (hts _ m_X6_call_f68) (fun _ h9 => h9) rfl (by decide +kernel) rfl rfl (Nat.le_of_ble_eq_true rfl) dX6_call_74 (fun H locs hP hD hS => ?_)
    have hP : va_P G vwCl (tk_H c3 q (tk_I S_74 6 k1_74)) H := hP
    have hD : va_D A (tk_H c3 q (tk_I S_74 6 k1_74)) := hD
    refine lv_aload_n hx hb dX6_call_77 rfl (lv_at hl 0 rfl) ?_
    refine lv_iconst (v := 3) hx hb dX6_call_78 (by decide) ?_
    refine va_put (D := G) (ci := 6) (v := .int (3 : Int32)) (ty := .int) (C := RX6) (T := TX6) (N := 18) hx hb hts i_X6_call_X6 tyX6 tyX6_ok nmX6 hown hE.1 hP hD hS 0 rfl rfl 7 (by decide) (hts _ m_X6_call_f53) (fun _ h9 => h9) rfl (by decide +kernel) rfl rfl (Nat.le_of_ble_eq_true rfl) dX6_call_79 (fun H locs hP hD hS => ?_)
    have hP : va_P G vwCl (tk_H c3 q (tk_I (tk_I S_74 6 k1_74) 1 (3 : Int32))) H := hP
    have hD : va_D A (tk_H c3 q (tk_I (tk_I S_74 6 k1_74) 1 (3 : Int32))) := hD
    refine lv_aload_n hx hb dX6_call_82 rfl (lv_at hl 0 rfl) ?_
    refine va_get (D := G) (ci := 6) (v := .int (3 : Int32)) (C := RX6) (T := TX6) (N := 18) hx hb hts i_X6_call_X6 hown hE.1 hP 0 rfl rfl 7 (by decide) (hts _ m_X6_call_f53) (fun _ h9 => h9) rfl dX6_call_83 ?_
    exact tk_xri hQ (tk_s3 hf).1 (tk_s3 hf).2.1 (congrArg (tk_H c3 q) (tk_s3 hf).2.2) hx hb hr hlocks hP hD hS dX6_call_86
  unfold f_X6_call at hf
  refine lv_iload_n hx hb dX6_call_0 rfl (lv_at hl 1 rfl) ?_
  refine lv_if_lt (tgt := 9) hx hb dX6_call_1 (by decide) (fun h1 => ?_) (fun h1 => ?_)
  · have hf := tk_pos hf h1
    exact J_9 S H locs hP hD hS ls (lv_sub hl [] rfl) hf
  · have hf := tk_neg hf h1
    refine lv_iload_n hx hb dX6_call_4 rfl (lv_at hl 1 rfl) ?_
    refine lv_iconst (v := 4) hx hb dX6_call_5 (by decide) ?_
    refine lv_icmp_lt (tgt := 19) hx hb dX6_call_6 (by decide) (fun h2 => ?_) (fun h2 => ?_)
    · have hf := tk_pos hf h2
      refine lv_aload_n hx hb dX6_call_19 rfl (lv_at hl 0 rfl) ?_
      refine va_get (D := G) (ci := 6) (v := .int (S.1 1)) (C := RX6) (T := TX6) (N := 18) hx hb hts i_X6_call_X6 hown hE.1 hP 0 rfl rfl 7 (by decide) (hts _ m_X6_call_f53) (fun _ h9 => h9) rfl dX6_call_20 ?_
      refine lv_iconst (v := 2) hx hb dX6_call_23 (by decide) ?_
      refine lv_icmp_eq (tgt := 37) hx hb dX6_call_24 (by decide) (fun h3 => ?_) (fun h3 => ?_)
      · have hf := tk_pos hf h3
        refine lv_aload_n hx hb dX6_call_37 rfl (lv_at hl 0 rfl) ?_
        refine lv_iload_n hx hb dX6_call_38 rfl (lv_at hl 1 rfl) ?_
        refine va_put (D := G) (ci := 6) (v := .int p0) (ty := .int) (C := RX6) (T := TX6) (N := 18) hx hb hts i_X6_call_X6 tyX6 tyX6_ok nmX6 hown hE.1 hP hD hS 0 rfl rfl 10 (by decide) (hts _ m_X6_call_f62) (fun _ h9 => h9) rfl (by decide +kernel) rfl rfl (Nat.le_of_ble_eq_true rfl) dX6_call_39 (fun H locs hP hD hS => ?_)
        have hP : va_P G vwCl (tk_H c3 q (tk_I S 4 p0)) H := hP
        have hD : va_D A (tk_H c3 q (tk_I S 4 p0)) := hD
        refine lv_aload_n hx hb dX6_call_42 rfl (lv_at hl 0 rfl) ?_
        refine lv_aload_n hx hb dX6_call_43 rfl (lv_at hl 0 rfl) ?_
        refine lv_aload_n hx hb dX6_call_44 rfl (lv_at hl 0 rfl) ?_
        obtain ⟨r4, h5, hf⟩ := tk_b1s hf
        refine tk_ci (ws' := (tk_H c3 q (tk_I S 4 p0))) (va_runV (As := []) (rest := [.ref (q 0), .ref (q 0)]) ⟨hx, hb, hml, hown, hts⟩ (c_X6_calledKing l G c3 q (tk_I S 4 p0) r4 h5 H.size) (cwV 0 hts gX6_call_X6_calledKing rfl rfl rfl hv_X6_calledKing ⟨Nat.le_of_ble_eq_true rfl, Nat.le_of_ble_eq_true rfl⟩) (tk_pV hE hP hD 0 rfl rfl) rfl rfl hl.1 rfl (lv_room (Nat.le_of_ble_eq_true rfl)) dX6_call_45 ⟨Nat.zero_le _, Nat.zero_le _⟩) hD hS hA (fun H locs hP hD hS => ?_)
        obtain ⟨r7, h8, hf⟩ := tk_b1s hf
        refine tk_ci (ws' := (tk_H c3 q (tk_I S 4 p0))) (va_runV (As := [.int r4]) (rest := [.ref (q 0)]) ⟨hx, hb, hml, hown, hts⟩ (c_X6_ownerOf l G c3 q (tk_I S 4 p0) r4 r7 h8 H.size) (cwV 1 hts gX6_call_X6_ownerOf rfl rfl rfl hv_X6_ownerOf ⟨Nat.le_of_ble_eq_true rfl, Nat.le_of_ble_eq_true rfl⟩) (tk_pV hE hP hD 0 rfl rfl) rfl rfl hl.1 rfl (lv_room (Nat.le_of_ble_eq_true rfl)) dX6_call_48 ⟨Nat.zero_le _, Nat.zero_le _⟩) hD hS hA (fun H locs hP hD hS => ?_)
        refine va_put (D := G) (ci := 6) (v := .int r7) (ty := .int) (C := RX6) (T := TX6) (N := 18) hx hb hts i_X6_call_X6 tyX6 tyX6_ok nmX6 hown hE.1 hP hD hS 0 rfl rfl 11 (by decide) (hts _ m_X6_call_f65) (fun _ h9 => h9) rfl (by decide +kernel) rfl rfl (Nat.le_of_ble_eq_true rfl) dX6_call_51 (fun H locs hP hD hS => ?_)
        have hP : va_P G vwCl (tk_H c3 q (tk_I (tk_I S 4 p0) 5 r7)) H := hP
        have hD : va_D A (tk_H c3 q (tk_I (tk_I S 4 p0) 5 r7)) := hD
        refine lv_aload_n hx hb dX6_call_54 rfl (lv_at hl 0 rfl) ?_
        refine lv_aload_n hx hb dX6_call_55 rfl (lv_at hl 0 rfl) ?_
        refine va_get (D := G) (ci := 6) (v := .int r7) (C := RX6) (T := TX6) (N := 18) hx hb hts i_X6_call_X6 hown hE.1 hP 0 rfl rfl 11 (by decide) (hts _ m_X6_call_f65) (fun _ h9 => h9) rfl dX6_call_56 ?_
        refine lv_aload_n hx hb dX6_call_59 rfl (lv_at hl 0 rfl) ?_
        refine va_get (D := G) (ci := 6) (v := .int (S.1 3)) (C := RX6) (T := TX6) (N := 18) hx hb hts i_X6_call_X6 hown hE.1 hP 0 rfl rfl 9 (by decide) (hts _ m_X6_call_f59) (fun _ h9 => h9) rfl dX6_call_60 ?_
        refine lv_icmp_ne (tgt := 70) hx hb dX6_call_63 (by decide) (fun h10 => ?_) (fun h10 => ?_)
        · have hf := tk_neg hf h10
          refine lv_aload_n hx hb dX6_call_70 rfl (lv_at hl 0 rfl) ?_
          refine va_get (D := G) (ci := 6) (v := .int r7) (C := RX6) (T := TX6) (N := 18) hx hb hts i_X6_call_X6 hown hE.1 hP 0 rfl rfl 11 (by decide) (hts _ m_X6_call_f65) (fun _ h9 => h9) rfl dX6_call_71 ?_
          exact J_74 r7 (tk_I (tk_I S 4 p0) 5 r7) H locs hP hD hS ls (lv_sub hl [0] rfl) hf
        · have hf := tk_pos hf h10
          refine lv_iconst (v := -1) hx hb dX6_call_66 (by decide) ?_
          refine lv_goto (tgt := 74) hx hb dX6_call_67 (by decide) ?_
          exact J_74 (-1 : Int32) (tk_I (tk_I S 4 p0) 5 r7) H locs hP hD hS ls (lv_sub hl [0] rfl) hf
      · have hf := tk_neg hf h3
        exact tk_throw (G := G) (c3 := c3) (cls := "java/lang/IllegalStateException") (text := "no king is called now") (ik := 79) (is := 131) (ic := 83) hQ (tk_s3 hf).1 (by decide) ex_2 (congrArg (tk_H c3 q) (tk_s3 hf).2.2) hlst hx hb hown ft_2 (hts _ m_X6_call_cl79) (hts _ m_X6_call_ie2) hE st_131 (fun w h => hts w (h_X6_call_x83 w h)) ng_83 hE.2.1.2.2.2.2.2.2.2.2.2.2.2.1 gd_83 hZ.1 hP hD hS (hl.1.trans hml.symm) dX6_call_27 dX6_call_30 dX6_call_31 dX6_call_33 dX6_call_36 hZ.2 (Nat.le_of_ble_eq_true rfl) (Nat.le_of_ble_eq_true rfl) (Nat.le_of_ble_eq_true rfl) (Nat.le_of_ble_eq_true rfl) hlocks
    · have hf := tk_neg hf h2
      exact J_9 S H locs hP hD hS ls (lv_sub hl [] rfl) hf
abbrev rm_X6_groupsAt : Room := { frames := 0, cells := 0, slots := 0, locals := 0 }
set_option maxHeartbeats 4000000 in
set_option maxRecDepth 100000 in
theorem c_X6_groupsAt (l : Launch) (G : va_G) (c3 : ClassId × ClassId × ClassId) (ws : va_W) (p0 : Int32) (r0 : Int32) (hf : f_X6_groupsAt p0 = some r0) : tk_Mi l yX6_groupsAt wsX6_groupsAt rm_X6_groupsAt G c3 [.int p0] ws ws r0 := by
  refine tk_ofi (cc := cX6_groupsAt) (maxL := 1) (ret := some .int) (by decide) rfl (Nat.le_of_ble_eq_true rfl) ?_
  intro p e s m below meth c A Q ls H locs hx hb hml hr hts hown hlocks hE hA hP hD hS hZ hQ hl
  have hl : lv_has ls 1 [(0, .int p0)] := hl
  have hown : s.vm.findClass RX6 = some m.cls := hown
  unfold f_X6_groupsAt at hf
  refine lv_iload_n hx hb dX6_groupsAt_0 rfl (lv_at hl 0 rfl) ?_
  refine lv_iconst (v := 3) hx hb dX6_groupsAt_1 (by decide) ?_
  refine lv_icmp_ge (tgt := 11) hx hb dX6_groupsAt_2 (by decide) (fun h1 => ?_) (fun h1 => ?_)
  · have hf := tk_pos hf h1
    refine lv_bipush (v := 6) hx hb dX6_groupsAt_11 (by decide) ?_
    exact tk_ri hQ (tk_s1 hf) rfl hx hb hr hlocks hP hD hS dX6_groupsAt_13
  · have hf := tk_neg hf h1
    refine lv_iload_n hx hb dX6_groupsAt_5 rfl (lv_at hl 0 rfl) ?_
    refine lv_iconst (v := 1) hx hb dX6_groupsAt_6 (by decide) ?_
    refine lv_iadd hx hb dX6_groupsAt_7 ?_
    refine lv_goto (tgt := 13) hx hb dX6_groupsAt_8 (by decide) ?_
    exact tk_ri hQ (tk_s1 hf) rfl hx hb hr hlocks hP hD hS dX6_groupsAt_13
abbrev rm_X6_groupsNow : Room := { frames := 1, cells := 0, slots := 0, locals := 20 }
set_option maxHeartbeats 4000000 in
set_option maxRecDepth 100000 in
theorem c_X6_groupsNow (l : Launch) (G : va_G) (c3 : ClassId × ClassId × ClassId) (q : Nat → Nat) (S : tk_ST) (r0 : Int32) (hf : f_X6_groupsNow S = some r0) : tk_Mi l yX6_groupsNow wsX6_groupsNow rm_X6_groupsNow G c3 [.ref (q 0)] (tk_H c3 q S) (tk_H c3 q S) r0 := by
  refine tk_ofi (cc := cX6_groupsNow) (maxL := 1) (ret := some .int) (by decide) rfl (Nat.le_of_ble_eq_true rfl) ?_
  intro p e s m below meth c A Q ls H locs hx hb hml hr hts hown hlocks hE hA hP hD hS hZ hQ hl
  have hl : lv_has ls 1 [(0, .ref (q 0))] := hl
  have hown : s.vm.findClass RX6 = some m.cls := hown
  unfold f_X6_groupsNow at hf
  refine lv_aload_n hx hb dX6_groupsNow_0 rfl (lv_at hl 0 rfl) ?_
  refine va_get (D := G) (ci := 6) (v := .int (S.1 1)) (C := RX6) (T := TX6) (N := 18) hx hb hts i_X6_groupsNow_X6 hown hE.1 hP 0 rfl rfl 7 (by decide) (hts _ m_X6_groupsNow_f53) (fun _ h9 => h9) rfl dX6_groupsNow_1 ?_
  refine lv_iconst (v := 3) hx hb dX6_groupsNow_4 (by decide) ?_
  refine lv_icmp_ne (tgt := 21) hx hb dX6_groupsNow_5 (by decide) (fun h1 => ?_) (fun h1 => ?_)
  · have hf := tk_neg hf h1
    refine lv_bipush (v := 6) hx hb dX6_groupsNow_21 (by decide) ?_
    exact tk_ri hQ (tk_s1 hf) rfl hx hb hr hlocks hP hD hS dX6_groupsNow_23
  · have hf := tk_pos hf h1
    refine lv_aload_n hx hb dX6_groupsNow_8 rfl (lv_at hl 0 rfl) ?_
    refine va_get (D := G) (ci := 6) (v := .ref (q 4)) (C := RX6) (T := TX6) (N := 18) hx hb hts i_X6_groupsNow_X6 hown hE.1 hP 0 rfl rfl 1 (by decide) (hts _ m_X6_groupsNow_f19) (fun _ h9 => h9) rfl dX6_groupsNow_9 ?_
    refine va_getN (D := G) (ci := 0) (v := .int (S.1 11)) (C := RX0) (T := TX0) (N := 3) hx hb hts i_X6_groupsNow_X0 hown hE.1 hP 4 rfl rfl 1 (by decide) (va_Nw.use rfl hE.2.1.1) (fun _ h9 => h9) rfl dX6_groupsNow_12 ?_
    obtain ⟨r2, h3, hf⟩ := tk_b1s hf
    refine tk_ci (ws' := (tk_H c3 q S)) (va_runS (As := [.int (S.1 11)]) (rest := []) ⟨hx, hb, hml, hown, hts⟩ (c_X6_groupsAt l G c3 (tk_H c3 q S) (S.1 11) r2 h3 H.size) (va_cwS 1 hts gX6_groupsNow_X6_groupsAt rfl rfl rfl hs_X6_groupsAt ⟨Nat.le_of_ble_eq_true rfl, Nat.le_of_ble_eq_true rfl⟩) (tk_pS hE hP hD) rfl rfl hl.1 rfl (lv_room (Nat.le_of_ble_eq_true rfl)) dX6_groupsNow_15 ⟨Nat.zero_le _, Nat.zero_le _⟩) hD hS hA (fun H locs hP hD hS => ?_)
    refine lv_goto (tgt := 23) hx hb dX6_groupsNow_18 (by decide) ?_
    exact tk_ri hQ (tk_s1 hf) rfl hx hb hr hlocks hP hD hS dX6_groupsNow_23
abbrev rm_X6_groupSize : Room := { frames := 0, cells := 0, slots := 0, locals := 0 }
set_option maxHeartbeats 4000000 in
set_option maxRecDepth 100000 in
theorem c_X6_groupSize (l : Launch) (G : va_G) (c3 : ClassId × ClassId × ClassId) (ws : va_W) (p0 : Int32) (r0 : Int32) (hf : f_X6_groupSize p0 = some r0) : tk_Mi l yX6_groupSize wsX6_groupSize rm_X6_groupSize G c3 [.int p0] ws ws r0 := by
  refine tk_ofi (cc := cX6_groupSize) (maxL := 1) (ret := some .int) (by decide) rfl (Nat.le_of_ble_eq_true rfl) ?_
  intro p e s m below meth c A Q ls H locs hx hb hml hr hts hown hlocks hE hA hP hD hS hZ hQ hl
  have hl : lv_has ls 1 [(0, .int p0)] := hl
  have hown : s.vm.findClass RX6 = some m.cls := hown
  unfold f_X6_groupSize at hf
  refine lv_iload_n hx hb dX6_groupSize_0 rfl (lv_at hl 0 rfl) ?_
  refine lv_iconst (v := 3) hx hb dX6_groupSize_1 (by decide) ?_
  refine lv_icmp_ge (tgt := 11) hx hb dX6_groupSize_2 (by decide) (fun h1 => ?_) (fun h1 => ?_)
  · have hf := tk_pos hf h1
    refine lv_iconst (v := 1) hx hb dX6_groupSize_11 (by decide) ?_
    exact tk_ri hQ (tk_s1 hf) rfl hx hb hr hlocks hP hD hS dX6_groupSize_12
  · have hf := tk_neg hf h1
    refine lv_iconst (v := 4) hx hb dX6_groupSize_5 (by decide) ?_
    refine lv_iload_n hx hb dX6_groupSize_6 rfl (lv_at hl 0 rfl) ?_
    refine lv_isub hx hb dX6_groupSize_7 ?_
    refine lv_goto (tgt := 12) hx hb dX6_groupSize_8 (by decide) ?_
    exact tk_ri hQ (tk_s1 hf) rfl hx hb hr hlocks hP hD hS dX6_groupSize_12
abbrev rm_X6_take : Room := { frames := 6, cells := 1, slots := 6, locals := 90 }
set_option maxHeartbeats 4000000 in
set_option maxRecDepth 100000 in
theorem c_X6_take (l : Launch) (hlst : l.stackTraces = false) (G : va_G) (c3 : ClassId × ClassId × ClassId) (q : Nat → Nat) (S : tk_ST) (p0 : Int32) (k0 : Int32) (r0 : Int32) (S0 : tk_ST) (hf : f_X6_take p0 S = some (k0, r0, S0)) : tk_Xi l yX6_take wsX6_take rm_X6_take G c3 [.ref (q 0), .int p0] (tk_H c3 q S) (tk_H c3 q S0) k0 r0 := by
  refine tk_ofXi (cc := cX6_take) (maxL := 5) (ret := some .int) (by decide) rfl (Nat.le_of_ble_eq_true rfl) ?_
  intro p e s m below meth c A Q ls H locs hx hb hml hr hts hown hlocks hE hA hP hD hS hZ hQ hl
  have hl : lv_has ls 5 [(0, .ref (q 0)), (1, .int p0)] := hl
  have hown : s.vm.findClass RX6 = some m.cls := hown
  have J_12 : ∀ (S_12 : tk_ST) (H : Heap) (locs : List Loc) (_ : va_P G vwCl (tk_H c3 q S_12) H) (_ : va_D A (tk_H c3 q S_12)) (_ : va_S A s.heap H locs) (ls : Array Slot) (_ : lv_has ls 5 []) (_ : f_X6_take_12 S_12 = some (k0, r0, S0)), W p l e rm_X6_take s m ([.ref (q 0), .int p0] : List Value).toArray below meth c H locs 0 0 Q (F0 m 12 ls []) := by
    intro S_12 H locs hP hD hS ls hl hf
    unfold f_X6_take_12 at hf
    exact tk_throw (G := G) (c3 := c3) (cls := "java/lang/IndexOutOfBoundsException") (text := "no such group") (ik := 126) (is := 143) (ic := 130) hQ (tk_s3 hf).1 (by decide) ex_3 (congrArg (tk_H c3 q) (tk_s3 hf).2.2) hlst hx hb hown ft_3 (hts _ m_X6_take_cl126) (hts _ m_X6_take_ie3) hE st_143 (fun w h => hts w (h_X6_take_x130 w h)) ng_130 hE.2.1.2.2.2.2.2.2.2.2.2.2.2.2.1 gd_130 hZ.1 hP hD hS (hl.1.trans hml.symm) dX6_take_12 dX6_take_15 dX6_take_16 dX6_take_18 dX6_take_21 hZ.2 (Nat.le_of_ble_eq_true rfl) (Nat.le_of_ble_eq_true rfl) (Nat.le_of_ble_eq_true rfl) (Nat.le_of_ble_eq_true rfl) hlocks
  unfold f_X6_take at hf
  refine lv_iload_n hx hb dX6_take_0 rfl (lv_at hl 1 rfl) ?_
  refine lv_if_lt (tgt := 12) hx hb dX6_take_1 (by decide) (fun h1 => ?_) (fun h1 => ?_)
  · have hf := tk_pos hf h1
    exact J_12 S H locs hP hD hS ls (lv_sub hl [] rfl) hf
  · have hf := tk_neg hf h1
    refine lv_iload_n hx hb dX6_take_4 rfl (lv_at hl 1 rfl) ?_
    refine lv_aload_n hx hb dX6_take_5 rfl (lv_at hl 0 rfl) ?_
    obtain ⟨r2, h3, hf⟩ := tk_b1s hf
    refine tk_ci (ws' := (tk_H c3 q S)) (va_runV (As := []) (rest := [.int p0]) ⟨hx, hb, hml, hown, hts⟩ (c_X6_groupsNow l G c3 q S r2 h3 H.size) (cwV 0 hts gX6_take_X6_groupsNow rfl rfl rfl hv_X6_groupsNow ⟨Nat.le_of_ble_eq_true rfl, Nat.le_of_ble_eq_true rfl⟩) (tk_pV hE hP hD 0 rfl rfl) rfl rfl hl.1 rfl (lv_room (Nat.le_of_ble_eq_true rfl)) dX6_take_6 ⟨Nat.zero_le _, Nat.zero_le _⟩) hD hS hA (fun H locs hP hD hS => ?_)
    refine lv_icmp_lt (tgt := 22) hx hb dX6_take_9 (by decide) (fun h5 => ?_) (fun h5 => ?_)
    · have hf := tk_pos hf h5
      refine lv_aload_n hx hb dX6_take_22 rfl (lv_at hl 0 rfl) ?_
      refine va_get (D := G) (ci := 6) (v := .int (S.1 1)) (C := RX6) (T := TX6) (N := 18) hx hb hts i_X6_take_X6 hown hE.1 hP 0 rfl rfl 7 (by decide) (hts _ m_X6_take_f53) (fun _ h9 => h9) rfl dX6_take_23 ?_
      refine lv_iconst (v := 3) hx hb dX6_take_26 (by decide) ?_
      refine lv_icmp_eq (tgt := 40) hx hb dX6_take_27 (by decide) (fun h6 => ?_) (fun h6 => ?_)
      · have hf := tk_pos hf h6
        refine lv_aload_n hx hb dX6_take_40 rfl (lv_at hl 0 rfl) ?_
        refine va_get (D := G) (ci := 6) (v := .ref (q 4)) (C := RX6) (T := TX6) (N := 18) hx hb hts i_X6_take_X6 hown hE.1 hP 0 rfl rfl 1 (by decide) (hts _ m_X6_take_f19) (fun _ h9 => h9) rfl dX6_take_41 ?_
        refine va_getN (D := G) (ci := 0) (v := .int (S.1 11)) (C := RX0) (T := TX0) (N := 3) hx hb hts i_X6_take_X0 hown hE.1 hP 4 rfl rfl 1 (by decide) (va_Nw.use rfl hE.2.1.1) (fun _ h9 => h9) rfl dX6_take_44 ?_
        obtain ⟨r7, h8, hf⟩ := tk_b1s hf
        refine tk_ci (ws' := (tk_H c3 q S)) (va_runS (As := [.int (S.1 11)]) (rest := []) ⟨hx, hb, hml, hown, hts⟩ (c_X6_groupSize l G c3 (tk_H c3 q S) (S.1 11) r7 h8 H.size) (va_cwS 1 hts gX6_take_X6_groupSize rfl rfl rfl hs_X6_groupSize ⟨Nat.le_of_ble_eq_true rfl, Nat.le_of_ble_eq_true rfl⟩) (tk_pS hE hP hD) rfl rfl hl.1 rfl (lv_room (Nat.le_of_ble_eq_true rfl)) dX6_take_47 ⟨Nat.zero_le _, Nat.zero_le _⟩) hD hS hA (fun H locs hP hD hS => ?_)
        refine lv_istore_n (lv' := [(2, .int r7), (0, .ref (q 0)), (1, .int p0)]) hx hb dX6_take_50 rfl hl (by decide) rfl (fun ls hl => ?_)
        refine lv_aload_n hx hb dX6_take_51 rfl (lv_at hl 1 rfl) ?_
        refine va_get (D := G) (ci := 6) (v := .ref (q 1)) (C := RX6) (T := TX6) (N := 18) hx hb hts i_X6_take_X6 hown hE.1 hP 0 rfl rfl 0 (by decide) (hts _ m_X6_take_f12) (fun _ h9 => h9) rfl dX6_take_52 ?_
        refine lv_bipush (v := 48) hx hb dX6_take_55 (by decide) ?_
        refine lv_iload_n hx hb dX6_take_57 rfl (lv_at hl 2 rfl) ?_
        refine lv_iload_n hx hb dX6_take_58 rfl (lv_at hl 0 rfl) ?_
        refine lv_imul hx hb dX6_take_59 ?_
        refine lv_iadd hx hb dX6_take_60 ?_
        refine lv_iload_n hx hb dX6_take_61 rfl (lv_at hl 0 rfl) ?_
        obtain ⟨r10, h11, hf⟩ := tk_b1s hf
        refine tk_cl (ws' := (tk_H c3 q S)) (va_runV (As := [.int ((48 : Int32) + (p0 * r7)), .int r7]) (rest := []) ⟨hx, hb, hml, hown, hts⟩ (c_X1_cardsFrom l G c3 q S ((48 : Int32) + (p0 * r7)) r7 r10 h11 H.size) (cwV 2 hts gX6_take_X1_cardsFrom rfl rfl rfl hv_X1_cardsFrom ⟨Nat.le_of_ble_eq_true rfl, Nat.le_of_ble_eq_true rfl⟩) (tk_pV hE hP hD 1 rfl rfl) rfl rfl hl.1 rfl (lv_room (Nat.le_of_ble_eq_true rfl)) dX6_take_62 ⟨Nat.zero_le _, Nat.zero_le _⟩) hD hS hA (fun H locs hP hD hS => ?_)
        refine lv_lstore_n (lv' := [(3, .long r10), (2, .int r7), (0, .ref (q 0)), (1, .int p0)]) hx hb dX6_take_65 rfl hl (by decide) rfl (fun ls hl => ?_)
        refine lv_aload_n hx hb dX6_take_66 rfl (lv_at hl 2 rfl) ?_
        refine va_get (D := G) (ci := 6) (v := .ref (q 13)) (C := RX6) (T := TX6) (N := 18) hx hb hts i_X6_take_X6 hown hE.1 hP 0 rfl rfl 4 (by decide) (hts _ m_X6_take_f42) (fun _ h9 => h9) rfl dX6_take_67 ?_
        refine lv_aload_n hx hb dX6_take_70 rfl (lv_at hl 2 rfl) ?_
        refine va_get (D := G) (ci := 6) (v := .int (S.1 3)) (C := RX6) (T := TX6) (N := 18) hx hb hts i_X6_take_X6 hown hE.1 hP 0 rfl rfl 9 (by decide) (hts _ m_X6_take_f59) (fun _ h9 => h9) rfl dX6_take_71 ?_
        refine lv_aload_n hx hb dX6_take_74 rfl (lv_at hl 2 rfl) ?_
        refine va_get (D := G) (ci := 6) (v := .ref (q 13)) (C := RX6) (T := TX6) (N := 18) hx hb hts i_X6_take_X6 hown hE.1 hP 0 rfl rfl 4 (by decide) (hts _ m_X6_take_f42) (fun _ h9 => h9) rfl dX6_take_75 ?_
        refine lv_aload_n hx hb dX6_take_78 rfl (lv_at hl 2 rfl) ?_
        refine va_get (D := G) (ci := 6) (v := .int (S.1 3)) (C := RX6) (T := TX6) (N := 18) hx hb hts i_X6_take_X6 hown hE.1 hP 0 rfl rfl 9 (by decide) (hts _ m_X6_take_f59) (fun _ h9 => h9) rfl dX6_take_79 ?_
        obtain ⟨r13, h14, hf⟩ := tk_b1s hf
        refine tk_cl (ws' := (tk_H c3 q S)) (va_runV (As := [.int (S.1 3)]) (rest := [.int (S.1 3), .ref (q 13)]) ⟨hx, hb, hml, hown, hts⟩ (c_X3_at_p13 l G c3 q S (S.1 3) r13 h14 H.size) (cwV 1 hts gX6_take_X3_at rfl rfl rfl hv_X3_at ⟨Nat.le_of_ble_eq_true rfl, Nat.le_of_ble_eq_true rfl⟩) (tk_pV hE hP hD 13 rfl rfl) rfl rfl hl.1 rfl (lv_room (Nat.le_of_ble_eq_true rfl)) dX6_take_82 ⟨Nat.zero_le _, Nat.zero_le _⟩) hD hS hA (fun H locs hP hD hS => ?_)
        refine lv_lload_n hx hb dX6_take_85 rfl (lv_at hl 0 rfl) ?_
        refine lv_lor hx hb dX6_take_86 ?_
        obtain ⟨S18, h17, hf⟩ := tk_b1s hf
        refine tk_cv (ws' := (tk_H c3 q S18)) (va_runV (As := [.int (S.1 3), .long (r13 ||| r10)]) (rest := []) ⟨hx, hb, hml, hown, hts⟩ (c_X3_put_p13 l G c3 q S (S.1 3) (r13 ||| r10) S18 h17 H.size) (cwV 2 hts gX6_take_X3_put rfl rfl rfl hv_X3_put ⟨Nat.le_of_ble_eq_true rfl, Nat.le_of_ble_eq_true rfl⟩) (tk_pV hE hP hD 13 rfl rfl) rfl rfl hl.1 rfl (lv_room (Nat.le_of_ble_eq_true rfl)) dX6_take_87 ⟨Nat.zero_le _, Nat.zero_le _⟩) hD hS hA (fun H locs hP hD hS => ?_)
        refine lv_aload_n hx hb dX6_take_90 rfl (lv_at hl 2 rfl) ?_
        refine lv_dup hx hb dX6_take_91 rfl ?_
        refine va_get (D := G) (ci := 6) (v := .long (S18.2.1 1)) (C := RX6) (T := TX6) (N := 18) hx hb hts i_X6_take_X6 hown hE.1 hP 0 rfl rfl 15 (by decide) (hts _ m_X6_take_f162) (fun _ h9 => h9) rfl dX6_take_92 ?_
        refine lv_lload_n hx hb dX6_take_95 rfl (lv_at hl 0 rfl) ?_
        refine lv_ldc2 (v := -1) hx hb hown (hts _ m_X6_take_k166) dX6_take_96 ?_
        refine lv_lxor hx hb dX6_take_99 ?_
        refine lv_land hx hb dX6_take_100 ?_
        refine va_put (D := G) (ci := 6) (v := .long ((S18.2.1 1) &&& (r10 ^^^ (-1 : Int64)))) (ty := .long) (C := RX6) (T := TX6) (N := 18) hx hb hts i_X6_take_X6 tyX6 tyX6_ok nmX6 hown hE.1 hP hD hS 0 rfl rfl 15 (by decide) (hts _ m_X6_take_f162) (fun _ h9 => h9) rfl (by decide +kernel) rfl rfl (Nat.le_of_ble_eq_true rfl) dX6_take_101 (fun H locs hP hD hS => ?_)
        have hP : va_P G vwCl (tk_H c3 q (tk_L S18 1 ((S18.2.1 1) &&& (r10 ^^^ (-1 : Int64))))) H := hP
        have hD : va_D A (tk_H c3 q (tk_L S18 1 ((S18.2.1 1) &&& (r10 ^^^ (-1 : Int64))))) := hD
        refine lv_aload_n hx hb dX6_take_104 rfl (lv_at hl 2 rfl) ?_
        refine lv_iload_n hx hb dX6_take_105 rfl (lv_at hl 1 rfl) ?_
        refine va_put (D := G) (ci := 6) (v := .int r7) (ty := .int) (C := RX6) (T := TX6) (N := 18) hx hb hts i_X6_take_X6 tyX6 tyX6_ok nmX6 hown hE.1 hP hD hS 0 rfl rfl 13 (by decide) (hts _ m_X6_take_f168) (fun _ h9 => h9) rfl (by decide +kernel) rfl rfl (Nat.le_of_ble_eq_true rfl) dX6_take_106 (fun H locs hP hD hS => ?_)
        have hP : va_P G vwCl (tk_H c3 q (tk_I (tk_L S18 1 ((S18.2.1 1) &&& (r10 ^^^ (-1 : Int64)))) 7 r7)) H := hP
        have hD : va_D A (tk_H c3 q (tk_I (tk_L S18 1 ((S18.2.1 1) &&& (r10 ^^^ (-1 : Int64)))) 7 r7)) := hD
        refine lv_aload_n hx hb dX6_take_109 rfl (lv_at hl 2 rfl) ?_
        refine lv_iconst (v := 4) hx hb dX6_take_110 (by decide) ?_
        refine va_put (D := G) (ci := 6) (v := .int (4 : Int32)) (ty := .int) (C := RX6) (T := TX6) (N := 18) hx hb hts i_X6_take_X6 tyX6 tyX6_ok nmX6 hown hE.1 hP hD hS 0 rfl rfl 7 (by decide) (hts _ m_X6_take_f53) (fun _ h9 => h9) rfl (by decide +kernel) rfl rfl (Nat.le_of_ble_eq_true rfl) dX6_take_111 (fun H locs hP hD hS => ?_)
        have hP : va_P G vwCl (tk_H c3 q (tk_I (tk_I (tk_L S18 1 ((S18.2.1 1) &&& (r10 ^^^ (-1 : Int64)))) 7 r7) 1 (4 : Int32))) H := hP
        have hD : va_D A (tk_H c3 q (tk_I (tk_I (tk_L S18 1 ((S18.2.1 1) &&& (r10 ^^^ (-1 : Int64)))) 7 r7) 1 (4 : Int32))) := hD
        refine lv_iload_n hx hb dX6_take_114 rfl (lv_at hl 1 rfl) ?_
        exact tk_xri hQ (tk_s3 hf).1 (tk_s3 hf).2.1 (congrArg (tk_H c3 q) (tk_s3 hf).2.2) hx hb hr hlocks hP hD hS dX6_take_115
      · have hf := tk_neg hf h6
        exact tk_throw (G := G) (c3 := c3) (cls := "java/lang/IllegalStateException") (text := "nothing is taken of the talon now") (ik := 79) (is := 145) (ic := 83) hQ (tk_s3 hf).1 (by decide) ex_2 (congrArg (tk_H c3 q) (tk_s3 hf).2.2) hlst hx hb hown ft_2 (hts _ m_X6_take_cl79) (hts _ m_X6_take_ie2) hE st_145 (fun w h => hts w (h_X6_take_x83 w h)) ng_83 hE.2.1.2.2.2.2.2.2.2.2.2.2.2.1 gd_83 hZ.1 hP hD hS (hl.1.trans hml.symm) dX6_take_30 dX6_take_33 dX6_take_34 dX6_take_36 dX6_take_39 hZ.2 (Nat.le_of_ble_eq_true rfl) (Nat.le_of_ble_eq_true rfl) (Nat.le_of_ble_eq_true rfl) (Nat.le_of_ble_eq_true rfl) hlocks
    · have hf := tk_neg hf h5
      exact J_12 S H locs hP hD hS ls (lv_sub hl [] rfl) hf
abbrev rm_X6_isCard : Room := { frames := 0, cells := 0, slots := 0, locals := 0 }
set_option maxHeartbeats 4000000 in
set_option maxRecDepth 100000 in
theorem c_X6_isCard (l : Launch) (G : va_G) (c3 : ClassId × ClassId × ClassId) (ws : va_W) (p0 : Int32) (r0 : Int32) (hf : f_X6_isCard p0 = some r0) : tk_Mi l yX6_isCard wsX6_isCard rm_X6_isCard G c3 [.int p0] ws ws r0 := by
  refine tk_ofi (cc := cX6_isCard) (maxL := 1) (ret := some .boolean) (by decide) rfl (Nat.le_of_ble_eq_true rfl) ?_
  intro p e s m below meth c A Q ls H locs hx hb hml hr hts hown hlocks hE hA hP hD hS hZ hQ hl
  have hl : lv_has ls 1 [(0, .int p0)] := hl
  have hown : s.vm.findClass RX6 = some m.cls := hown
  unfold f_X6_isCard at hf
  refine lv_iload_n hx hb dX6_isCard_0 rfl (lv_at hl 0 rfl) ?_
  refine lv_if_lt (tgt := 14) hx hb dX6_isCard_1 (by decide) (fun h1 => ?_) (fun h1 => ?_)
  · have hf := tk_pos hf h1
    refine lv_iconst (v := 0) hx hb dX6_isCard_14 (by decide) ?_
    exact tk_rz hQ (tk_s1 hf) rfl (by decide) hx hb hr hlocks hP hD hS dX6_isCard_15
  · have hf := tk_neg hf h1
    refine lv_iload_n hx hb dX6_isCard_4 rfl (lv_at hl 0 rfl) ?_
    refine lv_bipush (v := 54) hx hb dX6_isCard_5 (by decide) ?_
    refine lv_icmp_ge (tgt := 14) hx hb dX6_isCard_7 (by decide) (fun h2 => ?_) (fun h2 => ?_)
    · have hf := tk_pos hf h2
      refine lv_iconst (v := 0) hx hb dX6_isCard_14 (by decide) ?_
      exact tk_rz hQ (tk_s1 hf) rfl (by decide) hx hb hr hlocks hP hD hS dX6_isCard_15
    · have hf := tk_neg hf h2
      refine lv_iconst (v := 1) hx hb dX6_isCard_10 (by decide) ?_
      refine lv_goto (tgt := 15) hx hb dX6_isCard_11 (by decide) ?_
      exact tk_rz hQ (tk_s1 hf) rfl (by decide) hx hb hr hlocks hP hD hS dX6_isCard_15
abbrev rm_X6_suitOf : Room := { frames := 0, cells := 0, slots := 0, locals := 0 }
set_option maxHeartbeats 4000000 in
set_option maxRecDepth 100000 in
theorem c_X6_suitOf (l : Launch) (G : va_G) (c3 : ClassId × ClassId × ClassId) (ws : va_W) (p0 : Int32) (r0 : Int32) (hf : f_X6_suitOf p0 = some r0) : tk_Mi l yX6_suitOf wsX6_suitOf rm_X6_suitOf G c3 [.int p0] ws ws r0 := by
  refine tk_ofi (cc := cX6_suitOf) (maxL := 1) (ret := some .int) (by decide) rfl (Nat.le_of_ble_eq_true rfl) ?_
  intro p e s m below meth c A Q ls H locs hx hb hml hr hts hown hlocks hE hA hP hD hS hZ hQ hl
  have hl : lv_has ls 1 [(0, .int p0)] := hl
  have hown : s.vm.findClass RX6 = some m.cls := hown
  unfold f_X6_suitOf at hf
  refine lv_iload_n hx hb dX6_suitOf_0 rfl (lv_at hl 0 rfl) ?_
  refine lv_bipush (v := 32) hx hb dX6_suitOf_1 (by decide) ?_
  refine lv_icmp_ge (tgt := 13) hx hb dX6_suitOf_3 (by decide) (fun h1 => ?_) (fun h1 => ?_)
  · have hf := tk_pos hf h1
    refine lv_iconst (v := 4) hx hb dX6_suitOf_13 (by decide) ?_
    exact tk_ri hQ (tk_s1 hf) rfl hx hb hr hlocks hP hD hS dX6_suitOf_14
  · have hf := tk_neg hf h1
    refine lv_iload_n hx hb dX6_suitOf_6 rfl (lv_at hl 0 rfl) ?_
    refine lv_bipush (v := 8) hx hb dX6_suitOf_7 (by decide) ?_
    refine lv_idiv hx hb dX6_suitOf_9 (by decide) ?_
    refine lv_goto (tgt := 14) hx hb dX6_suitOf_10 (by decide) ?_
    exact tk_ri hQ (tk_s1 hf) rfl hx hb hr hlocks hP hD hS dX6_suitOf_14
abbrev rm_X6_worth : Room := { frames := 1, cells := 0, slots := 0, locals := 20 }
set_option maxHeartbeats 4000000 in
set_option maxRecDepth 100000 in
theorem c_X6_worth (l : Launch) (G : va_G) (c3 : ClassId × ClassId × ClassId) (ws : va_W) (p0 : Int32) (r0 : Int32) (hf : f_X6_worth p0 = some r0) : tk_Mi l yX6_worth wsX6_worth rm_X6_worth G c3 [.int p0] ws ws r0 := by
  refine tk_ofi (cc := cX6_worth) (maxL := 2) (ret := some .int) (by decide) rfl (Nat.le_of_ble_eq_true rfl) ?_
  intro p e s m below meth c A Q ls H locs hx hb hml hr hts hown hlocks hE hA hP hD hS hZ hQ hl
  have hl : lv_has ls 2 [(0, .int p0)] := hl
  have hown : s.vm.findClass RX6 = some m.cls := hown
  have J_20 : ∀ (H : Heap) (locs : List Loc) (_ : va_P G vwCl ws H) (_ : va_D A ws) (_ : va_S A s.heap H locs) (ls : Array Slot) (_ : lv_has ls 2 []) (_ : f_X6_worth_20 = some r0), W p l e rm_X6_worth s m ([.int p0] : List Value).toArray below meth c H locs 0 0 Q (F0 m 20 ls []) := by
    intro  H locs hP hD hS ls hl hf
    unfold f_X6_worth_20 at hf
    refine lv_iconst (v := 5) hx hb dX6_worth_20 (by decide) ?_
    refine lv_goto (tgt := 25) hx hb dX6_worth_21 (by decide) ?_
    exact tk_ri hQ (tk_s1 hf) rfl hx hb hr hlocks hP hD hS dX6_worth_25
  unfold f_X6_worth at hf
  refine lv_iload_n hx hb dX6_worth_0 rfl (lv_at hl 0 rfl) ?_
  obtain ⟨r1, h2, hf⟩ := tk_b1s hf
  refine tk_ci (ws' := ws) (va_runS (As := [.int p0]) (rest := []) ⟨hx, hb, hml, hown, hts⟩ (c_X6_suitOf l G c3 ws p0 r1 h2 H.size) (va_cwS 1 hts gX6_worth_X6_suitOf rfl rfl rfl hs_X6_suitOf ⟨Nat.le_of_ble_eq_true rfl, Nat.le_of_ble_eq_true rfl⟩) (tk_pS hE hP hD) rfl rfl hl.1 rfl (lv_room (Nat.le_of_ble_eq_true rfl)) dX6_worth_1 ⟨Nat.zero_le _, Nat.zero_le _⟩) hD hS hA (fun H locs hP hD hS => ?_)
  refine lv_iconst (v := 4) hx hb dX6_worth_4 (by decide) ?_
  refine lv_icmp_ne (tgt := 26) hx hb dX6_worth_5 (by decide) (fun h4 => ?_) (fun h4 => ?_)
  · have hf := tk_neg hf h4
    refine lv_iload_n hx hb dX6_worth_26 rfl (lv_at hl 0 rfl) ?_
    refine lv_bipush (v := 8) hx hb dX6_worth_27 (by decide) ?_
    refine tk_irem hx hb dX6_worth_29 (by decide) ?_
    refine lv_istore_n (lv' := [(1, .int (tk_rem p0 (8 : Int32))), (0, .int p0)]) hx hb dX6_worth_30 rfl hl (by decide) rfl (fun ls hl => ?_)
    refine lv_iload_n hx hb dX6_worth_31 rfl (lv_at hl 0 rfl) ?_
    refine lv_iconst (v := 3) hx hb dX6_worth_32 (by decide) ?_
    refine lv_icmp_le (tgt := 42) hx hb dX6_worth_33 (by decide) (fun h5 => ?_) (fun h5 => ?_)
    · have hf := tk_pos hf h5
      refine lv_iconst (v := 1) hx hb dX6_worth_42 (by decide) ?_
      exact tk_ri hQ (tk_s1 hf) rfl hx hb hr hlocks hP hD hS dX6_worth_43
    · have hf := tk_neg hf h5
      refine lv_iload_n hx hb dX6_worth_36 rfl (lv_at hl 0 rfl) ?_
      refine lv_iconst (v := 2) hx hb dX6_worth_37 (by decide) ?_
      refine lv_isub hx hb dX6_worth_38 ?_
      refine lv_goto (tgt := 43) hx hb dX6_worth_39 (by decide) ?_
      exact tk_ri hQ (tk_s1 hf) rfl hx hb hr hlocks hP hD hS dX6_worth_43
  · have hf := tk_pos hf h4
    refine lv_iload_n hx hb dX6_worth_8 rfl (lv_at hl 0 rfl) ?_
    refine lv_bipush (v := 32) hx hb dX6_worth_9 (by decide) ?_
    refine lv_icmp_eq (tgt := 20) hx hb dX6_worth_11 (by decide) (fun h6 => ?_) (fun h6 => ?_)
    · have hf := tk_pos hf h6
      exact J_20 H locs hP hD hS ls (lv_sub hl [] rfl) hf
    · have hf := tk_neg hf h6
      refine lv_iload_n hx hb dX6_worth_14 rfl (lv_at hl 0 rfl) ?_
      refine lv_bipush (v := 52) hx hb dX6_worth_15 (by decide) ?_
      refine lv_icmp_lt (tgt := 24) hx hb dX6_worth_17 (by decide) (fun h7 => ?_) (fun h7 => ?_)
      · have hf := tk_pos hf h7
        refine lv_iconst (v := 1) hx hb dX6_worth_24 (by decide) ?_
        exact tk_ri hQ (tk_s1 hf) rfl hx hb hr hlocks hP hD hS dX6_worth_25
      · have hf := tk_neg hf h7
        exact J_20 H locs hP hD hS ls (lv_sub hl [] rfl) hf
abbrev rm_X6_canBeLaidAway : Room := { frames := 2, cells := 0, slots := 0, locals := 41 }
set_option maxHeartbeats 4000000 in
set_option maxRecDepth 100000 in
theorem c_X6_canBeLaidAway (l : Launch) (G : va_G) (c3 : ClassId × ClassId × ClassId) (ws : va_W) (p0 : Int32) (r0 : Int32) (hf : f_X6_canBeLaidAway p0 = some r0) : tk_Mi l yX6_canBeLaidAway wsX6_canBeLaidAway rm_X6_canBeLaidAway G c3 [.int p0] ws ws r0 := by
  refine tk_ofi (cc := cX6_canBeLaidAway) (maxL := 1) (ret := some .boolean) (by decide) rfl (Nat.le_of_ble_eq_true rfl) ?_
  intro p e s m below meth c A Q ls H locs hx hb hml hr hts hown hlocks hE hA hP hD hS hZ hQ hl
  have hl : lv_has ls 1 [(0, .int p0)] := hl
  have hown : s.vm.findClass RX6 = some m.cls := hown
  unfold f_X6_canBeLaidAway at hf
  refine lv_iload_n hx hb dX6_canBeLaidAway_0 rfl (lv_at hl 0 rfl) ?_
  obtain ⟨r1, h2, hf⟩ := tk_b1s hf
  refine tk_ci (ws' := ws) (va_runS (As := [.int p0]) (rest := []) ⟨hx, hb, hml, hown, hts⟩ (c_X6_worth l G c3 ws p0 r1 h2 H.size) (va_cwS 1 hts gX6_canBeLaidAway_X6_worth rfl rfl rfl hs_X6_worth ⟨Nat.le_of_ble_eq_true rfl, Nat.le_of_ble_eq_true rfl⟩) (tk_pS hE hP hD) rfl rfl hl.1 rfl (lv_room (Nat.le_of_ble_eq_true rfl)) dX6_canBeLaidAway_1 ⟨Nat.zero_le _, Nat.zero_le _⟩) hD hS hA (fun H locs hP hD hS => ?_)
  refine lv_iconst (v := 5) hx hb dX6_canBeLaidAway_4 (by decide) ?_
  refine lv_icmp_ge (tgt := 12) hx hb dX6_canBeLaidAway_5 (by decide) (fun h4 => ?_) (fun h4 => ?_)
  · have hf := tk_pos hf h4
    refine lv_iconst (v := 0) hx hb dX6_canBeLaidAway_12 (by decide) ?_
    exact tk_rz hQ (tk_s1 hf) rfl (by decide) hx hb hr hlocks hP hD hS dX6_canBeLaidAway_13
  · have hf := tk_neg hf h4
    refine lv_iconst (v := 1) hx hb dX6_canBeLaidAway_8 (by decide) ?_
    refine lv_goto (tgt := 13) hx hb dX6_canBeLaidAway_9 (by decide) ?_
    exact tk_rz hQ (tk_s1 hf) rfl (by decide) hx hb hr hlocks hP hD hS dX6_canBeLaidAway_13
abbrev rm_X6_discard : Room := { frames := 6, cells := 1, slots := 6, locals := 90 }
set_option maxHeartbeats 4000000 in
set_option maxRecDepth 100000 in
theorem c_X6_discard (l : Launch) (hlst : l.stackTraces = false) (G : va_G) (c3 : ClassId × ClassId × ClassId) (q : Nat → Nat) (S : tk_ST) (p0 : Int32) (k0 : Int32) (r0 : Int32) (S0 : tk_ST) (hf : f_X6_discard p0 S = some (k0, r0, S0)) : tk_Xi l yX6_discard wsX6_discard rm_X6_discard G c3 [.ref (q 0), .int p0] (tk_H c3 q S) (tk_H c3 q S0) k0 r0 := by
  refine tk_ofXi (cc := cX6_discard) (maxL := 4) (ret := some .int) (by decide) rfl (Nat.le_of_ble_eq_true rfl) ?_
  intro p e s m below meth c A Q ls H locs hx hb hml hr hts hown hlocks hE hA hP hD hS hZ hQ hl
  have hl : lv_has ls 4 [(0, .ref (q 0)), (1, .int p0)] := hl
  have hown : s.vm.findClass RX6 = some m.cls := hown
  have J_62 : ∀ (S_62 : tk_ST) (H : Heap) (locs : List Loc) (_ : va_P G vwCl (tk_H c3 q S_62) H) (_ : va_D A (tk_H c3 q S_62)) (_ : va_S A s.heap H locs) (ls : Array Slot) (_ : lv_has ls 4 []) (_ : f_X6_discard_62 S_62 = some (k0, r0, S0)), W p l e rm_X6_discard s m ([.ref (q 0), .int p0] : List Value).toArray below meth c H locs 0 0 Q (F0 m 62 ls []) := by
    intro S_62 H locs hP hD hS ls hl hf
    unfold f_X6_discard_62 at hf
    exact tk_throw (G := G) (c3 := c3) (cls := "java/lang/IllegalStateException") (text := "the declarer cannot lay the card away") (ik := 79) (is := 186) (ic := 83) hQ (tk_s3 hf).1 (by decide) ex_2 (congrArg (tk_H c3 q) (tk_s3 hf).2.2) hlst hx hb hown ft_2 (hts _ m_X6_discard_cl79) (hts _ m_X6_discard_ie2) hE st_186 (fun w h => hts w (h_X6_discard_x83 w h)) ng_83 hE.2.1.2.2.2.2.2.2.2.2.2.2.2.1 gd_83 hZ.1 hP hD hS (hl.1.trans hml.symm) dX6_discard_62 dX6_discard_65 dX6_discard_66 dX6_discard_68 dX6_discard_71 hZ.2 (Nat.le_of_ble_eq_true rfl) (Nat.le_of_ble_eq_true rfl) (Nat.le_of_ble_eq_true rfl) (Nat.le_of_ble_eq_true rfl) hlocks
  unfold f_X6_discard at hf
  refine lv_iload_n hx hb dX6_discard_0 rfl (lv_at hl 1 rfl) ?_
  obtain ⟨r1, h2, hf⟩ := tk_b1s hf
  refine tk_ci (ws' := (tk_H c3 q S)) (va_runS (As := [.int p0]) (rest := []) ⟨hx, hb, hml, hown, hts⟩ (c_X6_isCard l G c3 (tk_H c3 q S) p0 r1 h2 H.size) (va_cwS 1 hts gX6_discard_X6_isCard rfl rfl rfl hs_X6_isCard ⟨Nat.le_of_ble_eq_true rfl, Nat.le_of_ble_eq_true rfl⟩) (tk_pS hE hP hD) rfl rfl hl.1 rfl (lv_room (Nat.le_of_ble_eq_true rfl)) dX6_discard_1 ⟨Nat.zero_le _, Nat.zero_le _⟩) hD hS hA (fun H locs hP hD hS => ?_)
  refine lv_if_ne (tgt := 17) hx hb dX6_discard_4 (by decide) (fun h4 => ?_) (fun h4 => ?_)
  · have hf := tk_neg hf h4
    refine lv_aload_n hx hb dX6_discard_17 rfl (lv_at hl 0 rfl) ?_
    refine va_get (D := G) (ci := 6) (v := .int (S.1 1)) (C := RX6) (T := TX6) (N := 18) hx hb hts i_X6_discard_X6 hown hE.1 hP 0 rfl rfl 7 (by decide) (hts _ m_X6_discard_f53) (fun _ h9 => h9) rfl dX6_discard_18 ?_
    refine lv_iconst (v := 4) hx hb dX6_discard_21 (by decide) ?_
    refine lv_icmp_eq (tgt := 35) hx hb dX6_discard_22 (by decide) (fun h5 => ?_) (fun h5 => ?_)
    · have hf := tk_pos hf h5
      refine lv_aload_n hx hb dX6_discard_35 rfl (lv_at hl 0 rfl) ?_
      refine va_get (D := G) (ci := 6) (v := .ref (q 13)) (C := RX6) (T := TX6) (N := 18) hx hb hts i_X6_discard_X6 hown hE.1 hP 0 rfl rfl 4 (by decide) (hts _ m_X6_discard_f42) (fun _ h9 => h9) rfl dX6_discard_36 ?_
      refine lv_aload_n hx hb dX6_discard_39 rfl (lv_at hl 0 rfl) ?_
      refine va_get (D := G) (ci := 6) (v := .int (S.1 3)) (C := RX6) (T := TX6) (N := 18) hx hb hts i_X6_discard_X6 hown hE.1 hP 0 rfl rfl 9 (by decide) (hts _ m_X6_discard_f59) (fun _ h9 => h9) rfl dX6_discard_40 ?_
      obtain ⟨r6, h7, hf⟩ := tk_b1s hf
      refine tk_cl (ws' := (tk_H c3 q S)) (va_runV (As := [.int (S.1 3)]) (rest := []) ⟨hx, hb, hml, hown, hts⟩ (c_X3_at_p13 l G c3 q S (S.1 3) r6 h7 H.size) (cwV 1 hts gX6_discard_X3_at rfl rfl rfl hv_X3_at ⟨Nat.le_of_ble_eq_true rfl, Nat.le_of_ble_eq_true rfl⟩) (tk_pV hE hP hD 13 rfl rfl) rfl rfl hl.1 rfl (lv_room (Nat.le_of_ble_eq_true rfl)) dX6_discard_43 ⟨Nat.zero_le _, Nat.zero_le _⟩) hD hS hA (fun H locs hP hD hS => ?_)
      refine lv_lstore_n (lv' := [(2, .long r6), (0, .ref (q 0)), (1, .int p0)]) hx hb dX6_discard_46 rfl hl (by decide) rfl (fun ls hl => ?_)
      refine lv_lload_n hx hb dX6_discard_47 rfl (lv_at hl 0 rfl) ?_
      refine lv_iload_n hx hb dX6_discard_48 rfl (lv_at hl 2 rfl) ?_
      obtain ⟨r9, h10, hf⟩ := tk_b1s hf
      refine tk_ci (ws' := (tk_H c3 q S)) (va_runS (As := [.long r6, .int p0]) (rest := []) ⟨hx, hb, hml, hown, hts⟩ (c_X6_holds l G c3 (tk_H c3 q S) r6 p0 r9 h10 H.size) (va_cwS 2 hts gX6_discard_X6_holds rfl rfl rfl hs_X6_holds ⟨Nat.le_of_ble_eq_true rfl, Nat.le_of_ble_eq_true rfl⟩) (tk_pS hE hP hD) rfl rfl hl.1 rfl (lv_room (Nat.le_of_ble_eq_true rfl)) dX6_discard_49 ⟨Nat.zero_le _, Nat.zero_le _⟩) hD hS hA (fun H locs hP hD hS => ?_)
      refine lv_if_eq (tgt := 62) hx hb dX6_discard_52 (by decide) (fun h12 => ?_) (fun h12 => ?_)
      · have hf := tk_pos hf h12
        exact J_62 S H locs hP hD hS ls (lv_sub hl [] rfl) hf
      · have hf := tk_neg hf h12
        refine lv_iload_n hx hb dX6_discard_55 rfl (lv_at hl 2 rfl) ?_
        obtain ⟨r13, h14, hf⟩ := tk_b1s hf
        refine tk_ci (ws' := (tk_H c3 q S)) (va_runS (As := [.int p0]) (rest := []) ⟨hx, hb, hml, hown, hts⟩ (c_X6_canBeLaidAway l G c3 (tk_H c3 q S) p0 r13 h14 H.size) (va_cwS 1 hts gX6_discard_X6_canBeLaidAway rfl rfl rfl hs_X6_canBeLaidAway ⟨Nat.le_of_ble_eq_true rfl, Nat.le_of_ble_eq_true rfl⟩) (tk_pS hE hP hD) rfl rfl hl.1 rfl (lv_room (Nat.le_of_ble_eq_true rfl)) dX6_discard_56 ⟨Nat.zero_le _, Nat.zero_le _⟩) hD hS hA (fun H locs hP hD hS => ?_)
        refine lv_if_ne (tgt := 72) hx hb dX6_discard_59 (by decide) (fun h16 => ?_) (fun h16 => ?_)
        · have hf := tk_neg hf h16
          refine lv_aload_n hx hb dX6_discard_72 rfl (lv_at hl 1 rfl) ?_
          refine va_get (D := G) (ci := 6) (v := .ref (q 13)) (C := RX6) (T := TX6) (N := 18) hx hb hts i_X6_discard_X6 hown hE.1 hP 0 rfl rfl 4 (by decide) (hts _ m_X6_discard_f42) (fun _ h9 => h9) rfl dX6_discard_73 ?_
          refine lv_aload_n hx hb dX6_discard_76 rfl (lv_at hl 1 rfl) ?_
          refine va_get (D := G) (ci := 6) (v := .int (S.1 3)) (C := RX6) (T := TX6) (N := 18) hx hb hts i_X6_discard_X6 hown hE.1 hP 0 rfl rfl 9 (by decide) (hts _ m_X6_discard_f59) (fun _ h9 => h9) rfl dX6_discard_77 ?_
          refine lv_lload_n hx hb dX6_discard_80 rfl (lv_at hl 0 rfl) ?_
          refine lv_iload_n hx hb dX6_discard_81 rfl (lv_at hl 2 rfl) ?_
          obtain ⟨r17, h18, hf⟩ := tk_b1s hf
          refine tk_cl (ws' := (tk_H c3 q S)) (va_runS (As := [.int p0]) (rest := [.long r6, .int (S.1 3), .ref (q 13)]) ⟨hx, hb, hml, hown, hts⟩ (c_X6_only l G c3 (tk_H c3 q S) p0 r17 h18 H.size) (va_cwS 1 hts gX6_discard_X6_only rfl rfl rfl hs_X6_only ⟨Nat.le_of_ble_eq_true rfl, Nat.le_of_ble_eq_true rfl⟩) (tk_pS hE hP hD) rfl rfl hl.1 rfl (lv_room (Nat.le_of_ble_eq_true rfl)) dX6_discard_82 ⟨Nat.zero_le _, Nat.zero_le _⟩) hD hS hA (fun H locs hP hD hS => ?_)
          refine lv_ldc2 (v := -1) hx hb hown (hts _ m_X6_discard_k166) dX6_discard_85 ?_
          refine lv_lxor hx hb dX6_discard_88 ?_
          refine lv_land hx hb dX6_discard_89 ?_
          obtain ⟨S22, h21, hf⟩ := tk_b1s hf
          refine tk_cv (ws' := (tk_H c3 q S22)) (va_runV (As := [.int (S.1 3), .long (r6 &&& (r17 ^^^ (-1 : Int64)))]) (rest := []) ⟨hx, hb, hml, hown, hts⟩ (c_X3_put_p13 l G c3 q S (S.1 3) (r6 &&& (r17 ^^^ (-1 : Int64))) S22 h21 H.size) (cwV 2 hts gX6_discard_X3_put rfl rfl rfl hv_X3_put ⟨Nat.le_of_ble_eq_true rfl, Nat.le_of_ble_eq_true rfl⟩) (tk_pV hE hP hD 13 rfl rfl) rfl rfl hl.1 rfl (lv_room (Nat.le_of_ble_eq_true rfl)) dX6_discard_90 ⟨Nat.zero_le _, Nat.zero_le _⟩) hD hS hA (fun H locs hP hD hS => ?_)
          refine lv_aload_n hx hb dX6_discard_93 rfl (lv_at hl 1 rfl) ?_
          refine lv_dup hx hb dX6_discard_94 rfl ?_
          refine va_get (D := G) (ci := 6) (v := .long (S22.2.1 0)) (C := RX6) (T := TX6) (N := 18) hx hb hts i_X6_discard_X6 hown hE.1 hP 0 rfl rfl 14 (by decide) (hts _ m_X6_discard_f191) (fun _ h9 => h9) rfl dX6_discard_95 ?_
          refine lv_iload_n hx hb dX6_discard_98 rfl (lv_at hl 2 rfl) ?_
          obtain ⟨r23, h24, hf⟩ := tk_b1s hf
          refine tk_cl (ws' := (tk_H c3 q S22)) (va_runS (As := [.int p0]) (rest := [.long (S22.2.1 0), .ref (q 0)]) ⟨hx, hb, hml, hown, hts⟩ (c_X6_only l G c3 (tk_H c3 q S22) p0 r23 h24 H.size) (va_cwS 1 hts gX6_discard_X6_only rfl rfl rfl hs_X6_only ⟨Nat.le_of_ble_eq_true rfl, Nat.le_of_ble_eq_true rfl⟩) (tk_pS hE hP hD) rfl rfl hl.1 rfl (lv_room (Nat.le_of_ble_eq_true rfl)) dX6_discard_99 ⟨Nat.zero_le _, Nat.zero_le _⟩) hD hS hA (fun H locs hP hD hS => ?_)
          refine lv_lor hx hb dX6_discard_102 ?_
          refine va_put (D := G) (ci := 6) (v := .long ((S22.2.1 0) ||| r23)) (ty := .long) (C := RX6) (T := TX6) (N := 18) hx hb hts i_X6_discard_X6 tyX6 tyX6_ok nmX6 hown hE.1 hP hD hS 0 rfl rfl 14 (by decide) (hts _ m_X6_discard_f191) (fun _ h9 => h9) rfl (by decide +kernel) rfl rfl (Nat.le_of_ble_eq_true rfl) dX6_discard_103 (fun H locs hP hD hS => ?_)
          have hP : va_P G vwCl (tk_H c3 q (tk_L S22 0 ((S22.2.1 0) ||| r23))) H := hP
          have hD : va_D A (tk_H c3 q (tk_L S22 0 ((S22.2.1 0) ||| r23))) := hD
          refine lv_aload_n hx hb dX6_discard_106 rfl (lv_at hl 1 rfl) ?_
          refine lv_dup hx hb dX6_discard_107 rfl ?_
          refine va_get (D := G) (ci := 6) (v := .int (S22.1 7)) (C := RX6) (T := TX6) (N := 18) hx hb hts i_X6_discard_X6 hown hE.1 hP 0 rfl rfl 13 (by decide) (hts _ m_X6_discard_f168) (fun _ h9 => h9) rfl dX6_discard_108 ?_
          refine lv_iconst (v := 1) hx hb dX6_discard_111 (by decide) ?_
          refine lv_isub hx hb dX6_discard_112 ?_
          refine va_put (D := G) (ci := 6) (v := .int ((S22.1 7) - (1 : Int32))) (ty := .int) (C := RX6) (T := TX6) (N := 18) hx hb hts i_X6_discard_X6 tyX6 tyX6_ok nmX6 hown hE.1 hP hD hS 0 rfl rfl 13 (by decide) (hts _ m_X6_discard_f168) (fun _ h9 => h9) rfl (by decide +kernel) rfl rfl (Nat.le_of_ble_eq_true rfl) dX6_discard_113 (fun H locs hP hD hS => ?_)
          have hP : va_P G vwCl (tk_H c3 q (tk_I (tk_L S22 0 ((S22.2.1 0) ||| r23)) 7 ((S22.1 7) - (1 : Int32)))) H := hP
          have hD : va_D A (tk_H c3 q (tk_I (tk_L S22 0 ((S22.2.1 0) ||| r23)) 7 ((S22.1 7) - (1 : Int32)))) := hD
          refine lv_aload_n hx hb dX6_discard_116 rfl (lv_at hl 1 rfl) ?_
          refine va_get (D := G) (ci := 6) (v := .int ((S22.1 7) - (1 : Int32))) (C := RX6) (T := TX6) (N := 18) hx hb hts i_X6_discard_X6 hown hE.1 hP 0 rfl rfl 13 (by decide) (hts _ m_X6_discard_f168) (fun _ h9 => h9) rfl dX6_discard_117 ?_
          refine lv_if_ne (tgt := 127) hx hb dX6_discard_120 (by decide) (fun h26 => ?_) (fun h26 => ?_)
          · have hf := tk_neg hf h26
            refine lv_aload_n hx hb dX6_discard_127 rfl (lv_at hl 1 rfl) ?_
            refine va_get (D := G) (ci := 6) (v := .int ((S22.1 7) - (1 : Int32))) (C := RX6) (T := TX6) (N := 18) hx hb hts i_X6_discard_X6 hown hE.1 hP 0 rfl rfl 13 (by decide) (hts _ m_X6_discard_f168) (fun _ h9 => h9) rfl dX6_discard_128 ?_
            exact tk_xri hQ (tk_s3 hf).1 (tk_s3 hf).2.1 (congrArg (tk_H c3 q) (tk_s3 hf).2.2) hx hb hr hlocks hP hD hS dX6_discard_131
          · have hf := tk_pos hf h26
            refine lv_aload_n hx hb dX6_discard_123 rfl (lv_at hl 1 rfl) ?_
            obtain ⟨S29, h28, hf⟩ := tk_b1s hf
            refine tk_cv (ws' := (tk_H c3 q S29)) (va_runV (As := []) (rest := []) ⟨hx, hb, hml, hown, hts⟩ (c_X6_beginPlay l G c3 q (tk_I (tk_L S22 0 ((S22.2.1 0) ||| r23)) 7 ((S22.1 7) - (1 : Int32))) S29 h28 H.size) (cwV 0 hts gX6_discard_X6_beginPlay rfl rfl rfl hv_X6_beginPlay ⟨Nat.le_of_ble_eq_true rfl, Nat.le_of_ble_eq_true rfl⟩) (tk_pV hE hP hD 0 rfl rfl) rfl rfl hl.1 rfl (lv_room (Nat.le_of_ble_eq_true rfl)) dX6_discard_124 ⟨Nat.zero_le _, Nat.zero_le _⟩) hD hS hA (fun H locs hP hD hS => ?_)
            refine lv_aload_n hx hb dX6_discard_127 rfl (lv_at hl 1 rfl) ?_
            refine va_get (D := G) (ci := 6) (v := .int (S29.1 7)) (C := RX6) (T := TX6) (N := 18) hx hb hts i_X6_discard_X6 hown hE.1 hP 0 rfl rfl 13 (by decide) (hts _ m_X6_discard_f168) (fun _ h9 => h9) rfl dX6_discard_128 ?_
            exact tk_xri hQ (tk_s3 hf).1 (tk_s3 hf).2.1 (congrArg (tk_H c3 q) (tk_s3 hf).2.2) hx hb hr hlocks hP hD hS dX6_discard_131
        · have hf := tk_pos hf h16
          exact J_62 S H locs hP hD hS ls (lv_sub hl [] rfl) hf
    · have hf := tk_neg hf h5
      exact tk_throw (G := G) (c3 := c3) (cls := "java/lang/IllegalStateException") (text := "nothing is laid away now") (ik := 79) (is := 177) (ic := 83) hQ (tk_s3 hf).1 (by decide) ex_2 (congrArg (tk_H c3 q) (tk_s3 hf).2.2) hlst hx hb hown ft_2 (hts _ m_X6_discard_cl79) (hts _ m_X6_discard_ie2) hE st_177 (fun w h => hts w (h_X6_discard_x83 w h)) ng_83 hE.2.1.2.2.2.2.2.2.2.2.2.2.2.1 gd_83 hZ.1 hP hD hS (hl.1.trans hml.symm) dX6_discard_25 dX6_discard_28 dX6_discard_29 dX6_discard_31 dX6_discard_34 hZ.2 (Nat.le_of_ble_eq_true rfl) (Nat.le_of_ble_eq_true rfl) (Nat.le_of_ble_eq_true rfl) (Nat.le_of_ble_eq_true rfl) hlocks
  · have hf := tk_pos hf h4
    exact tk_throw (G := G) (c3 := c3) (cls := "java/lang/IndexOutOfBoundsException") (text := "no such card") (ik := 126) (is := 175) (ic := 130) hQ (tk_s3 hf).1 (by decide) ex_3 (congrArg (tk_H c3 q) (tk_s3 hf).2.2) hlst hx hb hown ft_3 (hts _ m_X6_discard_cl126) (hts _ m_X6_discard_ie3) hE st_175 (fun w h => hts w (h_X6_discard_x130 w h)) ng_130 hE.2.1.2.2.2.2.2.2.2.2.2.2.2.2.1 gd_130 hZ.1 hP hD hS (hl.1.trans hml.symm) dX6_discard_7 dX6_discard_10 dX6_discard_11 dX6_discard_13 dX6_discard_16 hZ.2 (Nat.le_of_ble_eq_true rfl) (Nat.le_of_ble_eq_true rfl) (Nat.le_of_ble_eq_true rfl) (Nat.le_of_ble_eq_true rfl) hlocks
abbrev rm_X6_isAnnounced : Room := { frames := 0, cells := 0, slots := 0, locals := 0 }
set_option maxHeartbeats 4000000 in
set_option maxRecDepth 100000 in
theorem c_X6_isAnnounced (l : Launch) (G : va_G) (c3 : ClassId × ClassId × ClassId) (q : Nat → Nat) (S : tk_ST) (p0 : Int32) (r0 : Int32) (hf : f_X6_isAnnounced p0 S = some r0) : tk_Mi l yX6_isAnnounced wsX6_isAnnounced rm_X6_isAnnounced G c3 [.ref (q 0), .int p0] (tk_H c3 q S) (tk_H c3 q S) r0 := by
  refine tk_ofi (cc := cX6_isAnnounced) (maxL := 2) (ret := some .boolean) (by decide) rfl (Nat.le_of_ble_eq_true rfl) ?_
  intro p e s m below meth c A Q ls H locs hx hb hml hr hts hown hlocks hE hA hP hD hS hZ hQ hl
  have hl : lv_has ls 2 [(0, .ref (q 0)), (1, .int p0)] := hl
  have hown : s.vm.findClass RX6 = some m.cls := hown
  unfold f_X6_isAnnounced at hf
  refine lv_aload_n hx hb dX6_isAnnounced_0 rfl (lv_at hl 0 rfl) ?_
  refine va_get (D := G) (ci := 6) (v := .int (S.1 8)) (C := RX6) (T := TX6) (N := 18) hx hb hts i_X6_isAnnounced_X6 hown hE.1 hP 0 rfl rfl 16 (by decide) (hts _ m_X6_isAnnounced_f214) (fun _ h9 => h9) rfl dX6_isAnnounced_1 ?_
  refine lv_iload_n hx hb dX6_isAnnounced_4 rfl (lv_at hl 1 rfl) ?_
  refine lv_ishr hx hb dX6_isAnnounced_5 ?_
  refine lv_iconst (v := 1) hx hb dX6_isAnnounced_6 (by decide) ?_
  refine lv_iand hx hb dX6_isAnnounced_7 ?_
  refine lv_iconst (v := 1) hx hb dX6_isAnnounced_8 (by decide) ?_
  refine lv_icmp_ne (tgt := 16) hx hb dX6_isAnnounced_9 (by decide) (fun h1 => ?_) (fun h1 => ?_)
  · have hf := tk_neg hf h1
    refine lv_iconst (v := 0) hx hb dX6_isAnnounced_16 (by decide) ?_
    exact tk_rz hQ (tk_s1 hf) rfl (by decide) hx hb hr hlocks hP hD hS dX6_isAnnounced_17
  · have hf := tk_pos hf h1
    refine lv_iconst (v := 1) hx hb dX6_isAnnounced_12 (by decide) ?_
    refine lv_goto (tgt := 17) hx hb dX6_isAnnounced_13 (by decide) ?_
    exact tk_rz hQ (tk_s1 hf) rfl (by decide) hx hb hr hlocks hP hD hS dX6_isAnnounced_17
abbrev rm_X6_announce : Room := { frames := 6, cells := 1, slots := 6, locals := 90 }
set_option maxHeartbeats 4000000 in
set_option maxRecDepth 100000 in
theorem c_X6_announce (l : Launch) (hlst : l.stackTraces = false) (G : va_G) (c3 : ClassId × ClassId × ClassId) (q : Nat → Nat) (S : tk_ST) (p0 : Int32) (k0 : Int32) (r0 : Int32) (S0 : tk_ST) (hf : f_X6_announce p0 S = some (k0, r0, S0)) : tk_Xi l yX6_announce wsX6_announce rm_X6_announce G c3 [.ref (q 0), .int p0] (tk_H c3 q S) (tk_H c3 q S0) k0 r0 := by
  refine tk_ofXi (cc := cX6_announce) (maxL := 2) (ret := some .int) (by decide) rfl (Nat.le_of_ble_eq_true rfl) ?_
  intro p e s m below meth c A Q ls H locs hx hb hml hr hts hown hlocks hE hA hP hD hS hZ hQ hl
  have hl : lv_has ls 2 [(0, .ref (q 0)), (1, .int p0)] := hl
  have hown : s.vm.findClass RX6 = some m.cls := hown
  have J_9 : ∀ (S_9 : tk_ST) (H : Heap) (locs : List Loc) (_ : va_P G vwCl (tk_H c3 q S_9) H) (_ : va_D A (tk_H c3 q S_9)) (_ : va_S A s.heap H locs) (ls : Array Slot) (_ : lv_has ls 2 []) (_ : f_X6_announce_9 S_9 = some (k0, r0, S0)), W p l e rm_X6_announce s m ([.ref (q 0), .int p0] : List Value).toArray below meth c H locs 0 0 Q (F0 m 9 ls []) := by
    intro S_9 H locs hP hD hS ls hl hf
    unfold f_X6_announce_9 at hf
    exact tk_throw (G := G) (c3 := c3) (cls := "java/lang/IndexOutOfBoundsException") (text := "no such bird") (ik := 126) (is := 197) (ic := 130) hQ (tk_s3 hf).1 (by decide) ex_3 (congrArg (tk_H c3 q) (tk_s3 hf).2.2) hlst hx hb hown ft_3 (hts _ m_X6_announce_cl126) (hts _ m_X6_announce_ie3) hE st_197 (fun w h => hts w (h_X6_announce_x130 w h)) ng_130 hE.2.1.2.2.2.2.2.2.2.2.2.2.2.2.1 gd_130 hZ.1 hP hD hS (hl.1.trans hml.symm) dX6_announce_9 dX6_announce_12 dX6_announce_13 dX6_announce_15 dX6_announce_18 hZ.2 (Nat.le_of_ble_eq_true rfl) (Nat.le_of_ble_eq_true rfl) (Nat.le_of_ble_eq_true rfl) (Nat.le_of_ble_eq_true rfl) hlocks
  have J_44 : ∀ (S_44 : tk_ST) (H : Heap) (locs : List Loc) (_ : va_P G vwCl (tk_H c3 q S_44) H) (_ : va_D A (tk_H c3 q S_44)) (_ : va_S A s.heap H locs) (ls : Array Slot) (_ : lv_has ls 2 []) (_ : f_X6_announce_44 S_44 = some (k0, r0, S0)), W p l e rm_X6_announce s m ([.ref (q 0), .int p0] : List Value).toArray below meth c H locs 0 0 Q (F0 m 44 ls []) := by
    intro S_44 H locs hP hD hS ls hl hf
    unfold f_X6_announce_44 at hf
    exact tk_throw (G := G) (c3 := c3) (cls := "java/lang/IllegalStateException") (text := "birds are announced ahead of the first trick") (ik := 79) (is := 205) (ic := 83) hQ (tk_s3 hf).1 (by decide) ex_2 (congrArg (tk_H c3 q) (tk_s3 hf).2.2) hlst hx hb hown ft_2 (hts _ m_X6_announce_cl79) (hts _ m_X6_announce_ie2) hE st_205 (fun w h => hts w (h_X6_announce_x83 w h)) ng_83 hE.2.1.2.2.2.2.2.2.2.2.2.2.2.1 gd_83 hZ.1 hP hD hS (hl.1.trans hml.symm) dX6_announce_44 dX6_announce_47 dX6_announce_48 dX6_announce_50 dX6_announce_53 hZ.2 (Nat.le_of_ble_eq_true rfl) (Nat.le_of_ble_eq_true rfl) (Nat.le_of_ble_eq_true rfl) (Nat.le_of_ble_eq_true rfl) hlocks
  have J_98 : ∀ (x1_98 : Int32) (S_98 : tk_ST) (H : Heap) (locs : List Loc) (_ : va_P G vwCl (tk_H c3 q S_98) H) (_ : va_D A (tk_H c3 q S_98)) (_ : va_S A s.heap H locs) (ls : Array Slot) (_ : lv_has ls 2 [(0, .ref (q 0)), (1, .int x1_98)]) (_ : f_X6_announce_98 x1_98 S_98 = some (k0, r0, S0)), W p l e rm_X6_announce s m ([.ref (q 0), .int p0] : List Value).toArray below meth c H locs 0 0 Q (F0 m 98 ls []) := by
    intro x1_98 S_98 H locs hP hD hS ls hl hf
    unfold f_X6_announce_98 at hf
    refine lv_aload_n hx hb dX6_announce_98 rfl (lv_at hl 0 rfl) ?_
    refine lv_dup hx hb dX6_announce_99 rfl ?_
    refine va_get (D := G) (ci := 6) (v := .int (S_98.1 8)) (C := RX6) (T := TX6) (N := 18) hx hb hts i_X6_announce_X6 hown hE.1 hP 0 rfl rfl 16 (by decide) (hts _ m_X6_announce_f214) (fun _ h9 => h9) rfl dX6_announce_100 ?_
    refine lv_iconst (v := 1) hx hb dX6_announce_103 (by decide) ?_
    refine lv_iload_n hx hb dX6_announce_104 rfl (lv_at hl 1 rfl) ?_
    refine lv_ishl hx hb dX6_announce_105 ?_
    refine lv_ior hx hb dX6_announce_106 ?_
    refine va_put (D := G) (ci := 6) (v := .int ((S_98.1 8) ||| ((1 : Int32) <<< (x1_98 &&& 31)))) (ty := .int) (C := RX6) (T := TX6) (N := 18) hx hb hts i_X6_announce_X6 tyX6 tyX6_ok nmX6 hown hE.1 hP hD hS 0 rfl rfl 16 (by decide) (hts _ m_X6_announce_f214) (fun _ h9 => h9) rfl (by decide +kernel) rfl rfl (Nat.le_of_ble_eq_true rfl) dX6_announce_107 (fun H locs hP hD hS => ?_)
    have hP : va_P G vwCl (tk_H c3 q (tk_I S_98 8 ((S_98.1 8) ||| ((1 : Int32) <<< (x1_98 &&& 31))))) H := hP
    have hD : va_D A (tk_H c3 q (tk_I S_98 8 ((S_98.1 8) ||| ((1 : Int32) <<< (x1_98 &&& 31))))) := hD
    refine lv_aload_n hx hb dX6_announce_110 rfl (lv_at hl 0 rfl) ?_
    refine va_get (D := G) (ci := 6) (v := .int ((S_98.1 8) ||| ((1 : Int32) <<< (x1_98 &&& 31)))) (C := RX6) (T := TX6) (N := 18) hx hb hts i_X6_announce_X6 hown hE.1 hP 0 rfl rfl 16 (by decide) (hts _ m_X6_announce_f214) (fun _ h9 => h9) rfl dX6_announce_111 ?_
    obtain ⟨r1, h2, hf⟩ := tk_b1s hf
    refine tk_ci (ws' := (tk_H c3 q (tk_I S_98 8 ((S_98.1 8) ||| ((1 : Int32) <<< (x1_98 &&& 31)))))) (va_runS (As := [.int ((S_98.1 8) ||| ((1 : Int32) <<< (x1_98 &&& 31)))]) (rest := []) ⟨hx, hb, hml, hown, hts⟩ (c_J6_bitCount_0f7a4 l G c3 (tk_H c3 q (tk_I S_98 8 ((S_98.1 8) ||| ((1 : Int32) <<< (x1_98 &&& 31))))) ((S_98.1 8) ||| ((1 : Int32) <<< (x1_98 &&& 31))) r1 h2 H.size) (va_cwS 1 hts gX6_announce_J6_bitCount_0f7a4 rfl rfl rfl hs_J6_bitCount_0f7a4 ⟨Nat.le_of_ble_eq_true rfl, Nat.le_of_ble_eq_true rfl⟩) (tk_pS hE hP hD) rfl rfl hl.1 rfl (lv_room (Nat.le_of_ble_eq_true rfl)) dX6_announce_114 ⟨Nat.zero_le _, Nat.zero_le _⟩) hD hS hA (fun H locs hP hD hS => ?_)
    exact tk_xri hQ (tk_s3 hf).1 (tk_s3 hf).2.1 (congrArg (tk_H c3 q) (tk_s3 hf).2.2) hx hb hr hlocks hP hD hS dX6_announce_117
  unfold f_X6_announce at hf
  refine lv_iload_n hx hb dX6_announce_0 rfl (lv_at hl 1 rfl) ?_
  refine lv_if_lt (tgt := 9) hx hb dX6_announce_1 (by decide) (fun h4 => ?_) (fun h4 => ?_)
  · have hf := tk_pos hf h4
    exact J_9 S H locs hP hD hS ls (lv_sub hl [] rfl) hf
  · have hf := tk_neg hf h4
    refine lv_iload_n hx hb dX6_announce_4 rfl (lv_at hl 1 rfl) ?_
    refine lv_iconst (v := 2) hx hb dX6_announce_5 (by decide) ?_
    refine lv_icmp_lt (tgt := 19) hx hb dX6_announce_6 (by decide) (fun h5 => ?_) (fun h5 => ?_)
    · have hf := tk_pos hf h5
      refine lv_aload_n hx hb dX6_announce_19 rfl (lv_at hl 0 rfl) ?_
      refine va_get (D := G) (ci := 6) (v := .int (S.1 1)) (C := RX6) (T := TX6) (N := 18) hx hb hts i_X6_announce_X6 hown hE.1 hP 0 rfl rfl 7 (by decide) (hts _ m_X6_announce_f53) (fun _ h9 => h9) rfl dX6_announce_20 ?_
      refine lv_iconst (v := 5) hx hb dX6_announce_23 (by decide) ?_
      refine lv_icmp_ne (tgt := 44) hx hb dX6_announce_24 (by decide) (fun h6 => ?_) (fun h6 => ?_)
      · have hf := tk_neg hf h6
        exact J_44 S H locs hP hD hS ls (lv_sub hl [] rfl) hf
      · have hf := tk_pos hf h6
        refine lv_aload_n hx hb dX6_announce_27 rfl (lv_at hl 0 rfl) ?_
        refine va_get (D := G) (ci := 6) (v := .int (S.1 9)) (C := RX6) (T := TX6) (N := 18) hx hb hts i_X6_announce_X6 hown hE.1 hP 0 rfl rfl 17 (by decide) (hts _ m_X6_announce_f199) (fun _ h9 => h9) rfl dX6_announce_28 ?_
        refine lv_if_gt (tgt := 44) hx hb dX6_announce_31 (by decide) (fun h7 => ?_) (fun h7 => ?_)
        · have hf := tk_pos hf h7
          exact J_44 S H locs hP hD hS ls (lv_sub hl [] rfl) hf
        · have hf := tk_neg hf h7
          refine lv_aload_n hx hb dX6_announce_34 rfl (lv_at hl 0 rfl) ?_
          refine va_get (D := G) (ci := 6) (v := .ref (q 5)) (C := RX6) (T := TX6) (N := 18) hx hb hts i_X6_announce_X6 hown hE.1 hP 0 rfl rfl 2 (by decide) (hts _ m_X6_announce_f26) (fun _ h9 => h9) rfl dX6_announce_35 ?_
          refine va_getN (D := G) (ci := 5) (v := .int (S.1 14)) (C := RX5) (T := TX5) (N := 3) hx hb hts i_X6_announce_X5 hown hE.1 hP 5 rfl rfl 2 (by decide) (va_Nw.use rfl hE.2.1.2.1) (fun _ h9 => h9) rfl dX6_announce_38 ?_
          refine lv_if_le (tgt := 54) hx hb dX6_announce_41 (by decide) (fun h8 => ?_) (fun h8 => ?_)
          · have hf := tk_pos hf h8
            refine lv_aload_n hx hb dX6_announce_54 rfl (lv_at hl 0 rfl) ?_
            refine lv_iload_n hx hb dX6_announce_55 rfl (lv_at hl 1 rfl) ?_
            obtain ⟨r9, h10, hf⟩ := tk_b1s hf
            refine tk_ci (ws' := (tk_H c3 q S)) (va_runV (As := [.int p0]) (rest := []) ⟨hx, hb, hml, hown, hts⟩ (c_X6_isAnnounced l G c3 q S p0 r9 h10 H.size) (cwV 1 hts gX6_announce_X6_isAnnounced rfl rfl rfl hv_X6_isAnnounced ⟨Nat.le_of_ble_eq_true rfl, Nat.le_of_ble_eq_true rfl⟩) (tk_pV hE hP hD 0 rfl rfl) rfl rfl hl.1 rfl (lv_room (Nat.le_of_ble_eq_true rfl)) dX6_announce_56 ⟨Nat.zero_le _, Nat.zero_le _⟩) hD hS hA (fun H locs hP hD hS => ?_)
            refine lv_if_eq (tgt := 72) hx hb dX6_announce_59 (by decide) (fun h12 => ?_) (fun h12 => ?_)
            · have hf := tk_pos hf h12
              refine lv_iload_n hx hb dX6_announce_72 rfl (lv_at hl 1 rfl) ?_
              refine lv_iconst (v := 1) hx hb dX6_announce_73 (by decide) ?_
              refine lv_icmp_ne (tgt := 98) hx hb dX6_announce_74 (by decide) (fun h13 => ?_) (fun h13 => ?_)
              · have hf := tk_neg hf h13
                exact J_98 p0 S H locs hP hD hS ls (lv_sub hl [0, 1] rfl) hf
              · have hf := tk_pos hf h13
                refine lv_aload_n hx hb dX6_announce_77 rfl (lv_at hl 0 rfl) ?_
                refine va_get (D := G) (ci := 6) (v := .ref (q 4)) (C := RX6) (T := TX6) (N := 18) hx hb hts i_X6_announce_X6 hown hE.1 hP 0 rfl rfl 1 (by decide) (hts _ m_X6_announce_f19) (fun _ h9 => h9) rfl dX6_announce_78 ?_
                refine va_getN (D := G) (ci := 0) (v := .int (S.1 11)) (C := RX0) (T := TX0) (N := 3) hx hb hts i_X6_announce_X0 hown hE.1 hP 4 rfl rfl 1 (by decide) (va_Nw.use rfl hE.2.1.1) (fun _ h9 => h9) rfl dX6_announce_81 ?_
                refine lv_iconst (v := 3) hx hb dX6_announce_84 (by decide) ?_
                refine lv_icmp_le (tgt := 98) hx hb dX6_announce_85 (by decide) (fun h14 => ?_) (fun h14 => ?_)
                · have hf := tk_pos hf h14
                  exact J_98 p0 S H locs hP hD hS ls (lv_sub hl [0, 1] rfl) hf
                · have hf := tk_neg hf h14
                  exact tk_throw (G := G) (c3 := c3) (cls := "java/lang/IllegalStateException") (text := "no king is called at this level") (ik := 79) (is := 212) (ic := 83) hQ (tk_s3 hf).1 (by decide) ex_2 (congrArg (tk_H c3 q) (tk_s3 hf).2.2) hlst hx hb hown ft_2 (hts _ m_X6_announce_cl79) (hts _ m_X6_announce_ie2) hE st_212 (fun w h => hts w (h_X6_announce_x83 w h)) ng_83 hE.2.1.2.2.2.2.2.2.2.2.2.2.2.1 gd_83 hZ.1 hP hD hS (hl.1.trans hml.symm) dX6_announce_88 dX6_announce_91 dX6_announce_92 dX6_announce_94 dX6_announce_97 hZ.2 (Nat.le_of_ble_eq_true rfl) (Nat.le_of_ble_eq_true rfl) (Nat.le_of_ble_eq_true rfl) (Nat.le_of_ble_eq_true rfl) hlocks
            · have hf := tk_neg hf h12
              exact tk_throw (G := G) (c3 := c3) (cls := "java/lang/IllegalStateException") (text := "the bird is announced") (ik := 79) (is := 210) (ic := 83) hQ (tk_s3 hf).1 (by decide) ex_2 (congrArg (tk_H c3 q) (tk_s3 hf).2.2) hlst hx hb hown ft_2 (hts _ m_X6_announce_cl79) (hts _ m_X6_announce_ie2) hE st_210 (fun w h => hts w (h_X6_announce_x83 w h)) ng_83 hE.2.1.2.2.2.2.2.2.2.2.2.2.2.1 gd_83 hZ.1 hP hD hS (hl.1.trans hml.symm) dX6_announce_62 dX6_announce_65 dX6_announce_66 dX6_announce_68 dX6_announce_71 hZ.2 (Nat.le_of_ble_eq_true rfl) (Nat.le_of_ble_eq_true rfl) (Nat.le_of_ble_eq_true rfl) (Nat.le_of_ble_eq_true rfl) hlocks
          · have hf := tk_neg hf h8
            exact J_44 S H locs hP hD hS ls (lv_sub hl [] rfl) hf
    · have hf := tk_neg hf h5
      exact J_9 S H locs hP hD hS ls (lv_sub hl [] rfl) hf
set_option maxHeartbeats 4000000 in
set_option maxRecDepth 100000 in
theorem c_X2_at_p6 (l : Launch) (G : va_G) (c3 : ClassId × ClassId × ClassId) (q : Nat → Nat) (S : tk_ST) (p0 : Int32) (r0 : Int32) (hf : f_X2_at_p6 p0 S = some r0) : tk_Mi l yX2_at wsX2_at rm_X2_at G c3 [.ref (q 6), .int p0] (tk_H c3 q S) (tk_H c3 q S) r0 := by
  refine tk_ofi (cc := cX2_at) (maxL := 2) (ret := some .int) (by decide) rfl (Nat.le_of_ble_eq_true rfl) ?_
  intro p e s m below meth c A Q ls H locs hx hb hml hr hts hown hlocks hE hA hP hD hS hZ hQ hl
  have hl : lv_has ls 2 [(0, .ref (q 6)), (1, .int p0)] := hl
  have hown : s.vm.findClass RX2 = some m.cls := hown
  unfold f_X2_at_p6 at hf
  refine lv_iload_n hx hb dX2_at_0 rfl (lv_at hl 1 rfl) ?_
  refine lv_if_lt (tgt := 22) hx hb dX2_at_1 (by decide) (fun h1 => ?_) (fun h1 => ?_)
  · have hf := tk_pos hf h1
    refine lv_iconst (v := -1) hx hb dX2_at_22 (by decide) ?_
    exact tk_ri hQ (tk_s1 hf) rfl hx hb hr hlocks hP hD hS dX2_at_23
  · have hf := tk_neg hf h1
    refine lv_iload_n hx hb dX2_at_4 rfl (lv_at hl 1 rfl) ?_
    refine lv_aload_n hx hb dX2_at_5 rfl (lv_at hl 0 rfl) ?_
    refine va_get (D := G) (ci := 2) (v := .ref (q 7)) (C := RX2) (T := TX2) (N := 1) hx hb hts i_X2_at_X2 hown hE.1 hP 6 rfl rfl 0 (by decide) (hts _ m_X2_at_f15) (fun _ h9 => h9) rfl dX2_at_6 ?_
    refine va_alen (v := 4) hx hb hE.1 hP 7 0 rfl rfl rfl dX2_at_9 ?_
    refine lv_icmp_ge (tgt := 22) hx hb dX2_at_10 (by decide) (fun h2 => ?_) (fun h2 => ?_)
    · have hf := tk_pos hf h2
      refine lv_iconst (v := -1) hx hb dX2_at_22 (by decide) ?_
      exact tk_ri hQ (tk_s1 hf) rfl hx hb hr hlocks hP hD hS dX2_at_23
    · have hf := tk_neg hf h2
      refine lv_aload_n hx hb dX2_at_13 rfl (lv_at hl 0 rfl) ?_
      refine va_get (D := G) (ci := 2) (v := .ref (q 7)) (C := RX2) (T := TX2) (N := 1) hx hb hts i_X2_at_X2 hown hE.1 hP 6 rfl rfl 0 (by decide) (hts _ m_X2_at_f15) (fun _ h9 => h9) rfl dX2_at_14 ?_
      refine lv_iload_n hx hb dX2_at_17 rfl (lv_at hl 1 rfl) ?_
      obtain ⟨h3, hf⟩ := tk_ok hf
      refine va_iald (f := (S.2.2.1 1)) hx hb hE.1 hP 7 0 rfl rfl h3 dX2_at_18 ?_
      refine lv_goto (tgt := 23) hx hb dX2_at_19 (by decide) ?_
      exact tk_ri hQ (tk_s1 hf) rfl hx hb hr hlocks hP hD hS dX2_at_23
abbrev rm_X5_ledSuit : Room := { frames := 1, cells := 0, slots := 0, locals := 21 }
set_option maxHeartbeats 4000000 in
set_option maxRecDepth 100000 in
theorem c_X5_ledSuit (l : Launch) (G : va_G) (c3 : ClassId × ClassId × ClassId) (q : Nat → Nat) (S : tk_ST) (r0 : Int32) (hf : f_X5_ledSuit S = some r0) : tk_Mi l yX5_ledSuit wsX5_ledSuit rm_X5_ledSuit G c3 [.ref (q 5)] (tk_H c3 q S) (tk_H c3 q S) r0 := by
  refine tk_ofi (cc := cX5_ledSuit) (maxL := 1) (ret := some .int) (by decide) rfl (Nat.le_of_ble_eq_true rfl) ?_
  intro p e s m below meth c A Q ls H locs hx hb hml hr hts hown hlocks hE hA hP hD hS hZ hQ hl
  have hl : lv_has ls 1 [(0, .ref (q 5))] := hl
  have hown : s.vm.findClass RX5 = some m.cls := hown
  unfold f_X5_ledSuit at hf
  refine lv_aload_n hx hb dX5_ledSuit_0 rfl (lv_at hl 0 rfl) ?_
  refine va_get (D := G) (ci := 5) (v := .int (S.1 14)) (C := RX5) (T := TX5) (N := 3) hx hb hts i_X5_ledSuit_X5 hown hE.1 hP 5 rfl rfl 2 (by decide) (hts _ m_X5_ledSuit_f24) (fun _ h9 => h9) rfl dX5_ledSuit_1 ?_
  refine lv_if_le (tgt := 21) hx hb dX5_ledSuit_4 (by decide) (fun h1 => ?_) (fun h1 => ?_)
  · have hf := tk_pos hf h1
    refine lv_iconst (v := -1) hx hb dX5_ledSuit_21 (by decide) ?_
    exact tk_ri hQ (tk_s1 hf) rfl hx hb hr hlocks hP hD hS dX5_ledSuit_22
  · have hf := tk_neg hf h1
    refine lv_aload_n hx hb dX5_ledSuit_7 rfl (lv_at hl 0 rfl) ?_
    refine va_get (D := G) (ci := 5) (v := .ref (q 6)) (C := RX5) (T := TX5) (N := 3) hx hb hts i_X5_ledSuit_X5 hown hE.1 hP 5 rfl rfl 0 (by decide) (hts _ m_X5_ledSuit_f14) (fun _ h9 => h9) rfl dX5_ledSuit_8 ?_
    refine lv_iconst (v := 0) hx hb dX5_ledSuit_11 (by decide) ?_
    obtain ⟨r2, h3, hf⟩ := tk_b1s hf
    refine tk_ci (ws' := (tk_H c3 q S)) (va_runV (As := [.int (0 : Int32)]) (rest := []) ⟨hx, hb, hml, hown, hts⟩ (c_X2_at_p6 l G c3 q S (0 : Int32) r2 h3 H.size) (cwV 1 hts gX5_ledSuit_X2_at rfl rfl rfl hv_X2_at ⟨Nat.le_of_ble_eq_true rfl, Nat.le_of_ble_eq_true rfl⟩) (tk_pV hE hP hD 6 rfl rfl) rfl rfl hl.1 rfl (lv_room (Nat.le_of_ble_eq_true rfl)) dX5_ledSuit_12 ⟨Nat.zero_le _, Nat.zero_le _⟩) hD hS hA (fun H locs hP hD hS => ?_)
    obtain ⟨r5, h6, hf⟩ := tk_b1s hf
    refine tk_ci (ws' := (tk_H c3 q S)) (va_runSN (As := [.int r2]) (rest := []) ⟨hx, hb, hml, hown, hts⟩ (c_X6_suitOf l G c3 (tk_H c3 q S) r2 r5 h6 H.size) ⟨va_cnB 1 hts gX5_ledSuit_X6_suitOf_n35 rfl rfl rfl hE.2.1.2.2.2.2.2.2.2.2.1 (hts _ m_X5_ledSuit_iX6) hs_X6_suitOf ⟨Nat.le_of_ble_eq_true rfl, Nat.le_of_ble_eq_true rfl⟩, (hts _ m_X5_ledSuit_st_X6_suitOf), trivial⟩ (tk_pS hE hP hD) rfl rfl hl.1 rfl (lv_room (Nat.le_of_ble_eq_true rfl)) dX5_ledSuit_15 ⟨Nat.zero_le _, Nat.zero_le _⟩) hD hS hA (fun H locs hP hD hS => ?_)
    refine lv_goto (tgt := 22) hx hb dX5_ledSuit_18 (by decide) ?_
    exact tk_ri hQ (tk_s1 hf) rfl hx hb hr hlocks hP hD hS dX5_ledSuit_22
abbrev rm_X6_cardsOfSuit : Room := { frames := 0, cells := 0, slots := 0, locals := 0 }
set_option maxHeartbeats 4000000 in
set_option maxRecDepth 100000 in
theorem c_X6_cardsOfSuit (l : Launch) (G : va_G) (c3 : ClassId × ClassId × ClassId) (ws : va_W) (p0 : Int64) (p1 : Int32) (r0 : Int64) (hf : f_X6_cardsOfSuit p0 p1 = some r0) : tk_Ml l yX6_cardsOfSuit wsX6_cardsOfSuit rm_X6_cardsOfSuit G c3 [.long p0, .int p1] ws ws r0 := by
  refine tk_ofl (cc := cX6_cardsOfSuit) (maxL := 5) (ret := some .long) (by decide) rfl (Nat.le_of_ble_eq_true rfl) ?_
  intro p e s m below meth c A Q ls H locs hx hb hml hr hts hown hlocks hE hA hP hD hS hZ hQ hl
  have hl : lv_has ls 5 [(0, .long p0), (2, .int p1)] := hl
  have hown : s.vm.findClass RX6 = some m.cls := hown
  have J_19 : ∀ (x0_19 : Int64) (k0_19 : Int64) (H : Heap) (locs : List Loc) (_ : va_P G vwCl ws H) (_ : va_D A ws) (_ : va_S A s.heap H locs) (ls : Array Slot) (_ : lv_has ls 5 [(0, .long x0_19)]) (_ : f_X6_cardsOfSuit_19 x0_19 k0_19 = some r0), W p l e rm_X6_cardsOfSuit s m ([.long p0, .int p1] : List Value).toArray below meth c H locs 0 0 Q (F0 m 19 ls [.long k0_19]) := by
    intro x0_19 k0_19 H locs hP hD hS ls hl hf
    unfold f_X6_cardsOfSuit_19 at hf
    refine lv_lstore_n (lv' := [(3, .long k0_19), (0, .long x0_19)]) hx hb dX6_cardsOfSuit_19 rfl hl (by decide) rfl (fun ls hl => ?_)
    refine lv_lload_n hx hb dX6_cardsOfSuit_20 rfl (lv_at hl 1 rfl) ?_
    refine lv_lload_n hx hb dX6_cardsOfSuit_21 rfl (lv_at hl 0 rfl) ?_
    refine lv_land hx hb dX6_cardsOfSuit_22 ?_
    exact tk_rl hQ (tk_s1 hf) rfl hx hb hr hlocks hP hD hS dX6_cardsOfSuit_23
  unfold f_X6_cardsOfSuit at hf
  refine lv_iload_n hx hb dX6_cardsOfSuit_0 rfl (lv_at hl 1 rfl) ?_
  refine lv_iconst (v := 4) hx hb dX6_cardsOfSuit_1 (by decide) ?_
  refine lv_icmp_ne (tgt := 11) hx hb dX6_cardsOfSuit_2 (by decide) (fun h1 => ?_) (fun h1 => ?_)
  · have hf := tk_neg hf h1
    refine lv_ldc2 (v := 255) hx hb hown (hts _ m_X6_cardsOfSuit_k357) dX6_cardsOfSuit_11 ?_
    refine lv_bipush (v := 8) hx hb dX6_cardsOfSuit_14 (by decide) ?_
    refine lv_iload_n hx hb dX6_cardsOfSuit_16 rfl (lv_at hl 1 rfl) ?_
    refine lv_imul hx hb dX6_cardsOfSuit_17 ?_
    refine lv_lshl (v := (255 : Int64) <<< (((8 : Int32) * p1).toInt64 &&& 63)) hx hb dX6_cardsOfSuit_18 rfl ?_
    exact J_19 p0 ((255 : Int64) <<< (((8 : Int32) * p1).toInt64 &&& 63)) H locs hP hD hS ls (lv_sub hl [0] rfl) hf
  · have hf := tk_pos hf h1
    refine lv_ldc2 (v := -4294967296) hx hb hown (hts _ m_X6_cardsOfSuit_k355) dX6_cardsOfSuit_5 ?_
    refine lv_goto (tgt := 19) hx hb dX6_cardsOfSuit_8 (by decide) ?_
    exact J_19 p0 (-4294967296 : Int64) H locs hP hD hS ls (lv_sub hl [0] rfl) hf
abbrev rm_X6_playableOf : Room := { frames := 1, cells := 0, slots := 0, locals := 24 }
set_option maxHeartbeats 4000000 in
set_option maxRecDepth 100000 in
theorem c_X6_playableOf (l : Launch) (G : va_G) (c3 : ClassId × ClassId × ClassId) (ws : va_W) (p0 : Int64) (p1 : Int32) (r0 : Int64) (hf : f_X6_playableOf p0 p1 = some r0) : tk_Ml l yX6_playableOf wsX6_playableOf rm_X6_playableOf G c3 [.long p0, .int p1] ws ws r0 := by
  refine tk_ofl (cc := cX6_playableOf) (maxL := 7) (ret := some .long) (by decide) rfl (Nat.le_of_ble_eq_true rfl) ?_
  intro p e s m below meth c A Q ls H locs hx hb hml hr hts hown hlocks hE hA hP hD hS hZ hQ hl
  have hl : lv_has ls 7 [(0, .long p0), (2, .int p1)] := hl
  have hown : s.vm.findClass RX6 = some m.cls := hown
  unfold f_X6_playableOf at hf
  refine lv_iload_n hx hb dX6_playableOf_0 rfl (lv_at hl 1 rfl) ?_
  refine lv_iconst (v := -1) hx hb dX6_playableOf_1 (by decide) ?_
  refine lv_icmp_ne (tgt := 7) hx hb dX6_playableOf_2 (by decide) (fun h1 => ?_) (fun h1 => ?_)
  · have hf := tk_neg hf h1
    refine lv_lload_n hx hb dX6_playableOf_7 rfl (lv_at hl 0 rfl) ?_
    refine lv_iload_n hx hb dX6_playableOf_8 rfl (lv_at hl 1 rfl) ?_
    obtain ⟨r2, h3, hf⟩ := tk_b1s hf
    refine tk_cl (ws' := ws) (va_runS (As := [.long p0, .int p1]) (rest := []) ⟨hx, hb, hml, hown, hts⟩ (c_X6_cardsOfSuit l G c3 ws p0 p1 r2 h3 H.size) (va_cwS 2 hts gX6_playableOf_X6_cardsOfSuit rfl rfl rfl hs_X6_cardsOfSuit ⟨Nat.le_of_ble_eq_true rfl, Nat.le_of_ble_eq_true rfl⟩) (tk_pS hE hP hD) rfl rfl hl.1 rfl (lv_room (Nat.le_of_ble_eq_true rfl)) dX6_playableOf_9 ⟨Nat.zero_le _, Nat.zero_le _⟩) hD hS hA (fun H locs hP hD hS => ?_)
    refine lv_lstore_n (lv' := [(3, .long r2), (0, .long p0), (2, .int p1)]) hx hb dX6_playableOf_12 rfl hl (by decide) rfl (fun ls hl => ?_)
    refine lv_lload_n hx hb dX6_playableOf_13 rfl (lv_at hl 0 rfl) ?_
    refine lv_lconst (v := 0) hx hb dX6_playableOf_14 (by decide) ?_
    refine W.lcmp hx hb dX6_playableOf_15 ?_
    refine lv_if_eq (tgt := 21) hx hb dX6_playableOf_16 (by decide) (fun h5 => ?_) (fun h5 => ?_)
    · have hf := tk_pos hf h5
      refine lv_lload_n hx hb dX6_playableOf_21 rfl (lv_at hl 1 rfl) ?_
      refine lv_iconst (v := 4) hx hb dX6_playableOf_22 (by decide) ?_
      obtain ⟨r6, h7, hf⟩ := tk_b1s hf
      refine tk_cl (ws' := ws) (va_runS (As := [.long p0, .int (4 : Int32)]) (rest := []) ⟨hx, hb, hml, hown, hts⟩ (c_X6_cardsOfSuit l G c3 ws p0 (4 : Int32) r6 h7 H.size) (va_cwS 2 hts gX6_playableOf_X6_cardsOfSuit rfl rfl rfl hs_X6_cardsOfSuit ⟨Nat.le_of_ble_eq_true rfl, Nat.le_of_ble_eq_true rfl⟩) (tk_pS hE hP hD) rfl rfl hl.1 rfl (lv_room (Nat.le_of_ble_eq_true rfl)) dX6_playableOf_23 ⟨Nat.zero_le _, Nat.zero_le _⟩) hD hS hA (fun H locs hP hD hS => ?_)
      refine lv_lstore (lv' := [(5, .long r6), (3, .long r2), (0, .long p0), (2, .int p1)]) hx hb dX6_playableOf_26 hl (by decide) rfl (fun ls hl => ?_)
      refine lv_lload hx hb dX6_playableOf_28 (lv_at hl 0 rfl) ?_
      refine lv_lconst (v := 0) hx hb dX6_playableOf_30 (by decide) ?_
      refine W.lcmp hx hb dX6_playableOf_31 ?_
      refine lv_if_eq (tgt := 40) hx hb dX6_playableOf_32 (by decide) (fun h9 => ?_) (fun h9 => ?_)
      · have hf := tk_pos hf h9
        refine lv_lload_n hx hb dX6_playableOf_40 rfl (lv_at hl 2 rfl) ?_
        exact tk_rl hQ (tk_s1 hf) rfl hx hb hr hlocks hP hD hS dX6_playableOf_41
      · have hf := tk_neg hf h9
        refine lv_lload hx hb dX6_playableOf_35 (lv_at hl 0 rfl) ?_
        refine lv_goto (tgt := 41) hx hb dX6_playableOf_37 (by decide) ?_
        exact tk_rl hQ (tk_s1 hf) rfl hx hb hr hlocks hP hD hS dX6_playableOf_41
    · have hf := tk_neg hf h5
      refine lv_lload_n hx hb dX6_playableOf_19 rfl (lv_at hl 0 rfl) ?_
      exact tk_rl hQ (tk_s1 hf) rfl hx hb hr hlocks hP hD hS dX6_playableOf_20
  · have hf := tk_pos hf h1
    refine lv_lload_n hx hb dX6_playableOf_5 rfl (lv_at hl 0 rfl) ?_
    exact tk_rl hQ (tk_s1 hf) rfl hx hb hr hlocks hP hD hS dX6_playableOf_6
abbrev rm_X6_playableNow : Room := { frames := 2, cells := 0, slots := 0, locals := 50 }
set_option maxHeartbeats 4000000 in
set_option maxRecDepth 100000 in
theorem c_X6_playableNow (l : Launch) (G : va_G) (c3 : ClassId × ClassId × ClassId) (q : Nat → Nat) (S : tk_ST) (r0 : Int64) (hf : f_X6_playableNow S = some r0) : tk_Ml l yX6_playableNow wsX6_playableNow rm_X6_playableNow G c3 [.ref (q 0)] (tk_H c3 q S) (tk_H c3 q S) r0 := by
  refine tk_ofl (cc := cX6_playableNow) (maxL := 1) (ret := some .long) (by decide) rfl (Nat.le_of_ble_eq_true rfl) ?_
  intro p e s m below meth c A Q ls H locs hx hb hml hr hts hown hlocks hE hA hP hD hS hZ hQ hl
  have hl : lv_has ls 1 [(0, .ref (q 0))] := hl
  have hown : s.vm.findClass RX6 = some m.cls := hown
  unfold f_X6_playableNow at hf
  refine lv_aload_n hx hb dX6_playableNow_0 rfl (lv_at hl 0 rfl) ?_
  refine va_get (D := G) (ci := 6) (v := .int (S.1 1)) (C := RX6) (T := TX6) (N := 18) hx hb hts i_X6_playableNow_X6 hown hE.1 hP 0 rfl rfl 7 (by decide) (hts _ m_X6_playableNow_f53) (fun _ h9 => h9) rfl dX6_playableNow_1 ?_
  refine lv_iconst (v := 5) hx hb dX6_playableNow_4 (by decide) ?_
  refine lv_icmp_ne (tgt := 32) hx hb dX6_playableNow_5 (by decide) (fun h1 => ?_) (fun h1 => ?_)
  · have hf := tk_neg hf h1
    refine lv_lconst (v := 0) hx hb dX6_playableNow_32 (by decide) ?_
    exact tk_rl hQ (tk_s1 hf) rfl hx hb hr hlocks hP hD hS dX6_playableNow_33
  · have hf := tk_pos hf h1
    refine lv_aload_n hx hb dX6_playableNow_8 rfl (lv_at hl 0 rfl) ?_
    refine va_get (D := G) (ci := 6) (v := .ref (q 13)) (C := RX6) (T := TX6) (N := 18) hx hb hts i_X6_playableNow_X6 hown hE.1 hP 0 rfl rfl 4 (by decide) (hts _ m_X6_playableNow_f42) (fun _ h9 => h9) rfl dX6_playableNow_9 ?_
    refine lv_aload_n hx hb dX6_playableNow_12 rfl (lv_at hl 0 rfl) ?_
    refine va_get (D := G) (ci := 6) (v := .int (S.1 2)) (C := RX6) (T := TX6) (N := 18) hx hb hts i_X6_playableNow_X6 hown hE.1 hP 0 rfl rfl 8 (by decide) (hts _ m_X6_playableNow_f56) (fun _ h9 => h9) rfl dX6_playableNow_13 ?_
    obtain ⟨r2, h3, hf⟩ := tk_b1s hf
    refine tk_cl (ws' := (tk_H c3 q S)) (va_runV (As := [.int (S.1 2)]) (rest := []) ⟨hx, hb, hml, hown, hts⟩ (c_X3_at_p13 l G c3 q S (S.1 2) r2 h3 H.size) (cwV 1 hts gX6_playableNow_X3_at rfl rfl rfl hv_X3_at ⟨Nat.le_of_ble_eq_true rfl, Nat.le_of_ble_eq_true rfl⟩) (tk_pV hE hP hD 13 rfl rfl) rfl rfl hl.1 rfl (lv_room (Nat.le_of_ble_eq_true rfl)) dX6_playableNow_16 ⟨Nat.zero_le _, Nat.zero_le _⟩) hD hS hA (fun H locs hP hD hS => ?_)
    refine lv_aload_n hx hb dX6_playableNow_19 rfl (lv_at hl 0 rfl) ?_
    refine va_get (D := G) (ci := 6) (v := .ref (q 5)) (C := RX6) (T := TX6) (N := 18) hx hb hts i_X6_playableNow_X6 hown hE.1 hP 0 rfl rfl 2 (by decide) (hts _ m_X6_playableNow_f26) (fun _ h9 => h9) rfl dX6_playableNow_20 ?_
    obtain ⟨r5, h6, hf⟩ := tk_b1s hf
    refine tk_ci (ws' := (tk_H c3 q S)) (va_runV (As := []) (rest := [.long r2]) ⟨hx, hb, hml, hown, hts⟩ (c_X5_ledSuit l G c3 q S r5 h6 H.size) (cwV 0 hts gX6_playableNow_X5_ledSuit rfl rfl rfl hv_X5_ledSuit ⟨Nat.le_of_ble_eq_true rfl, Nat.le_of_ble_eq_true rfl⟩) (tk_pV hE hP hD 5 rfl rfl) rfl rfl hl.1 rfl (lv_room (Nat.le_of_ble_eq_true rfl)) dX6_playableNow_23 ⟨Nat.zero_le _, Nat.zero_le _⟩) hD hS hA (fun H locs hP hD hS => ?_)
    obtain ⟨r8, h9, hf⟩ := tk_b1s hf
    refine tk_cl (ws' := (tk_H c3 q S)) (va_runS (As := [.long r2, .int r5]) (rest := []) ⟨hx, hb, hml, hown, hts⟩ (c_X6_playableOf l G c3 (tk_H c3 q S) r2 r5 r8 h9 H.size) (va_cwS 2 hts gX6_playableNow_X6_playableOf rfl rfl rfl hs_X6_playableOf ⟨Nat.le_of_ble_eq_true rfl, Nat.le_of_ble_eq_true rfl⟩) (tk_pS hE hP hD) rfl rfl hl.1 rfl (lv_room (Nat.le_of_ble_eq_true rfl)) dX6_playableNow_26 ⟨Nat.zero_le _, Nat.zero_le _⟩) hD hS hA (fun H locs hP hD hS => ?_)
    refine lv_goto (tgt := 33) hx hb dX6_playableNow_29 (by decide) ?_
    exact tk_rl hQ (tk_s1 hf) rfl hx hb hr hlocks hP hD hS dX6_playableNow_33
set_option maxHeartbeats 4000000 in
set_option maxRecDepth 100000 in
theorem c_X2_put_p6 (l : Launch) (G : va_G) (c3 : ClassId × ClassId × ClassId) (q : Nat → Nat) (S : tk_ST) (p0 : Int32) (p1 : Int32) (S0 : tk_ST) (hf : f_X2_put_p6 p0 p1 S = some S0) : tk_Mv l yX2_put wsX2_put rm_X2_put G c3 [.ref (q 6), .int p0, .int p1] (tk_H c3 q S) (tk_H c3 q S0) := by
  refine tk_ofv (cc := cX2_put) (maxL := 3) (ret := none) (by decide) rfl (Nat.le_of_ble_eq_true rfl) ?_
  intro p e s m below meth c A Q ls H locs hx hb hml hr hts hown hlocks hE hA hP hD hS hZ hQ hl
  have hl : lv_has ls 3 [(0, .ref (q 6)), (1, .int p0), (2, .int p1)] := hl
  have hown : s.vm.findClass RX2 = some m.cls := hown
  unfold f_X2_put_p6 at hf
  refine lv_iload_n hx hb dX2_put_0 rfl (lv_at hl 1 rfl) ?_
  refine lv_if_lt (tgt := 20) hx hb dX2_put_1 (by decide) (fun h1 => ?_) (fun h1 => ?_)
  · have hf := tk_pos hf h1
    exact tk_rv hQ (congrArg (tk_H c3 q) (tk_s1 hf)) hx hb hr hlocks hP hD hS dX2_put_20
  · have hf := tk_neg hf h1
    refine lv_iload_n hx hb dX2_put_4 rfl (lv_at hl 1 rfl) ?_
    refine lv_aload_n hx hb dX2_put_5 rfl (lv_at hl 0 rfl) ?_
    refine va_get (D := G) (ci := 2) (v := .ref (q 7)) (C := RX2) (T := TX2) (N := 1) hx hb hts i_X2_put_X2 hown hE.1 hP 6 rfl rfl 0 (by decide) (hts _ m_X2_put_f15) (fun _ h9 => h9) rfl dX2_put_6 ?_
    refine va_alen (v := 4) hx hb hE.1 hP 7 0 rfl rfl rfl dX2_put_9 ?_
    refine lv_icmp_ge (tgt := 20) hx hb dX2_put_10 (by decide) (fun h2 => ?_) (fun h2 => ?_)
    · have hf := tk_pos hf h2
      exact tk_rv hQ (congrArg (tk_H c3 q) (tk_s1 hf)) hx hb hr hlocks hP hD hS dX2_put_20
    · have hf := tk_neg hf h2
      refine lv_aload_n hx hb dX2_put_13 rfl (lv_at hl 0 rfl) ?_
      refine va_get (D := G) (ci := 2) (v := .ref (q 7)) (C := RX2) (T := TX2) (N := 1) hx hb hts i_X2_put_X2 hown hE.1 hP 6 rfl rfl 0 (by decide) (hts _ m_X2_put_f15) (fun _ h9 => h9) rfl dX2_put_14 ?_
      refine lv_iload_n hx hb dX2_put_17 rfl (lv_at hl 1 rfl) ?_
      refine lv_iload_n hx hb dX2_put_18 rfl (lv_at hl 2 rfl) ?_
      obtain ⟨h3, hf⟩ := tk_ok hf
      refine va_iast (f := (S.2.2.1 1)) hx hb hE.1 hP hD hS 7 0 rfl rfl h3 dX2_put_19 (fun H locs hP hD hS => ?_)
      have hP : va_P G vwCl (tk_H c3 q (tk_A S 1 (upd (S.2.2.1 1) p0.toNatClampNeg p1))) H := hP
      have hD : va_D A (tk_H c3 q (tk_A S 1 (upd (S.2.2.1 1) p0.toNatClampNeg p1))) := hD
      obtain ⟨S4, eS4⟩ : ∃ z : tk_ST, z = (tk_A S 1 (upd (S.2.2.1 1) p0.toNatClampNeg p1)) := ⟨_, rfl⟩
      rw [← eS4] at hP hD
      have hf := tk_nm hf eS4
      exact tk_rv hQ (congrArg (tk_H c3 q) (tk_s1 hf)) hx hb hr hlocks hP hD hS dX2_put_20
abbrev rm_X5_add : Room := { frames := 1, cells := 0, slots := 0, locals := 22 }
set_option maxHeartbeats 4000000 in
set_option maxRecDepth 100000 in
theorem c_X5_add (l : Launch) (G : va_G) (c3 : ClassId × ClassId × ClassId) (q : Nat → Nat) (S : tk_ST) (p0 : Int32) (S0 : tk_ST) (hf : f_X5_add p0 S = some S0) : tk_Mv l yX5_add wsX5_add rm_X5_add G c3 [.ref (q 5), .int p0] (tk_H c3 q S) (tk_H c3 q S0) := by
  refine tk_ofv (cc := cX5_add) (maxL := 2) (ret := none) (by decide) rfl (Nat.le_of_ble_eq_true rfl) ?_
  intro p e s m below meth c A Q ls H locs hx hb hml hr hts hown hlocks hE hA hP hD hS hZ hQ hl
  have hl : lv_has ls 2 [(0, .ref (q 5)), (1, .int p0)] := hl
  have hown : s.vm.findClass RX5 = some m.cls := hown
  unfold f_X5_add at hf
  refine lv_aload_n hx hb dX5_add_0 rfl (lv_at hl 0 rfl) ?_
  refine va_get (D := G) (ci := 5) (v := .ref (q 6)) (C := RX5) (T := TX5) (N := 3) hx hb hts i_X5_add_X5 hown hE.1 hP 5 rfl rfl 0 (by decide) (hts _ m_X5_add_f14) (fun _ h9 => h9) rfl dX5_add_1 ?_
  refine lv_aload_n hx hb dX5_add_4 rfl (lv_at hl 0 rfl) ?_
  refine va_get (D := G) (ci := 5) (v := .int (S.1 14)) (C := RX5) (T := TX5) (N := 3) hx hb hts i_X5_add_X5 hown hE.1 hP 5 rfl rfl 2 (by decide) (hts _ m_X5_add_f24) (fun _ h9 => h9) rfl dX5_add_5 ?_
  refine lv_iload_n hx hb dX5_add_8 rfl (lv_at hl 1 rfl) ?_
  obtain ⟨S3, h2, hf⟩ := tk_b1s hf
  refine tk_cv (ws' := (tk_H c3 q S3)) (va_runV (As := [.int (S.1 14), .int p0]) (rest := []) ⟨hx, hb, hml, hown, hts⟩ (c_X2_put_p6 l G c3 q S (S.1 14) p0 S3 h2 H.size) (cwV 2 hts gX5_add_X2_put rfl rfl rfl hv_X2_put ⟨Nat.le_of_ble_eq_true rfl, Nat.le_of_ble_eq_true rfl⟩) (tk_pV hE hP hD 6 rfl rfl) rfl rfl hl.1 rfl (lv_room (Nat.le_of_ble_eq_true rfl)) dX5_add_9 ⟨Nat.zero_le _, Nat.zero_le _⟩) hD hS hA (fun H locs hP hD hS => ?_)
  refine lv_aload_n hx hb dX5_add_12 rfl (lv_at hl 0 rfl) ?_
  refine lv_dup hx hb dX5_add_13 rfl ?_
  refine va_get (D := G) (ci := 5) (v := .int (S3.1 14)) (C := RX5) (T := TX5) (N := 3) hx hb hts i_X5_add_X5 hown hE.1 hP 5 rfl rfl 2 (by decide) (hts _ m_X5_add_f24) (fun _ h9 => h9) rfl dX5_add_14 ?_
  refine lv_iconst (v := 1) hx hb dX5_add_17 (by decide) ?_
  refine lv_iadd hx hb dX5_add_18 ?_
  refine va_put (D := G) (ci := 5) (v := .int ((S3.1 14) + (1 : Int32))) (ty := .int) (C := RX5) (T := TX5) (N := 3) hx hb hts i_X5_add_X5 tyX5 tyX5_ok nmX5 hown hE.1 hP hD hS 5 rfl rfl 2 (by decide) (hts _ m_X5_add_f24) (fun _ h9 => h9) rfl (by decide +kernel) rfl rfl (Nat.le_of_ble_eq_true rfl) dX5_add_19 (fun H locs hP hD hS => ?_)
  have hP : va_P G vwCl (tk_H c3 q (tk_I S3 14 ((S3.1 14) + (1 : Int32)))) H := hP
  have hD : va_D A (tk_H c3 q (tk_I S3 14 ((S3.1 14) + (1 : Int32)))) := hD
  exact tk_rv hQ (congrArg (tk_H c3 q) (tk_s1 hf)) hx hb hr hlocks hP hD hS dX5_add_22
abbrev rm_X5_beats : Room := { frames := 1, cells := 0, slots := 0, locals := 20 }
set_option maxHeartbeats 4000000 in
set_option maxRecDepth 100000 in
theorem c_X5_beats (l : Launch) (G : va_G) (c3 : ClassId × ClassId × ClassId) (ws : va_W) (p0 : Int32) (p1 : Int32) (r0 : Int32) (hf : f_X5_beats p0 p1 = some r0) : tk_Mi l yX5_beats wsX5_beats rm_X5_beats G c3 [.int p0, .int p1] ws ws r0 := by
  refine tk_ofi (cc := cX5_beats) (maxL := 3) (ret := some .boolean) (by decide) rfl (Nat.le_of_ble_eq_true rfl) ?_
  intro p e s m below meth c A Q ls H locs hx hb hml hr hts hown hlocks hE hA hP hD hS hZ hQ hl
  have hl : lv_has ls 3 [(0, .int p0), (1, .int p1)] := hl
  have hown : s.vm.findClass RX5 = some m.cls := hown
  have J_16 : ∀ (x0_16 : Int32) (x1_16 : Int32) (k0_16 : Int32) (H : Heap) (locs : List Loc) (_ : va_P G vwCl ws H) (_ : va_D A ws) (_ : va_S A s.heap H locs) (ls : Array Slot) (_ : lv_has ls 3 [(0, .int x0_16), (1, .int x1_16)]) (_ : f_X5_beats_16 x0_16 x1_16 k0_16 = some r0), W p l e rm_X5_beats s m ([.int p0, .int p1] : List Value).toArray below meth c H locs 0 0 Q (F0 m 16 ls [.int k0_16]) := by
    intro x0_16 x1_16 k0_16 H locs hP hD hS ls hl hf
    unfold f_X5_beats_16 at hf
    refine lv_istore_n (lv' := [(2, .int k0_16), (0, .int x0_16), (1, .int x1_16)]) hx hb dX5_beats_16 rfl hl (by decide) rfl (fun ls hl => ?_)
    refine lv_iload_n hx hb dX5_beats_17 rfl (lv_at hl 0 rfl) ?_
    refine lv_if_eq (tgt := 34) hx hb dX5_beats_18 (by decide) (fun h1 => ?_) (fun h1 => ?_)
    · have hf := tk_pos hf h1
      refine lv_iload_n hx hb dX5_beats_34 rfl (lv_at hl 1 rfl) ?_
      obtain ⟨r2, h3, hf⟩ := tk_b1s hf
      refine tk_ci (ws' := ws) (va_runSN (As := [.int x0_16]) (rest := []) ⟨hx, hb, hml, hown, hts⟩ (c_X6_suitOf l G c3 ws x0_16 r2 h3 H.size) ⟨va_cnB 1 hts gX5_beats_X6_suitOf_n35 rfl rfl rfl hE.2.1.2.2.2.2.2.2.2.2.1 (hts _ m_X5_beats_iX6) hs_X6_suitOf ⟨Nat.le_of_ble_eq_true rfl, Nat.le_of_ble_eq_true rfl⟩, (hts _ m_X5_beats_st_X6_suitOf), trivial⟩ (tk_pS hE hP hD) rfl rfl hl.1 rfl (lv_room (Nat.le_of_ble_eq_true rfl)) dX5_beats_35 ⟨Nat.zero_le _, Nat.zero_le _⟩) hD hS hA (fun H locs hP hD hS => ?_)
      refine lv_iconst (v := 4) hx hb dX5_beats_38 (by decide) ?_
      refine lv_icmp_ne (tgt := 46) hx hb dX5_beats_39 (by decide) (fun h5 => ?_) (fun h5 => ?_)
      · have hf := tk_neg hf h5
        refine lv_iconst (v := 0) hx hb dX5_beats_46 (by decide) ?_
        exact tk_rz hQ (tk_s1 hf) rfl (by decide) hx hb hr hlocks hP hD hS dX5_beats_47
      · have hf := tk_pos hf h5
        refine lv_iconst (v := 1) hx hb dX5_beats_42 (by decide) ?_
        refine lv_goto (tgt := 47) hx hb dX5_beats_43 (by decide) ?_
        exact tk_rz hQ (tk_s1 hf) rfl (by decide) hx hb hr hlocks hP hD hS dX5_beats_47
    · have hf := tk_neg hf h1
      refine lv_iload_n hx hb dX5_beats_21 rfl (lv_at hl 1 rfl) ?_
      refine lv_iload_n hx hb dX5_beats_22 rfl (lv_at hl 2 rfl) ?_
      refine lv_icmp_le (tgt := 30) hx hb dX5_beats_23 (by decide) (fun h6 => ?_) (fun h6 => ?_)
      · have hf := tk_pos hf h6
        refine lv_iconst (v := 0) hx hb dX5_beats_30 (by decide) ?_
        refine lv_goto (tgt := 47) hx hb dX5_beats_31 (by decide) ?_
        exact tk_rz hQ (tk_s1 hf) rfl (by decide) hx hb hr hlocks hP hD hS dX5_beats_47
      · have hf := tk_neg hf h6
        refine lv_iconst (v := 1) hx hb dX5_beats_26 (by decide) ?_
        refine lv_goto (tgt := 47) hx hb dX5_beats_27 (by decide) ?_
        exact tk_rz hQ (tk_s1 hf) rfl (by decide) hx hb hr hlocks hP hD hS dX5_beats_47
  unfold f_X5_beats at hf
  refine lv_iload_n hx hb dX5_beats_0 rfl (lv_at hl 0 rfl) ?_
  obtain ⟨r7, h8, hf⟩ := tk_b1s hf
  refine tk_ci (ws' := ws) (va_runSN (As := [.int p0]) (rest := []) ⟨hx, hb, hml, hown, hts⟩ (c_X6_suitOf l G c3 ws p0 r7 h8 H.size) ⟨va_cnB 1 hts gX5_beats_X6_suitOf_n35 rfl rfl rfl hE.2.1.2.2.2.2.2.2.2.2.1 (hts _ m_X5_beats_iX6) hs_X6_suitOf ⟨Nat.le_of_ble_eq_true rfl, Nat.le_of_ble_eq_true rfl⟩, (hts _ m_X5_beats_st_X6_suitOf), trivial⟩ (tk_pS hE hP hD) rfl rfl hl.1 rfl (lv_room (Nat.le_of_ble_eq_true rfl)) dX5_beats_1 ⟨Nat.zero_le _, Nat.zero_le _⟩) hD hS hA (fun H locs hP hD hS => ?_)
  refine lv_iload_n hx hb dX5_beats_4 rfl (lv_at hl 1 rfl) ?_
  obtain ⟨r10, h11, hf⟩ := tk_b1s hf
  refine tk_ci (ws' := ws) (va_runSN (As := [.int p1]) (rest := [.int r7]) ⟨hx, hb, hml, hown, hts⟩ (c_X6_suitOf l G c3 ws p1 r10 h11 H.size) ⟨va_cnB 1 hts gX5_beats_X6_suitOf_n35 rfl rfl rfl hE.2.1.2.2.2.2.2.2.2.2.1 (hts _ m_X5_beats_iX6) hs_X6_suitOf ⟨Nat.le_of_ble_eq_true rfl, Nat.le_of_ble_eq_true rfl⟩, (hts _ m_X5_beats_st_X6_suitOf), trivial⟩ (tk_pS hE hP hD) rfl rfl hl.1 rfl (lv_room (Nat.le_of_ble_eq_true rfl)) dX5_beats_5 ⟨Nat.zero_le _, Nat.zero_le _⟩) hD hS hA (fun H locs hP hD hS => ?_)
  refine lv_icmp_ne (tgt := 15) hx hb dX5_beats_8 (by decide) (fun h13 => ?_) (fun h13 => ?_)
  · have hf := tk_neg hf h13
    refine lv_iconst (v := 0) hx hb dX5_beats_15 (by decide) ?_
    exact J_16 p0 p1 (0 : Int32) H locs hP hD hS ls (lv_sub hl [0, 1] rfl) hf
  · have hf := tk_pos hf h13
    refine lv_iconst (v := 1) hx hb dX5_beats_11 (by decide) ?_
    refine lv_goto (tgt := 16) hx hb dX5_beats_12 (by decide) ?_
    exact J_16 p0 p1 (1 : Int32) H locs hP hD hS ls (lv_sub hl [0, 1] rfl) hf
abbrev rm_X5_playerAt : Room := { frames := 0, cells := 0, slots := 0, locals := 0 }
set_option maxHeartbeats 4000000 in
set_option maxRecDepth 100000 in
theorem c_X5_playerAt (l : Launch) (G : va_G) (c3 : ClassId × ClassId × ClassId) (q : Nat → Nat) (S : tk_ST) (p0 : Int32) (r0 : Int32) (hf : f_X5_playerAt p0 S = some r0) : tk_Mi l yX5_playerAt wsX5_playerAt rm_X5_playerAt G c3 [.ref (q 5), .int p0] (tk_H c3 q S) (tk_H c3 q S) r0 := by
  refine tk_ofi (cc := cX5_playerAt) (maxL := 2) (ret := some .int) (by decide) rfl (Nat.le_of_ble_eq_true rfl) ?_
  intro p e s m below meth c A Q ls H locs hx hb hml hr hts hown hlocks hE hA hP hD hS hZ hQ hl
  have hl : lv_has ls 2 [(0, .ref (q 5)), (1, .int p0)] := hl
  have hown : s.vm.findClass RX5 = some m.cls := hown
  unfold f_X5_playerAt at hf
  refine lv_aload_n hx hb dX5_playerAt_0 rfl (lv_at hl 0 rfl) ?_
  refine va_get (D := G) (ci := 5) (v := .int (S.1 13)) (C := RX5) (T := TX5) (N := 3) hx hb hts i_X5_playerAt_X5 hown hE.1 hP 5 rfl rfl 1 (by decide) (hts _ m_X5_playerAt_f20) (fun _ h9 => h9) rfl dX5_playerAt_1 ?_
  refine lv_iload_n hx hb dX5_playerAt_4 rfl (lv_at hl 1 rfl) ?_
  refine lv_iadd hx hb dX5_playerAt_5 ?_
  refine lv_iconst (v := 4) hx hb dX5_playerAt_6 (by decide) ?_
  refine tk_irem hx hb dX5_playerAt_7 (by decide) ?_
  exact tk_ri hQ (tk_s1 hf) rfl hx hb hr hlocks hP hD hS dX5_playerAt_8
abbrev rm_X5_winner : Room := { frames := 2, cells := 0, slots := 0, locals := 42 }
set_option maxHeartbeats 4000000 in
set_option maxRecDepth 100000 in
theorem c_X5_winner (l : Launch) (G : va_G) (c3 : ClassId × ClassId × ClassId) (q : Nat → Nat) (S : tk_ST) (r0 : Int32) (hf : f_X5_winner S = some r0) : tk_Mi l yX5_winner wsX5_winner rm_X5_winner G c3 [.ref (q 5)] (tk_H c3 q S) (tk_H c3 q S) r0 := by
  refine tk_ofi (cc := cX5_winner) (maxL := 3) (ret := some .int) (by decide) rfl (Nat.le_of_ble_eq_true rfl) ?_
  intro p e s m below meth c A Q ls H locs hx hb hml hr hts hown hlocks hE hA hP hD hS hZ hQ hl
  have hl : lv_has ls 3 [(0, .ref (q 5))] := hl
  have hown : s.vm.findClass RX5 = some m.cls := hown
  have J_4 : ∀ (n_4 : Nat), ∀ (x1_4 : Int32) (x2_4 : Int32) (H : Heap) (locs : List Loc) (_ : va_P G vwCl (tk_H c3 q S) H) (_ : va_D A (tk_H c3 q S)) (_ : va_S A s.heap H locs) (ls : Array Slot) (_ : lv_has ls 3 [(0, .ref (q 5)), (1, .int x1_4), (2, .int x2_4)]) (_ : f_X5_winner_4 n_4 x1_4 x2_4 S = some r0), W p l e rm_X5_winner s m ([.ref (q 5)] : List Value).toArray below meth c H locs 0 0 Q (F0 m 4 ls []) := by
    intro n_4
    induction n_4 with
    | zero =>
      intro x1_4 x2_4 H locs hP hD hS ls hl hf
      exact absurd hf (by intro h9; cases h9)
    | succ n_4 ih_4 =>
      have J_36 : ∀ (x1_36 : Int32) (x2_36 : Int32) (H : Heap) (locs : List Loc) (_ : va_P G vwCl (tk_H c3 q S) H) (_ : va_D A (tk_H c3 q S)) (_ : va_S A s.heap H locs) (ls : Array Slot) (_ : lv_has ls 3 [(0, .ref (q 5)), (1, .int x1_36), (2, .int x2_36)]) (_ : f_X5_winner_36 (f_X5_winner_4 n_4) x1_36 x2_36 S = some r0), W p l e rm_X5_winner s m ([.ref (q 5)] : List Value).toArray below meth c H locs 0 0 Q (F0 m 36 ls []) := by
        intro x1_36 x2_36 H locs hP hD hS ls hl hf
        unfold f_X5_winner_36 at hf
        refine lv_iinc (v := (x2_36 + (1 : Int32))) (lv' := [(2, .int (x2_36 + (1 : Int32))), (0, .ref (q 5)), (1, .int x1_36)]) hx hb dX5_winner_36 hl (k := 2) rfl rfl (by decide) rfl (fun ls hl => ?_)
        refine lv_goto (tgt := 4) hx hb dX5_winner_39 (by decide) ?_
        exact ih_4 x1_36 (x2_36 + (1 : Int32)) H locs hP hD hS ls (lv_sub hl [1, 2, 0] rfl) hf
      intro x1_4 x2_4 H locs hP hD hS ls hl hf
      rw [f_X5_winner_4_s] at hf
      refine lv_iload_n hx hb dX5_winner_4 rfl (lv_at hl 2 rfl) ?_
      refine lv_aload_n hx hb dX5_winner_5 rfl (lv_at hl 0 rfl) ?_
      refine va_get (D := G) (ci := 5) (v := .int (S.1 14)) (C := RX5) (T := TX5) (N := 3) hx hb hts i_X5_winner_X5 hown hE.1 hP 5 rfl rfl 2 (by decide) (hts _ m_X5_winner_f24) (fun _ h9 => h9) rfl dX5_winner_6 ?_
      refine lv_icmp_ge (tgt := 42) hx hb dX5_winner_9 (by decide) (fun h1 => ?_) (fun h1 => ?_)
      · have hf := tk_pos hf h1
        refine lv_aload_n hx hb dX5_winner_42 rfl (lv_at hl 0 rfl) ?_
        refine lv_iload_n hx hb dX5_winner_43 rfl (lv_at hl 1 rfl) ?_
        obtain ⟨r2, h3, hf⟩ := tk_b1s hf
        refine tk_ci (ws' := (tk_H c3 q S)) (va_runV (As := [.int x1_4]) (rest := []) ⟨hx, hb, hml, hown, hts⟩ (c_X5_playerAt l G c3 q S x1_4 r2 h3 H.size) (cwV 1 hts gX5_winner_X5_playerAt rfl rfl rfl hv_X5_playerAt ⟨Nat.le_of_ble_eq_true rfl, Nat.le_of_ble_eq_true rfl⟩) (tk_pV hE hP hD 5 rfl rfl) rfl rfl hl.1 rfl (lv_room (Nat.le_of_ble_eq_true rfl)) dX5_winner_44 ⟨Nat.zero_le _, Nat.zero_le _⟩) hD hS hA (fun H locs hP hD hS => ?_)
        exact tk_ri hQ (tk_s1 hf) rfl hx hb hr hlocks hP hD hS dX5_winner_47
      · have hf := tk_neg hf h1
        refine lv_aload_n hx hb dX5_winner_12 rfl (lv_at hl 0 rfl) ?_
        refine va_get (D := G) (ci := 5) (v := .ref (q 6)) (C := RX5) (T := TX5) (N := 3) hx hb hts i_X5_winner_X5 hown hE.1 hP 5 rfl rfl 0 (by decide) (hts _ m_X5_winner_f14) (fun _ h9 => h9) rfl dX5_winner_13 ?_
        refine lv_iload_n hx hb dX5_winner_16 rfl (lv_at hl 2 rfl) ?_
        obtain ⟨r5, h6, hf⟩ := tk_b1s hf
        refine tk_ci (ws' := (tk_H c3 q S)) (va_runV (As := [.int x2_4]) (rest := []) ⟨hx, hb, hml, hown, hts⟩ (c_X2_at_p6 l G c3 q S x2_4 r5 h6 H.size) (cwV 1 hts gX5_winner_X2_at rfl rfl rfl hv_X2_at ⟨Nat.le_of_ble_eq_true rfl, Nat.le_of_ble_eq_true rfl⟩) (tk_pV hE hP hD 6 rfl rfl) rfl rfl hl.1 rfl (lv_room (Nat.le_of_ble_eq_true rfl)) dX5_winner_17 ⟨Nat.zero_le _, Nat.zero_le _⟩) hD hS hA (fun H locs hP hD hS => ?_)
        refine lv_aload_n hx hb dX5_winner_20 rfl (lv_at hl 0 rfl) ?_
        refine va_get (D := G) (ci := 5) (v := .ref (q 6)) (C := RX5) (T := TX5) (N := 3) hx hb hts i_X5_winner_X5 hown hE.1 hP 5 rfl rfl 0 (by decide) (hts _ m_X5_winner_f14) (fun _ h9 => h9) rfl dX5_winner_21 ?_
        refine lv_iload_n hx hb dX5_winner_24 rfl (lv_at hl 1 rfl) ?_
        obtain ⟨r8, h9, hf⟩ := tk_b1s hf
        refine tk_ci (ws' := (tk_H c3 q S)) (va_runV (As := [.int x1_4]) (rest := [.int r5]) ⟨hx, hb, hml, hown, hts⟩ (c_X2_at_p6 l G c3 q S x1_4 r8 h9 H.size) (cwV 1 hts gX5_winner_X2_at rfl rfl rfl hv_X2_at ⟨Nat.le_of_ble_eq_true rfl, Nat.le_of_ble_eq_true rfl⟩) (tk_pV hE hP hD 6 rfl rfl) rfl rfl hl.1 rfl (lv_room (Nat.le_of_ble_eq_true rfl)) dX5_winner_25 ⟨Nat.zero_le _, Nat.zero_le _⟩) hD hS hA (fun H locs hP hD hS => ?_)
        obtain ⟨r11, h12, hf⟩ := tk_b1s hf
        refine tk_ci (ws' := (tk_H c3 q S)) (va_runS (As := [.int r5, .int r8]) (rest := []) ⟨hx, hb, hml, hown, hts⟩ (c_X5_beats l G c3 (tk_H c3 q S) r5 r8 r11 h12 H.size) (va_cwS 2 hts gX5_winner_X5_beats rfl rfl rfl hs_X5_beats ⟨Nat.le_of_ble_eq_true rfl, Nat.le_of_ble_eq_true rfl⟩) (tk_pS hE hP hD) rfl rfl hl.1 rfl (lv_room (Nat.le_of_ble_eq_true rfl)) dX5_winner_28 ⟨Nat.zero_le _, Nat.zero_le _⟩) hD hS hA (fun H locs hP hD hS => ?_)
        refine lv_if_eq (tgt := 36) hx hb dX5_winner_31 (by decide) (fun h14 => ?_) (fun h14 => ?_)
        · have hf := tk_pos hf h14
          exact J_36 x1_4 x2_4 H locs hP hD hS ls (lv_sub hl [0, 1, 2] rfl) hf
        · have hf := tk_neg hf h14
          refine lv_iload_n hx hb dX5_winner_34 rfl (lv_at hl 2 rfl) ?_
          refine lv_istore_n (lv' := [(1, .int x2_4), (0, .ref (q 5)), (2, .int x2_4)]) hx hb dX5_winner_35 rfl hl (by decide) rfl (fun ls hl => ?_)
          exact J_36 x2_4 x2_4 H locs hP hD hS ls (lv_sub hl [1, 0, 2] rfl) hf
  unfold f_X5_winner at hf
  refine lv_iconst (v := 0) hx hb dX5_winner_0 (by decide) ?_
  refine lv_istore_n (lv' := [(1, .int (0 : Int32)), (0, .ref (q 5))]) hx hb dX5_winner_1 rfl hl (by decide) rfl (fun ls hl => ?_)
  refine lv_iconst (v := 1) hx hb dX5_winner_2 (by decide) ?_
  refine lv_istore_n (lv' := [(2, .int (1 : Int32)), (1, .int (0 : Int32)), (0, .ref (q 5))]) hx hb dX5_winner_3 rfl hl (by decide) rfl (fun ls hl => ?_)
  exact J_4 64 (0 : Int32) (1 : Int32) H locs hP hD hS ls (lv_sub hl [2, 1, 0] rfl) hf
abbrev rm_X6_sideOf : Room := { frames := 0, cells := 0, slots := 0, locals := 0 }
set_option maxHeartbeats 4000000 in
set_option maxRecDepth 100000 in
theorem c_X6_sideOf (l : Launch) (G : va_G) (c3 : ClassId × ClassId × ClassId) (q : Nat → Nat) (S : tk_ST) (p0 : Int32) (r0 : Int32) (hf : f_X6_sideOf p0 S = some r0) : tk_Mi l yX6_sideOf wsX6_sideOf rm_X6_sideOf G c3 [.ref (q 0), .int p0] (tk_H c3 q S) (tk_H c3 q S) r0 := by
  refine tk_ofi (cc := cX6_sideOf) (maxL := 2) (ret := some .int) (by decide) rfl (Nat.le_of_ble_eq_true rfl) ?_
  intro p e s m below meth c A Q ls H locs hx hb hml hr hts hown hlocks hE hA hP hD hS hZ hQ hl
  have hl : lv_has ls 2 [(0, .ref (q 0)), (1, .int p0)] := hl
  have hown : s.vm.findClass RX6 = some m.cls := hown
  have J_16 : ∀ (H : Heap) (locs : List Loc) (_ : va_P G vwCl (tk_H c3 q S) H) (_ : va_D A (tk_H c3 q S)) (_ : va_S A s.heap H locs) (ls : Array Slot) (_ : lv_has ls 2 []) (_ : f_X6_sideOf_16 S = some r0), W p l e rm_X6_sideOf s m ([.ref (q 0), .int p0] : List Value).toArray below meth c H locs 0 0 Q (F0 m 16 ls []) := by
    intro  H locs hP hD hS ls hl hf
    unfold f_X6_sideOf_16 at hf
    refine lv_iconst (v := 0) hx hb dX6_sideOf_16 (by decide) ?_
    refine lv_goto (tgt := 21) hx hb dX6_sideOf_17 (by decide) ?_
    exact tk_ri hQ (tk_s1 hf) rfl hx hb hr hlocks hP hD hS dX6_sideOf_21
  unfold f_X6_sideOf at hf
  refine lv_iload_n hx hb dX6_sideOf_0 rfl (lv_at hl 1 rfl) ?_
  refine lv_aload_n hx hb dX6_sideOf_1 rfl (lv_at hl 0 rfl) ?_
  refine va_get (D := G) (ci := 6) (v := .int (S.1 3)) (C := RX6) (T := TX6) (N := 18) hx hb hts i_X6_sideOf_X6 hown hE.1 hP 0 rfl rfl 9 (by decide) (hts _ m_X6_sideOf_f59) (fun _ h9 => h9) rfl dX6_sideOf_2 ?_
  refine lv_icmp_eq (tgt := 16) hx hb dX6_sideOf_5 (by decide) (fun h1 => ?_) (fun h1 => ?_)
  · have hf := tk_pos hf h1
    exact J_16 H locs hP hD hS ls (lv_sub hl [] rfl) hf
  · have hf := tk_neg hf h1
    refine lv_iload_n hx hb dX6_sideOf_8 rfl (lv_at hl 1 rfl) ?_
    refine lv_aload_n hx hb dX6_sideOf_9 rfl (lv_at hl 0 rfl) ?_
    refine va_get (D := G) (ci := 6) (v := .int (S.1 6)) (C := RX6) (T := TX6) (N := 18) hx hb hts i_X6_sideOf_X6 hown hE.1 hP 0 rfl rfl 12 (by decide) (hts _ m_X6_sideOf_f68) (fun _ h9 => h9) rfl dX6_sideOf_10 ?_
    refine lv_icmp_ne (tgt := 20) hx hb dX6_sideOf_13 (by decide) (fun h2 => ?_) (fun h2 => ?_)
    · have hf := tk_neg hf h2
      refine lv_iconst (v := 1) hx hb dX6_sideOf_20 (by decide) ?_
      exact tk_ri hQ (tk_s1 hf) rfl hx hb hr hlocks hP hD hS dX6_sideOf_21
    · have hf := tk_pos hf h2
      exact J_16 H locs hP hD hS ls (lv_sub hl [] rfl) hf
set_option maxHeartbeats 4000000 in
set_option maxRecDepth 100000 in
theorem c_X3_at_p15 (l : Launch) (G : va_G) (c3 : ClassId × ClassId × ClassId) (q : Nat → Nat) (S : tk_ST) (p0 : Int32) (r0 : Int64) (hf : f_X3_at_p15 p0 S = some r0) : tk_Ml l yX3_at wsX3_at rm_X3_at G c3 [.ref (q 15), .int p0] (tk_H c3 q S) (tk_H c3 q S) r0 := by
  refine tk_ofl (cc := cX3_at) (maxL := 2) (ret := some .long) (by decide) rfl (Nat.le_of_ble_eq_true rfl) ?_
  intro p e s m below meth c A Q ls H locs hx hb hml hr hts hown hlocks hE hA hP hD hS hZ hQ hl
  have hl : lv_has ls 2 [(0, .ref (q 15)), (1, .int p0)] := hl
  have hown : s.vm.findClass RX3 = some m.cls := hown
  unfold f_X3_at_p15 at hf
  refine lv_iload_n hx hb dX3_at_0 rfl (lv_at hl 1 rfl) ?_
  refine lv_if_lt (tgt := 22) hx hb dX3_at_1 (by decide) (fun h1 => ?_) (fun h1 => ?_)
  · have hf := tk_pos hf h1
    refine lv_lconst (v := 0) hx hb dX3_at_22 (by decide) ?_
    exact tk_rl hQ (tk_s1 hf) rfl hx hb hr hlocks hP hD hS dX3_at_23
  · have hf := tk_neg hf h1
    refine lv_iload_n hx hb dX3_at_4 rfl (lv_at hl 1 rfl) ?_
    refine lv_aload_n hx hb dX3_at_5 rfl (lv_at hl 0 rfl) ?_
    refine va_get (D := G) (ci := 3) (v := .ref (q 16)) (C := RX3) (T := TX3) (N := 1) hx hb hts i_X3_at_X3 hown hE.1 hP 15 rfl rfl 0 (by decide) (hts _ m_X3_at_f13) (fun _ h9 => h9) rfl dX3_at_6 ?_
    refine va_alen (v := 2) hx hb hE.1 hP 16 1 rfl rfl rfl dX3_at_9 ?_
    refine lv_icmp_ge (tgt := 22) hx hb dX3_at_10 (by decide) (fun h2 => ?_) (fun h2 => ?_)
    · have hf := tk_pos hf h2
      refine lv_lconst (v := 0) hx hb dX3_at_22 (by decide) ?_
      exact tk_rl hQ (tk_s1 hf) rfl hx hb hr hlocks hP hD hS dX3_at_23
    · have hf := tk_neg hf h2
      refine lv_aload_n hx hb dX3_at_13 rfl (lv_at hl 0 rfl) ?_
      refine va_get (D := G) (ci := 3) (v := .ref (q 16)) (C := RX3) (T := TX3) (N := 1) hx hb hts i_X3_at_X3 hown hE.1 hP 15 rfl rfl 0 (by decide) (hts _ m_X3_at_f13) (fun _ h9 => h9) rfl dX3_at_14 ?_
      refine lv_iload_n hx hb dX3_at_17 rfl (lv_at hl 1 rfl) ?_
      obtain ⟨h3, hf⟩ := tk_ok hf
      refine va_lald (f := (S.2.2.2 1)) hx hb hE.1 hP 16 1 rfl rfl h3 dX3_at_18 ?_
      refine lv_goto (tgt := 23) hx hb dX3_at_19 (by decide) ?_
      exact tk_rl hQ (tk_s1 hf) rfl hx hb hr hlocks hP hD hS dX3_at_23
abbrev rm_X5_cardSet : Room := { frames := 1, cells := 0, slots := 0, locals := 21 }
set_option maxHeartbeats 4000000 in
set_option maxRecDepth 100000 in
theorem c_X5_cardSet (l : Launch) (G : va_G) (c3 : ClassId × ClassId × ClassId) (q : Nat → Nat) (S : tk_ST) (r0 : Int64) (hf : f_X5_cardSet S = some r0) : tk_Ml l yX5_cardSet wsX5_cardSet rm_X5_cardSet G c3 [.ref (q 5)] (tk_H c3 q S) (tk_H c3 q S) r0 := by
  refine tk_ofl (cc := cX5_cardSet) (maxL := 4) (ret := some .long) (by decide) rfl (Nat.le_of_ble_eq_true rfl) ?_
  intro p e s m below meth c A Q ls H locs hx hb hml hr hts hown hlocks hE hA hP hD hS hZ hQ hl
  have hl : lv_has ls 4 [(0, .ref (q 5))] := hl
  have hown : s.vm.findClass RX5 = some m.cls := hown
  have J_4 : ∀ (n_4 : Nat), ∀ (x1_4 : Int64) (x3_4 : Int32) (H : Heap) (locs : List Loc) (_ : va_P G vwCl (tk_H c3 q S) H) (_ : va_D A (tk_H c3 q S)) (_ : va_S A s.heap H locs) (ls : Array Slot) (_ : lv_has ls 4 [(0, .ref (q 5)), (1, .long x1_4), (3, .int x3_4)]) (_ : f_X5_cardSet_4 n_4 x1_4 x3_4 S = some r0), W p l e rm_X5_cardSet s m ([.ref (q 5)] : List Value).toArray below meth c H locs 0 0 Q (F0 m 4 ls []) := by
    intro n_4
    induction n_4 with
    | zero =>
      intro x1_4 x3_4 H locs hP hD hS ls hl hf
      exact absurd hf (by intro h9; cases h9)
    | succ n_4 ih_4 =>
      intro x1_4 x3_4 H locs hP hD hS ls hl hf
      rw [f_X5_cardSet_4_s] at hf
      refine lv_iload_n hx hb dX5_cardSet_4 rfl (lv_at hl 2 rfl) ?_
      refine lv_aload_n hx hb dX5_cardSet_5 rfl (lv_at hl 0 rfl) ?_
      refine va_get (D := G) (ci := 5) (v := .int (S.1 14)) (C := RX5) (T := TX5) (N := 3) hx hb hts i_X5_cardSet_X5 hown hE.1 hP 5 rfl rfl 2 (by decide) (hts _ m_X5_cardSet_f24) (fun _ h9 => h9) rfl dX5_cardSet_6 ?_
      refine lv_icmp_ge (tgt := 32) hx hb dX5_cardSet_9 (by decide) (fun h1 => ?_) (fun h1 => ?_)
      · have hf := tk_pos hf h1
        refine lv_lload_n hx hb dX5_cardSet_32 rfl (lv_at hl 1 rfl) ?_
        exact tk_rl hQ (tk_s1 hf) rfl hx hb hr hlocks hP hD hS dX5_cardSet_33
      · have hf := tk_neg hf h1
        refine lv_lload_n hx hb dX5_cardSet_12 rfl (lv_at hl 1 rfl) ?_
        refine lv_aload_n hx hb dX5_cardSet_13 rfl (lv_at hl 0 rfl) ?_
        refine va_get (D := G) (ci := 5) (v := .ref (q 6)) (C := RX5) (T := TX5) (N := 3) hx hb hts i_X5_cardSet_X5 hown hE.1 hP 5 rfl rfl 0 (by decide) (hts _ m_X5_cardSet_f14) (fun _ h9 => h9) rfl dX5_cardSet_14 ?_
        refine lv_iload_n hx hb dX5_cardSet_17 rfl (lv_at hl 2 rfl) ?_
        obtain ⟨r2, h3, hf⟩ := tk_b1s hf
        refine tk_ci (ws' := (tk_H c3 q S)) (va_runV (As := [.int x3_4]) (rest := [.long x1_4]) ⟨hx, hb, hml, hown, hts⟩ (c_X2_at_p6 l G c3 q S x3_4 r2 h3 H.size) (cwV 1 hts gX5_cardSet_X2_at rfl rfl rfl hv_X2_at ⟨Nat.le_of_ble_eq_true rfl, Nat.le_of_ble_eq_true rfl⟩) (tk_pV hE hP hD 6 rfl rfl) rfl rfl hl.1 rfl (lv_room (Nat.le_of_ble_eq_true rfl)) dX5_cardSet_18 ⟨Nat.zero_le _, Nat.zero_le _⟩) hD hS hA (fun H locs hP hD hS => ?_)
        obtain ⟨r5, h6, hf⟩ := tk_b1s hf
        refine tk_cl (ws' := (tk_H c3 q S)) (va_runSN (As := [.int r2]) (rest := [.long x1_4]) ⟨hx, hb, hml, hown, hts⟩ (c_X6_only l G c3 (tk_H c3 q S) r2 r5 h6 H.size) ⟨va_cnB 1 hts gX5_cardSet_X6_only_n38 rfl rfl rfl hE.2.1.2.2.2.2.2.2.2.2.2.1 (hts _ m_X5_cardSet_iX6) hs_X6_only ⟨Nat.le_of_ble_eq_true rfl, Nat.le_of_ble_eq_true rfl⟩, (hts _ m_X5_cardSet_st_X6_only), trivial⟩ (tk_pS hE hP hD) rfl rfl hl.1 rfl (lv_room (Nat.le_of_ble_eq_true rfl)) dX5_cardSet_21 ⟨Nat.zero_le _, Nat.zero_le _⟩) hD hS hA (fun H locs hP hD hS => ?_)
        refine lv_lor hx hb dX5_cardSet_24 ?_
        refine lv_lstore_n (lv' := [(1, .long (x1_4 ||| r5)), (0, .ref (q 5)), (3, .int x3_4)]) hx hb dX5_cardSet_25 rfl hl (by decide) rfl (fun ls hl => ?_)
        refine lv_iinc (v := (x3_4 + (1 : Int32))) (lv' := [(3, .int (x3_4 + (1 : Int32))), (1, .long (x1_4 ||| r5)), (0, .ref (q 5))]) hx hb dX5_cardSet_26 hl (k := 2) rfl rfl (by decide) rfl (fun ls hl => ?_)
        refine lv_goto (tgt := 4) hx hb dX5_cardSet_29 (by decide) ?_
        exact ih_4 (x1_4 ||| r5) (x3_4 + (1 : Int32)) H locs hP hD hS ls (lv_sub hl [2, 1, 0] rfl) hf
  unfold f_X5_cardSet at hf
  refine lv_lconst (v := 0) hx hb dX5_cardSet_0 (by decide) ?_
  refine lv_lstore_n (lv' := [(1, .long (0 : Int64)), (0, .ref (q 5))]) hx hb dX5_cardSet_1 rfl hl (by decide) rfl (fun ls hl => ?_)
  refine lv_iconst (v := 0) hx hb dX5_cardSet_2 (by decide) ?_
  refine lv_istore_n (lv' := [(3, .int (0 : Int32)), (1, .long (0 : Int64)), (0, .ref (q 5))]) hx hb dX5_cardSet_3 rfl hl (by decide) rfl (fun ls hl => ?_)
  exact J_4 64 (0 : Int64) (0 : Int32) H locs hP hD hS ls (lv_sub hl [2, 1, 0] rfl) hf
abbrev rm_X6_thirdsOf : Room := { frames := 2, cells := 0, slots := 0, locals := 41 }
set_option maxHeartbeats 4000000 in
set_option maxRecDepth 100000 in
theorem c_X6_thirdsOf (l : Launch) (G : va_G) (c3 : ClassId × ClassId × ClassId) (ws : va_W) (p0 : Int64) (r0 : Int32) (hf : f_X6_thirdsOf p0 = some r0) : tk_Mi l yX6_thirdsOf wsX6_thirdsOf rm_X6_thirdsOf G c3 [.long p0] ws ws r0 := by
  refine tk_ofi (cc := cX6_thirdsOf) (maxL := 4) (ret := some .int) (by decide) rfl (Nat.le_of_ble_eq_true rfl) ?_
  intro p e s m below meth c A Q ls H locs hx hb hml hr hts hown hlocks hE hA hP hD hS hZ hQ hl
  have hl : lv_has ls 4 [(0, .long p0)] := hl
  have hown : s.vm.findClass RX6 = some m.cls := hown
  have J_4 : ∀ (n_4 : Nat), ∀ (x0_4 : Int64) (x2_4 : Int32) (x3_4 : Int32) (H : Heap) (locs : List Loc) (_ : va_P G vwCl ws H) (_ : va_D A ws) (_ : va_S A s.heap H locs) (ls : Array Slot) (_ : lv_has ls 4 [(0, .long x0_4), (2, .int x2_4), (3, .int x3_4)]) (_ : f_X6_thirdsOf_4 n_4 x0_4 x2_4 x3_4 = some r0), W p l e rm_X6_thirdsOf s m ([.long p0] : List Value).toArray below meth c H locs 0 0 Q (F0 m 4 ls []) := by
    intro n_4
    induction n_4 with
    | zero =>
      intro x0_4 x2_4 x3_4 H locs hP hD hS ls hl hf
      exact absurd hf (by intro h9; cases h9)
    | succ n_4 ih_4 =>
      have J_29 : ∀ (x0_29 : Int64) (x2_29 : Int32) (x3_29 : Int32) (H : Heap) (locs : List Loc) (_ : va_P G vwCl ws H) (_ : va_D A ws) (_ : va_S A s.heap H locs) (ls : Array Slot) (_ : lv_has ls 4 [(0, .long x0_29), (2, .int x2_29), (3, .int x3_29)]) (_ : f_X6_thirdsOf_29 (f_X6_thirdsOf_4 n_4) x0_29 x2_29 x3_29 = some r0), W p l e rm_X6_thirdsOf s m ([.long p0] : List Value).toArray below meth c H locs 0 0 Q (F0 m 29 ls []) := by
        intro x0_29 x2_29 x3_29 H locs hP hD hS ls hl hf
        unfold f_X6_thirdsOf_29 at hf
        refine lv_iinc (v := (x3_29 + (1 : Int32))) (lv' := [(3, .int (x3_29 + (1 : Int32))), (0, .long x0_29), (2, .int x2_29)]) hx hb dX6_thirdsOf_29 hl (k := 2) rfl rfl (by decide) rfl (fun ls hl => ?_)
        refine lv_goto (tgt := 4) hx hb dX6_thirdsOf_32 (by decide) ?_
        exact ih_4 x0_29 x2_29 (x3_29 + (1 : Int32)) H locs hP hD hS ls (lv_sub hl [1, 2, 0] rfl) hf
      intro x0_4 x2_4 x3_4 H locs hP hD hS ls hl hf
      rw [f_X6_thirdsOf_4_s] at hf
      refine lv_iload_n hx hb dX6_thirdsOf_4 rfl (lv_at hl 2 rfl) ?_
      refine lv_bipush (v := 54) hx hb dX6_thirdsOf_5 (by decide) ?_
      refine lv_icmp_ge (tgt := 35) hx hb dX6_thirdsOf_7 (by decide) (fun h1 => ?_) (fun h1 => ?_)
      · have hf := tk_pos hf h1
        refine lv_iload_n hx hb dX6_thirdsOf_35 rfl (lv_at hl 1 rfl) ?_
        exact tk_ri hQ (tk_s1 hf) rfl hx hb hr hlocks hP hD hS dX6_thirdsOf_36
      · have hf := tk_neg hf h1
        refine lv_lload_n hx hb dX6_thirdsOf_10 rfl (lv_at hl 0 rfl) ?_
        refine lv_iload_n hx hb dX6_thirdsOf_11 rfl (lv_at hl 2 rfl) ?_
        obtain ⟨r2, h3, hf⟩ := tk_b1s hf
        refine tk_ci (ws' := ws) (va_runS (As := [.long x0_4, .int x3_4]) (rest := []) ⟨hx, hb, hml, hown, hts⟩ (c_X6_holds l G c3 ws x0_4 x3_4 r2 h3 H.size) (va_cwS 2 hts gX6_thirdsOf_X6_holds rfl rfl rfl hs_X6_holds ⟨Nat.le_of_ble_eq_true rfl, Nat.le_of_ble_eq_true rfl⟩) (tk_pS hE hP hD) rfl rfl hl.1 rfl (lv_room (Nat.le_of_ble_eq_true rfl)) dX6_thirdsOf_12 ⟨Nat.zero_le _, Nat.zero_le _⟩) hD hS hA (fun H locs hP hD hS => ?_)
        refine lv_if_eq (tgt := 29) hx hb dX6_thirdsOf_15 (by decide) (fun h5 => ?_) (fun h5 => ?_)
        · have hf := tk_pos hf h5
          exact J_29 x0_4 x2_4 x3_4 H locs hP hD hS ls (lv_sub hl [0, 1, 2] rfl) hf
        · have hf := tk_neg hf h5
          refine lv_iload_n hx hb dX6_thirdsOf_18 rfl (lv_at hl 1 rfl) ?_
          refine lv_iconst (v := 3) hx hb dX6_thirdsOf_19 (by decide) ?_
          refine lv_iload_n hx hb dX6_thirdsOf_20 rfl (lv_at hl 2 rfl) ?_
          obtain ⟨r6, h7, hf⟩ := tk_b1s hf
          refine tk_ci (ws' := ws) (va_runS (As := [.int x3_4]) (rest := [.int (3 : Int32), .int x2_4]) ⟨hx, hb, hml, hown, hts⟩ (c_X6_worth l G c3 ws x3_4 r6 h7 H.size) (va_cwS 1 hts gX6_thirdsOf_X6_worth rfl rfl rfl hs_X6_worth ⟨Nat.le_of_ble_eq_true rfl, Nat.le_of_ble_eq_true rfl⟩) (tk_pS hE hP hD) rfl rfl hl.1 rfl (lv_room (Nat.le_of_ble_eq_true rfl)) dX6_thirdsOf_21 ⟨Nat.zero_le _, Nat.zero_le _⟩) hD hS hA (fun H locs hP hD hS => ?_)
          refine lv_imul hx hb dX6_thirdsOf_24 ?_
          refine lv_iconst (v := 2) hx hb dX6_thirdsOf_25 (by decide) ?_
          refine lv_isub hx hb dX6_thirdsOf_26 ?_
          refine lv_iadd hx hb dX6_thirdsOf_27 ?_
          refine lv_istore_n (lv' := [(2, .int (x2_4 + (((3 : Int32) * r6) - (2 : Int32)))), (0, .long x0_4), (3, .int x3_4)]) hx hb dX6_thirdsOf_28 rfl hl (by decide) rfl (fun ls hl => ?_)
          exact J_29 x0_4 (x2_4 + (((3 : Int32) * r6) - (2 : Int32))) x3_4 H locs hP hD hS ls (lv_sub hl [1, 0, 2] rfl) hf
  unfold f_X6_thirdsOf at hf
  refine lv_iconst (v := 0) hx hb dX6_thirdsOf_0 (by decide) ?_
  refine lv_istore_n (lv' := [(2, .int (0 : Int32)), (0, .long p0)]) hx hb dX6_thirdsOf_1 rfl hl (by decide) rfl (fun ls hl => ?_)
  refine lv_iconst (v := 0) hx hb dX6_thirdsOf_2 (by decide) ?_
  refine lv_istore_n (lv' := [(3, .int (0 : Int32)), (2, .int (0 : Int32)), (0, .long p0)]) hx hb dX6_thirdsOf_3 rfl hl (by decide) rfl (fun ls hl => ?_)
  exact J_4 64 p0 (0 : Int32) (0 : Int32) H locs hP hD hS ls (lv_sub hl [2, 1, 0] rfl) hf
abbrev rm_X6_basePoints : Room := { frames := 0, cells := 0, slots := 0, locals := 0 }
set_option maxHeartbeats 4000000 in
set_option maxRecDepth 100000 in
theorem c_X6_basePoints (l : Launch) (G : va_G) (c3 : ClassId × ClassId × ClassId) (ws : va_W) (p0 : Int32) (r0 : Int32) (hf : f_X6_basePoints p0 = some r0) : tk_Mi l yX6_basePoints wsX6_basePoints rm_X6_basePoints G c3 [.int p0] ws ws r0 := by
  refine tk_ofi (cc := cX6_basePoints) (maxL := 1) (ret := some .int) (by decide) rfl (Nat.le_of_ble_eq_true rfl) ?_
  intro p e s m below meth c A Q ls H locs hx hb hml hr hts hown hlocks hE hA hP hD hS hZ hQ hl
  have hl : lv_has ls 1 [(0, .int p0)] := hl
  have hown : s.vm.findClass RX6 = some m.cls := hown
  unfold f_X6_basePoints at hf
  refine lv_iload_n hx hb dX6_basePoints_0 rfl (lv_at hl 0 rfl) ?_
  by_cases h1 : p0 = (1 : Int32)
  · have hf := tk_pos hf h1
    refine lv_tableIn (tgt := 32) hx hb dX6_basePoints_1 (by rw [h1]; decide) (by rw [h1]; decide) (by rw [h1]; rfl) (by decide) ?_
    refine lv_bipush (v := 10) hx hb dX6_basePoints_32 (by decide) ?_
    exact tk_ri hQ (tk_s1 hf) rfl hx hb hr hlocks hP hD hS dX6_basePoints_34
  have hf := tk_neg hf h1
  by_cases h2 : p0 = (2 : Int32)
  · have hf := tk_pos hf h2
    refine lv_tableIn (tgt := 35) hx hb dX6_basePoints_1 (by rw [h2]; decide) (by rw [h2]; decide) (by rw [h2]; rfl) (by decide) ?_
    refine lv_bipush (v := 20) hx hb dX6_basePoints_35 (by decide) ?_
    exact tk_ri hQ (tk_s1 hf) rfl hx hb hr hlocks hP hD hS dX6_basePoints_37
  have hf := tk_neg hf h2
  by_cases h3 : p0 = (3 : Int32)
  · have hf := tk_pos hf h3
    refine lv_tableIn (tgt := 38) hx hb dX6_basePoints_1 (by rw [h3]; decide) (by rw [h3]; decide) (by rw [h3]; rfl) (by decide) ?_
    refine lv_bipush (v := 30) hx hb dX6_basePoints_38 (by decide) ?_
    exact tk_ri hQ (tk_s1 hf) rfl hx hb hr hlocks hP hD hS dX6_basePoints_40
  have hf := tk_neg hf h3
  by_cases h4 : p0 = (4 : Int32)
  · have hf := tk_pos hf h4
    refine lv_tableIn (tgt := 41) hx hb dX6_basePoints_1 (by rw [h4]; decide) (by rw [h4]; decide) (by rw [h4]; rfl) (by decide) ?_
    refine lv_bipush (v := 50) hx hb dX6_basePoints_41 (by decide) ?_
    exact tk_ri hQ (tk_s1 hf) rfl hx hb hr hlocks hP hD hS dX6_basePoints_43
  have hf := tk_neg hf h4
  refine lv_tableOut (tgt := 44) hx hb dX6_basePoints_1 (tk_out 1 4 _ (fun j g1 g2 => by intro hj; rcases (show j = 1 ∨ j = 2 ∨ j = 3 ∨ j = 4 by omega) with rfl | rfl | rfl | rfl <;> first | exact h1 hj | exact h2 hj | exact h3 hj | exact h4 hj)) (by decide) ?_
  refine lv_bipush (v := 80) hx hb dX6_basePoints_44 (by decide) ?_
  exact tk_ri hQ (tk_s1 hf) rfl hx hb hr hlocks hP hD hS dX6_basePoints_46
abbrev rm_X6_isWon : Room := { frames := 0, cells := 0, slots := 0, locals := 0 }
set_option maxHeartbeats 4000000 in
set_option maxRecDepth 100000 in
theorem c_X6_isWon (l : Launch) (G : va_G) (c3 : ClassId × ClassId × ClassId) (ws : va_W) (p0 : Int32) (r0 : Int32) (hf : f_X6_isWon p0 = some r0) : tk_Mi l yX6_isWon wsX6_isWon rm_X6_isWon G c3 [.int p0] ws ws r0 := by
  refine tk_ofi (cc := cX6_isWon) (maxL := 1) (ret := some .boolean) (by decide) rfl (Nat.le_of_ble_eq_true rfl) ?_
  intro p e s m below meth c A Q ls H locs hx hb hml hr hts hown hlocks hE hA hP hD hS hZ hQ hl
  have hl : lv_has ls 1 [(0, .int p0)] := hl
  have hown : s.vm.findClass RX6 = some m.cls := hown
  unfold f_X6_isWon at hf
  refine lv_iload_n hx hb dX6_isWon_0 rfl (lv_at hl 0 rfl) ?_
  refine lv_bipush (v := 105) hx hb dX6_isWon_1 (by decide) ?_
  refine lv_icmp_le (tgt := 10) hx hb dX6_isWon_3 (by decide) (fun h1 => ?_) (fun h1 => ?_)
  · have hf := tk_pos hf h1
    refine lv_iconst (v := 0) hx hb dX6_isWon_10 (by decide) ?_
    exact tk_rz hQ (tk_s1 hf) rfl (by decide) hx hb hr hlocks hP hD hS dX6_isWon_11
  · have hf := tk_neg hf h1
    refine lv_iconst (v := 1) hx hb dX6_isWon_6 (by decide) ?_
    refine lv_goto (tgt := 11) hx hb dX6_isWon_7 (by decide) ?_
    exact tk_rz hQ (tk_s1 hf) rfl (by decide) hx hb hr hlocks hP hD hS dX6_isWon_11
abbrev rm_X6_gamePoints : Room := { frames := 1, cells := 0, slots := 0, locals := 21 }
set_option maxHeartbeats 4000000 in
set_option maxRecDepth 100000 in
theorem c_X6_gamePoints (l : Launch) (G : va_G) (c3 : ClassId × ClassId × ClassId) (ws : va_W) (p0 : Int32) (p1 : Int32) (r0 : Int32) (hf : f_X6_gamePoints p0 p1 = some r0) : tk_Mi l yX6_gamePoints wsX6_gamePoints rm_X6_gamePoints G c3 [.int p0, .int p1] ws ws r0 := by
  refine tk_ofi (cc := cX6_gamePoints) (maxL := 3) (ret := some .int) (by decide) rfl (Nat.le_of_ble_eq_true rfl) ?_
  intro p e s m below meth c A Q ls H locs hx hb hml hr hts hown hlocks hE hA hP hD hS hZ hQ hl
  have hl : lv_has ls 3 [(0, .int p0), (1, .int p1)] := hl
  have hown : s.vm.findClass RX6 = some m.cls := hown
  have J_22 : ∀ (x1_22 : Int32) (x2_22 : Int32) (H : Heap) (locs : List Loc) (_ : va_P G vwCl ws H) (_ : va_D A ws) (_ : va_S A s.heap H locs) (ls : Array Slot) (_ : lv_has ls 3 [(1, .int x1_22), (2, .int x2_22)]) (_ : f_X6_gamePoints_22 x1_22 x2_22 = some r0), W p l e rm_X6_gamePoints s m ([.int p0, .int p1] : List Value).toArray below meth c H locs 0 0 Q (F0 m 22 ls []) := by
    intro x1_22 x2_22 H locs hP hD hS ls hl hf
    unfold f_X6_gamePoints_22 at hf
    refine lv_iload_n hx hb dX6_gamePoints_22 rfl (lv_at hl 0 rfl) ?_
    obtain ⟨r1, h2, hf⟩ := tk_b1s hf
    refine tk_ci (ws' := ws) (va_runS (As := [.int x1_22]) (rest := []) ⟨hx, hb, hml, hown, hts⟩ (c_X6_isWon l G c3 ws x1_22 r1 h2 H.size) (va_cwS 1 hts gX6_gamePoints_X6_isWon rfl rfl rfl hs_X6_isWon ⟨Nat.le_of_ble_eq_true rfl, Nat.le_of_ble_eq_true rfl⟩) (tk_pS hE hP hD) rfl rfl hl.1 rfl (lv_room (Nat.le_of_ble_eq_true rfl)) dX6_gamePoints_23 ⟨Nat.zero_le _, Nat.zero_le _⟩) hD hS hA (fun H locs hP hD hS => ?_)
    refine lv_if_eq (tgt := 33) hx hb dX6_gamePoints_26 (by decide) (fun h4 => ?_) (fun h4 => ?_)
    · have hf := tk_pos hf h4
      refine lv_iload_n hx hb dX6_gamePoints_33 rfl (lv_at hl 1 rfl) ?_
      refine lv_ineg hx hb dX6_gamePoints_34 ?_
      exact tk_ri hQ (tk_s1 hf) rfl hx hb hr hlocks hP hD hS dX6_gamePoints_35
    · have hf := tk_neg hf h4
      refine lv_iload_n hx hb dX6_gamePoints_29 rfl (lv_at hl 1 rfl) ?_
      refine lv_goto (tgt := 35) hx hb dX6_gamePoints_30 (by decide) ?_
      exact tk_ri hQ (tk_s1 hf) rfl hx hb hr hlocks hP hD hS dX6_gamePoints_35
  unfold f_X6_gamePoints at hf
  refine lv_iload_n hx hb dX6_gamePoints_0 rfl (lv_at hl 0 rfl) ?_
  obtain ⟨r5, h6, hf⟩ := tk_b1s hf
  refine tk_ci (ws' := ws) (va_runS (As := [.int p0]) (rest := []) ⟨hx, hb, hml, hown, hts⟩ (c_X6_basePoints l G c3 ws p0 r5 h6 H.size) (va_cwS 1 hts gX6_gamePoints_X6_basePoints rfl rfl rfl hs_X6_basePoints ⟨Nat.le_of_ble_eq_true rfl, Nat.le_of_ble_eq_true rfl⟩) (tk_pS hE hP hD) rfl rfl hl.1 rfl (lv_room (Nat.le_of_ble_eq_true rfl)) dX6_gamePoints_1 ⟨Nat.zero_le _, Nat.zero_le _⟩) hD hS hA (fun H locs hP hD hS => ?_)
  refine lv_istore_n (lv' := [(2, .int r5), (0, .int p0), (1, .int p1)]) hx hb dX6_gamePoints_4 rfl hl (by decide) rfl (fun ls hl => ?_)
  refine lv_iload_n hx hb dX6_gamePoints_5 rfl (lv_at hl 1 rfl) ?_
  refine lv_iconst (v := 4) hx hb dX6_gamePoints_6 (by decide) ?_
  refine lv_icmp_gt (tgt := 22) hx hb dX6_gamePoints_7 (by decide) (fun h8 => ?_) (fun h8 => ?_)
  · have hf := tk_pos hf h8
    exact J_22 p1 r5 H locs hP hD hS ls (lv_sub hl [2, 0] rfl) hf
  · have hf := tk_neg hf h8
    refine lv_iload_n hx hb dX6_gamePoints_10 rfl (lv_at hl 0 rfl) ?_
    refine lv_iload_n hx hb dX6_gamePoints_11 rfl (lv_at hl 2 rfl) ?_
    refine lv_bipush (v := 105) hx hb dX6_gamePoints_12 (by decide) ?_
    refine lv_isub hx hb dX6_gamePoints_14 ?_
    refine va_mabs hx hb (hml.trans hl.1.symm) hown (hts _ m_X6_gamePoints_m350) (hts _ m_X6_gamePoints_s_abs) (hts _ m_X6_gamePoints_iMath) (hts _ m_X6_gamePoints_c_abs) (Nat.le_of_ble_eq_true rfl) (Nat.le_of_ble_eq_true rfl) (Nat.zero_le _) (Nat.zero_le _) dX6_gamePoints_15 ?_
    refine lv_iconst (v := 3) hx hb dX6_gamePoints_18 (by decide) ?_
    refine lv_idiv hx hb dX6_gamePoints_19 (by decide) ?_
    refine lv_iadd hx hb dX6_gamePoints_20 ?_
    refine lv_istore_n (lv' := [(2, .int (r5 + ((if 0 ≤ (p1 - (105 : Int32)) then (p1 - (105 : Int32)) else 0 - (p1 - (105 : Int32))) / (3 : Int32)))), (0, .int p0), (1, .int p1)]) hx hb dX6_gamePoints_21 rfl hl (by decide) rfl (fun ls hl => ?_)
    exact J_22 p1 (r5 + ((if 0 ≤ (p1 - (105 : Int32)) then (p1 - (105 : Int32)) else 0 - (p1 - (105 : Int32))) / (3 : Int32))) H locs hP hD hS ls (lv_sub hl [2, 0] rfl) hf
abbrev rm_X5_playerOf : Room := { frames := 1, cells := 0, slots := 0, locals := 21 }
set_option maxHeartbeats 4000000 in
set_option maxRecDepth 100000 in
theorem c_X5_playerOf (l : Launch) (G : va_G) (c3 : ClassId × ClassId × ClassId) (q : Nat → Nat) (S : tk_ST) (p0 : Int32) (r0 : Int32) (hf : f_X5_playerOf p0 S = some r0) : tk_Mi l yX5_playerOf wsX5_playerOf rm_X5_playerOf G c3 [.ref (q 5), .int p0] (tk_H c3 q S) (tk_H c3 q S) r0 := by
  refine tk_ofi (cc := cX5_playerOf) (maxL := 3) (ret := some .int) (by decide) rfl (Nat.le_of_ble_eq_true rfl) ?_
  intro p e s m below meth c A Q ls H locs hx hb hml hr hts hown hlocks hE hA hP hD hS hZ hQ hl
  have hl : lv_has ls 3 [(0, .ref (q 5)), (1, .int p0)] := hl
  have hown : s.vm.findClass RX5 = some m.cls := hown
  have J_2 : ∀ (n_2 : Nat), ∀ (x1_2 : Int32) (x2_2 : Int32) (H : Heap) (locs : List Loc) (_ : va_P G vwCl (tk_H c3 q S) H) (_ : va_D A (tk_H c3 q S)) (_ : va_S A s.heap H locs) (ls : Array Slot) (_ : lv_has ls 3 [(0, .ref (q 5)), (1, .int x1_2), (2, .int x2_2)]) (_ : f_X5_playerOf_2 n_2 x1_2 x2_2 S = some r0), W p l e rm_X5_playerOf s m ([.ref (q 5), .int p0] : List Value).toArray below meth c H locs 0 0 Q (F0 m 2 ls []) := by
    intro n_2
    induction n_2 with
    | zero =>
      intro x1_2 x2_2 H locs hP hD hS ls hl hf
      exact absurd hf (by intro h9; cases h9)
    | succ n_2 ih_2 =>
      intro x1_2 x2_2 H locs hP hD hS ls hl hf
      rw [f_X5_playerOf_2_s] at hf
      refine lv_iload_n hx hb dX5_playerOf_2 rfl (lv_at hl 2 rfl) ?_
      refine lv_aload_n hx hb dX5_playerOf_3 rfl (lv_at hl 0 rfl) ?_
      refine va_get (D := G) (ci := 5) (v := .int (S.1 14)) (C := RX5) (T := TX5) (N := 3) hx hb hts i_X5_playerOf_X5 hown hE.1 hP 5 rfl rfl 2 (by decide) (hts _ m_X5_playerOf_f24) (fun _ h9 => h9) rfl dX5_playerOf_4 ?_
      refine lv_icmp_ge (tgt := 34) hx hb dX5_playerOf_7 (by decide) (fun h1 => ?_) (fun h1 => ?_)
      · have hf := tk_pos hf h1
        refine lv_iconst (v := -1) hx hb dX5_playerOf_34 (by decide) ?_
        exact tk_ri hQ (tk_s1 hf) rfl hx hb hr hlocks hP hD hS dX5_playerOf_35
      · have hf := tk_neg hf h1
        refine lv_aload_n hx hb dX5_playerOf_10 rfl (lv_at hl 0 rfl) ?_
        refine va_get (D := G) (ci := 5) (v := .ref (q 6)) (C := RX5) (T := TX5) (N := 3) hx hb hts i_X5_playerOf_X5 hown hE.1 hP 5 rfl rfl 0 (by decide) (hts _ m_X5_playerOf_f14) (fun _ h9 => h9) rfl dX5_playerOf_11 ?_
        refine lv_iload_n hx hb dX5_playerOf_14 rfl (lv_at hl 2 rfl) ?_
        obtain ⟨r2, h3, hf⟩ := tk_b1s hf
        refine tk_ci (ws' := (tk_H c3 q S)) (va_runV (As := [.int x2_2]) (rest := []) ⟨hx, hb, hml, hown, hts⟩ (c_X2_at_p6 l G c3 q S x2_2 r2 h3 H.size) (cwV 1 hts gX5_playerOf_X2_at rfl rfl rfl hv_X2_at ⟨Nat.le_of_ble_eq_true rfl, Nat.le_of_ble_eq_true rfl⟩) (tk_pV hE hP hD 6 rfl rfl) rfl rfl hl.1 rfl (lv_room (Nat.le_of_ble_eq_true rfl)) dX5_playerOf_15 ⟨Nat.zero_le _, Nat.zero_le _⟩) hD hS hA (fun H locs hP hD hS => ?_)
        refine lv_iload_n hx hb dX5_playerOf_18 rfl (lv_at hl 1 rfl) ?_
        refine lv_icmp_ne (tgt := 28) hx hb dX5_playerOf_19 (by decide) (fun h5 => ?_) (fun h5 => ?_)
        · have hf := tk_neg hf h5
          refine lv_iinc (v := (x2_2 + (1 : Int32))) (lv' := [(2, .int (x2_2 + (1 : Int32))), (0, .ref (q 5)), (1, .int x1_2)]) hx hb dX5_playerOf_28 hl (k := 2) rfl rfl (by decide) rfl (fun ls hl => ?_)
          refine lv_goto (tgt := 2) hx hb dX5_playerOf_31 (by decide) ?_
          exact ih_2 x1_2 (x2_2 + (1 : Int32)) H locs hP hD hS ls (lv_sub hl [1, 2, 0] rfl) hf
        · have hf := tk_pos hf h5
          refine lv_aload_n hx hb dX5_playerOf_22 rfl (lv_at hl 0 rfl) ?_
          refine lv_iload_n hx hb dX5_playerOf_23 rfl (lv_at hl 2 rfl) ?_
          obtain ⟨r6, h7, hf⟩ := tk_b1s hf
          refine tk_ci (ws' := (tk_H c3 q S)) (va_runV (As := [.int x2_2]) (rest := []) ⟨hx, hb, hml, hown, hts⟩ (c_X5_playerAt l G c3 q S x2_2 r6 h7 H.size) (cwV 1 hts gX5_playerOf_X5_playerAt rfl rfl rfl hv_X5_playerAt ⟨Nat.le_of_ble_eq_true rfl, Nat.le_of_ble_eq_true rfl⟩) (tk_pV hE hP hD 5 rfl rfl) rfl rfl hl.1 rfl (lv_room (Nat.le_of_ble_eq_true rfl)) dX5_playerOf_24 ⟨Nat.zero_le _, Nat.zero_le _⟩) hD hS hA (fun H locs hP hD hS => ?_)
          exact tk_ri hQ (tk_s1 hf) rfl hx hb hr hlocks hP hD hS dX5_playerOf_27
  unfold f_X5_playerOf at hf
  refine lv_iconst (v := 0) hx hb dX5_playerOf_0 (by decide) ?_
  refine lv_istore_n (lv' := [(2, .int (0 : Int32)), (0, .ref (q 5)), (1, .int p0)]) hx hb dX5_playerOf_1 rfl hl (by decide) rfl (fun ls hl => ?_)
  exact J_2 64 p0 (0 : Int32) H locs hP hD hS ls (lv_sub hl [1, 2, 0] rfl) hf
abbrev rm_X6_pagatPoints : Room := { frames := 2, cells := 0, slots := 0, locals := 43 }
set_option maxHeartbeats 4000000 in
set_option maxRecDepth 100000 in
theorem c_X6_pagatPoints (l : Launch) (G : va_G) (c3 : ClassId × ClassId × ClassId) (q : Nat → Nat) (S : tk_ST) (p0 : Int32) (r0 : Int32) (hf : f_X6_pagatPoints p0 S = some r0) : tk_Mi l yX6_pagatPoints wsX6_pagatPoints rm_X6_pagatPoints G c3 [.ref (q 0), .int p0] (tk_H c3 q S) (tk_H c3 q S) r0 := by
  refine tk_ofi (cc := cX6_pagatPoints) (maxL := 5) (ret := some .int) (by decide) rfl (Nat.le_of_ble_eq_true rfl) ?_
  intro p e s m below meth c A Q ls H locs hx hb hml hr hts hown hlocks hE hA hP hD hS hZ hQ hl
  have hl : lv_has ls 5 [(0, .ref (q 0)), (1, .int p0)] := hl
  have hown : s.vm.findClass RX6 = some m.cls := hown
  have J_39 : ∀ (x2_39 : Int32) (x3_39 : Int32) (k0_39 : Int32) (H : Heap) (locs : List Loc) (_ : va_P G vwCl (tk_H c3 q S) H) (_ : va_D A (tk_H c3 q S)) (_ : va_S A s.heap H locs) (ls : Array Slot) (_ : lv_has ls 5 [(0, .ref (q 0)), (2, .int x2_39), (3, .int x3_39)]) (_ : f_X6_pagatPoints_39 x2_39 x3_39 k0_39 S = some r0), W p l e rm_X6_pagatPoints s m ([.ref (q 0), .int p0] : List Value).toArray below meth c H locs 0 0 Q (F0 m 39 ls [.int k0_39]) := by
    intro x2_39 x3_39 k0_39 H locs hP hD hS ls hl hf
    unfold f_X6_pagatPoints_39 at hf
    refine lv_istore (lv' := [(4, .int k0_39), (0, .ref (q 0)), (2, .int x2_39), (3, .int x3_39)]) hx hb dX6_pagatPoints_39 hl (by decide) rfl (fun ls hl => ?_)
    refine lv_aload_n hx hb dX6_pagatPoints_41 rfl (lv_at hl 1 rfl) ?_
    refine lv_iconst (v := 0) hx hb dX6_pagatPoints_42 (by decide) ?_
    obtain ⟨r1, h2, hf⟩ := tk_b1s hf
    refine tk_ci (ws' := (tk_H c3 q S)) (va_runV (As := [.int (0 : Int32)]) (rest := []) ⟨hx, hb, hml, hown, hts⟩ (c_X6_isAnnounced l G c3 q S (0 : Int32) r1 h2 H.size) (cwV 1 hts gX6_pagatPoints_X6_isAnnounced rfl rfl rfl hv_X6_isAnnounced ⟨Nat.le_of_ble_eq_true rfl, Nat.le_of_ble_eq_true rfl⟩) (tk_pV hE hP hD 0 rfl rfl) rfl rfl hl.1 rfl (lv_room (Nat.le_of_ble_eq_true rfl)) dX6_pagatPoints_43 ⟨Nat.zero_le _, Nat.zero_le _⟩) hD hS hA (fun H locs hP hD hS => ?_)
    refine lv_if_eq (tgt := 66) hx hb dX6_pagatPoints_46 (by decide) (fun h4 => ?_) (fun h4 => ?_)
    · have hf := tk_pos hf h4
      refine lv_iload_n hx hb dX6_pagatPoints_66 rfl (lv_at hl 2 rfl) ?_
      refine lv_iconst (v := -1) hx hb dX6_pagatPoints_67 (by decide) ?_
      refine lv_icmp_ne (tgt := 73) hx hb dX6_pagatPoints_68 (by decide) (fun h5 => ?_) (fun h5 => ?_)
      · have hf := tk_neg hf h5
        refine lv_iload_n hx hb dX6_pagatPoints_73 rfl (lv_at hl 3 rfl) ?_
        refine lv_iload hx hb dX6_pagatPoints_74 (lv_at hl 0 rfl) ?_
        refine lv_icmp_ne (tgt := 84) hx hb dX6_pagatPoints_76 (by decide) (fun h6 => ?_) (fun h6 => ?_)
        · have hf := tk_neg hf h6
          refine lv_bipush (v := -25) hx hb dX6_pagatPoints_84 (by decide) ?_
          exact tk_ri hQ (tk_s1 hf) rfl hx hb hr hlocks hP hD hS dX6_pagatPoints_86
        · have hf := tk_pos hf h6
          refine lv_bipush (v := 25) hx hb dX6_pagatPoints_79 (by decide) ?_
          refine lv_goto (tgt := 86) hx hb dX6_pagatPoints_81 (by decide) ?_
          exact tk_ri hQ (tk_s1 hf) rfl hx hb hr hlocks hP hD hS dX6_pagatPoints_86
      · have hf := tk_pos hf h5
        refine lv_iconst (v := 0) hx hb dX6_pagatPoints_71 (by decide) ?_
        exact tk_ri hQ (tk_s1 hf) rfl hx hb hr hlocks hP hD hS dX6_pagatPoints_72
    · have hf := tk_neg hf h4
      refine lv_iload_n hx hb dX6_pagatPoints_49 rfl (lv_at hl 3 rfl) ?_
      refine lv_if_eq (tgt := 63) hx hb dX6_pagatPoints_50 (by decide) (fun h7 => ?_) (fun h7 => ?_)
      · have hf := tk_pos hf h7
        refine lv_bipush (v := -50) hx hb dX6_pagatPoints_63 (by decide) ?_
        exact tk_ri hQ (tk_s1 hf) rfl hx hb hr hlocks hP hD hS dX6_pagatPoints_65
      · have hf := tk_neg hf h7
        refine lv_iload hx hb dX6_pagatPoints_53 (lv_at hl 0 rfl) ?_
        refine lv_if_eq (tgt := 63) hx hb dX6_pagatPoints_55 (by decide) (fun h8 => ?_) (fun h8 => ?_)
        · have hf := tk_pos hf h8
          refine lv_bipush (v := -50) hx hb dX6_pagatPoints_63 (by decide) ?_
          exact tk_ri hQ (tk_s1 hf) rfl hx hb hr hlocks hP hD hS dX6_pagatPoints_65
        · have hf := tk_neg hf h8
          refine lv_bipush (v := 50) hx hb dX6_pagatPoints_58 (by decide) ?_
          refine lv_goto (tgt := 65) hx hb dX6_pagatPoints_60 (by decide) ?_
          exact tk_ri hQ (tk_s1 hf) rfl hx hb hr hlocks hP hD hS dX6_pagatPoints_65
  have J_38 : ∀ (x2_38 : Int32) (x3_38 : Int32) (H : Heap) (locs : List Loc) (_ : va_P G vwCl (tk_H c3 q S) H) (_ : va_D A (tk_H c3 q S)) (_ : va_S A s.heap H locs) (ls : Array Slot) (_ : lv_has ls 5 [(0, .ref (q 0)), (2, .int x2_38), (3, .int x3_38)]) (_ : f_X6_pagatPoints_38 x2_38 x3_38 S = some r0), W p l e rm_X6_pagatPoints s m ([.ref (q 0), .int p0] : List Value).toArray below meth c H locs 0 0 Q (F0 m 38 ls []) := by
    intro x2_38 x3_38 H locs hP hD hS ls hl hf
    unfold f_X6_pagatPoints_38 at hf
    refine lv_iconst (v := 0) hx hb dX6_pagatPoints_38 (by decide) ?_
    exact J_39 x2_38 x3_38 (0 : Int32) H locs hP hD hS ls (lv_sub hl [0, 1, 2] rfl) hf
  have J_20 : ∀ (x2_20 : Int32) (k0_20 : Int32) (H : Heap) (locs : List Loc) (_ : va_P G vwCl (tk_H c3 q S) H) (_ : va_D A (tk_H c3 q S)) (_ : va_S A s.heap H locs) (ls : Array Slot) (_ : lv_has ls 5 [(0, .ref (q 0)), (2, .int x2_20)]) (_ : f_X6_pagatPoints_20 x2_20 k0_20 S = some r0), W p l e rm_X6_pagatPoints s m ([.ref (q 0), .int p0] : List Value).toArray below meth c H locs 0 0 Q (F0 m 20 ls [.int k0_20]) := by
    intro x2_20 k0_20 H locs hP hD hS ls hl hf
    unfold f_X6_pagatPoints_20 at hf
    refine lv_istore_n (lv' := [(3, .int k0_20), (0, .ref (q 0)), (2, .int x2_20)]) hx hb dX6_pagatPoints_20 rfl hl (by decide) rfl (fun ls hl => ?_)
    refine lv_iload_n hx hb dX6_pagatPoints_21 rfl (lv_at hl 2 rfl) ?_
    refine lv_iconst (v := -1) hx hb dX6_pagatPoints_22 (by decide) ?_
    refine lv_icmp_eq (tgt := 38) hx hb dX6_pagatPoints_23 (by decide) (fun h9 => ?_) (fun h9 => ?_)
    · have hf := tk_pos hf h9
      exact J_38 x2_20 k0_20 H locs hP hD hS ls (lv_sub hl [1, 2, 0] rfl) hf
    · have hf := tk_neg hf h9
      refine lv_aload_n hx hb dX6_pagatPoints_26 rfl (lv_at hl 1 rfl) ?_
      refine lv_iload_n hx hb dX6_pagatPoints_27 rfl (lv_at hl 2 rfl) ?_
      obtain ⟨r10, h11, hf⟩ := tk_b1s hf
      refine tk_ci (ws' := (tk_H c3 q S)) (va_runV (As := [.int x2_20]) (rest := []) ⟨hx, hb, hml, hown, hts⟩ (c_X6_sideOf l G c3 q S x2_20 r10 h11 H.size) (cwV 1 hts gX6_pagatPoints_X6_sideOf rfl rfl rfl hv_X6_sideOf ⟨Nat.le_of_ble_eq_true rfl, Nat.le_of_ble_eq_true rfl⟩) (tk_pV hE hP hD 0 rfl rfl) rfl rfl hl.1 rfl (lv_room (Nat.le_of_ble_eq_true rfl)) dX6_pagatPoints_28 ⟨Nat.zero_le _, Nat.zero_le _⟩) hD hS hA (fun H locs hP hD hS => ?_)
      refine lv_if_ne (tgt := 38) hx hb dX6_pagatPoints_31 (by decide) (fun h13 => ?_) (fun h13 => ?_)
      · have hf := tk_neg hf h13
        exact J_38 x2_20 k0_20 H locs hP hD hS ls (lv_sub hl [1, 2, 0] rfl) hf
      · have hf := tk_pos hf h13
        refine lv_iconst (v := 1) hx hb dX6_pagatPoints_34 (by decide) ?_
        refine lv_goto (tgt := 39) hx hb dX6_pagatPoints_35 (by decide) ?_
        exact J_39 x2_20 k0_20 (1 : Int32) H locs hP hD hS ls (lv_sub hl [1, 2, 0] rfl) hf
  unfold f_X6_pagatPoints at hf
  refine lv_aload_n hx hb dX6_pagatPoints_0 rfl (lv_at hl 0 rfl) ?_
  refine va_get (D := G) (ci := 6) (v := .ref (q 5)) (C := RX6) (T := TX6) (N := 18) hx hb hts i_X6_pagatPoints_X6 hown hE.1 hP 0 rfl rfl 2 (by decide) (hts _ m_X6_pagatPoints_f26) (fun _ h9 => h9) rfl dX6_pagatPoints_1 ?_
  refine lv_bipush (v := 32) hx hb dX6_pagatPoints_4 (by decide) ?_
  obtain ⟨r14, h15, hf⟩ := tk_b1s hf
  refine tk_ci (ws' := (tk_H c3 q S)) (va_runV (As := [.int (32 : Int32)]) (rest := []) ⟨hx, hb, hml, hown, hts⟩ (c_X5_playerOf l G c3 q S (32 : Int32) r14 h15 H.size) (cwV 1 hts gX6_pagatPoints_X5_playerOf rfl rfl rfl hv_X5_playerOf ⟨Nat.le_of_ble_eq_true rfl, Nat.le_of_ble_eq_true rfl⟩) (tk_pV hE hP hD 5 rfl rfl) rfl rfl hl.1 rfl (lv_room (Nat.le_of_ble_eq_true rfl)) dX6_pagatPoints_6 ⟨Nat.zero_le _, Nat.zero_le _⟩) hD hS hA (fun H locs hP hD hS => ?_)
  refine lv_istore_n (lv' := [(2, .int r14), (0, .ref (q 0)), (1, .int p0)]) hx hb dX6_pagatPoints_9 rfl hl (by decide) rfl (fun ls hl => ?_)
  refine lv_iload_n hx hb dX6_pagatPoints_10 rfl (lv_at hl 0 rfl) ?_
  refine lv_iload_n hx hb dX6_pagatPoints_11 rfl (lv_at hl 2 rfl) ?_
  refine lv_icmp_ne (tgt := 19) hx hb dX6_pagatPoints_12 (by decide) (fun h17 => ?_) (fun h17 => ?_)
  · have hf := tk_neg hf h17
    refine lv_iconst (v := 0) hx hb dX6_pagatPoints_19 (by decide) ?_
    exact J_20 r14 (0 : Int32) H locs hP hD hS ls (lv_sub hl [1, 0] rfl) hf
  · have hf := tk_pos hf h17
    refine lv_iconst (v := 1) hx hb dX6_pagatPoints_15 (by decide) ?_
    refine lv_goto (tgt := 20) hx hb dX6_pagatPoints_16 (by decide) ?_
    exact J_20 r14 (1 : Int32) H locs hP hD hS ls (lv_sub hl [1, 0] rfl) hf
abbrev rm_X6_kingPoints : Room := { frames := 2, cells := 0, slots := 0, locals := 43 }
set_option maxHeartbeats 4000000 in
set_option maxRecDepth 100000 in
theorem c_X6_kingPoints (l : Launch) (G : va_G) (c3 : ClassId × ClassId × ClassId) (q : Nat → Nat) (S : tk_ST) (p0 : Int32) (r0 : Int32) (hf : f_X6_kingPoints p0 S = some r0) : tk_Mi l yX6_kingPoints wsX6_kingPoints rm_X6_kingPoints G c3 [.ref (q 0), .int p0] (tk_H c3 q S) (tk_H c3 q S) r0 := by
  refine tk_ofi (cc := cX6_kingPoints) (maxL := 4) (ret := some .int) (by decide) rfl (Nat.le_of_ble_eq_true rfl) ?_
  intro p e s m below meth c A Q ls H locs hx hb hml hr hts hown hlocks hE hA hP hD hS hZ hQ hl
  have hl : lv_has ls 4 [(0, .ref (q 0)), (1, .int p0)] := hl
  have hown : s.vm.findClass RX6 = some m.cls := hown
  have J_46 : ∀ (x2_46 : Int32) (k0_46 : Int32) (H : Heap) (locs : List Loc) (_ : va_P G vwCl (tk_H c3 q S) H) (_ : va_D A (tk_H c3 q S)) (_ : va_S A s.heap H locs) (ls : Array Slot) (_ : lv_has ls 4 [(0, .ref (q 0)), (2, .int x2_46)]) (_ : f_X6_kingPoints_46 x2_46 k0_46 S = some r0), W p l e rm_X6_kingPoints s m ([.ref (q 0), .int p0] : List Value).toArray below meth c H locs 0 0 Q (F0 m 46 ls [.int k0_46]) := by
    intro x2_46 k0_46 H locs hP hD hS ls hl hf
    unfold f_X6_kingPoints_46 at hf
    refine lv_istore_n (lv' := [(3, .int k0_46), (0, .ref (q 0)), (2, .int x2_46)]) hx hb dX6_kingPoints_46 rfl hl (by decide) rfl (fun ls hl => ?_)
    refine lv_aload_n hx hb dX6_kingPoints_47 rfl (lv_at hl 1 rfl) ?_
    refine lv_iconst (v := 1) hx hb dX6_kingPoints_48 (by decide) ?_
    obtain ⟨r1, h2, hf⟩ := tk_b1s hf
    refine tk_ci (ws' := (tk_H c3 q S)) (va_runV (As := [.int (1 : Int32)]) (rest := []) ⟨hx, hb, hml, hown, hts⟩ (c_X6_isAnnounced l G c3 q S (1 : Int32) r1 h2 H.size) (cwV 1 hts gX6_kingPoints_X6_isAnnounced rfl rfl rfl hv_X6_isAnnounced ⟨Nat.le_of_ble_eq_true rfl, Nat.le_of_ble_eq_true rfl⟩) (tk_pV hE hP hD 0 rfl rfl) rfl rfl hl.1 rfl (lv_room (Nat.le_of_ble_eq_true rfl)) dX6_kingPoints_49 ⟨Nat.zero_le _, Nat.zero_le _⟩) hD hS hA (fun H locs hP hD hS => ?_)
    refine lv_if_eq (tgt := 67) hx hb dX6_kingPoints_52 (by decide) (fun h4 => ?_) (fun h4 => ?_)
    · have hf := tk_pos hf h4
      refine lv_iload_n hx hb dX6_kingPoints_67 rfl (lv_at hl 2 rfl) ?_
      refine lv_if_ne (tgt := 73) hx hb dX6_kingPoints_68 (by decide) (fun h5 => ?_) (fun h5 => ?_)
      · have hf := tk_neg hf h5
        refine lv_iload_n hx hb dX6_kingPoints_73 rfl (lv_at hl 0 rfl) ?_
        refine lv_if_eq (tgt := 82) hx hb dX6_kingPoints_74 (by decide) (fun h6 => ?_) (fun h6 => ?_)
        · have hf := tk_pos hf h6
          refine lv_bipush (v := -10) hx hb dX6_kingPoints_82 (by decide) ?_
          exact tk_ri hQ (tk_s1 hf) rfl hx hb hr hlocks hP hD hS dX6_kingPoints_84
        · have hf := tk_neg hf h6
          refine lv_bipush (v := 10) hx hb dX6_kingPoints_77 (by decide) ?_
          refine lv_goto (tgt := 84) hx hb dX6_kingPoints_79 (by decide) ?_
          exact tk_ri hQ (tk_s1 hf) rfl hx hb hr hlocks hP hD hS dX6_kingPoints_84
      · have hf := tk_pos hf h5
        refine lv_iconst (v := 0) hx hb dX6_kingPoints_71 (by decide) ?_
        exact tk_ri hQ (tk_s1 hf) rfl hx hb hr hlocks hP hD hS dX6_kingPoints_72
    · have hf := tk_neg hf h4
      refine lv_iload_n hx hb dX6_kingPoints_55 rfl (lv_at hl 0 rfl) ?_
      refine lv_if_eq (tgt := 64) hx hb dX6_kingPoints_56 (by decide) (fun h7 => ?_) (fun h7 => ?_)
      · have hf := tk_pos hf h7
        refine lv_bipush (v := -20) hx hb dX6_kingPoints_64 (by decide) ?_
        exact tk_ri hQ (tk_s1 hf) rfl hx hb hr hlocks hP hD hS dX6_kingPoints_66
      · have hf := tk_neg hf h7
        refine lv_bipush (v := 20) hx hb dX6_kingPoints_59 (by decide) ?_
        refine lv_goto (tgt := 66) hx hb dX6_kingPoints_61 (by decide) ?_
        exact tk_ri hQ (tk_s1 hf) rfl hx hb hr hlocks hP hD hS dX6_kingPoints_66
  have J_45 : ∀ (x2_45 : Int32) (H : Heap) (locs : List Loc) (_ : va_P G vwCl (tk_H c3 q S) H) (_ : va_D A (tk_H c3 q S)) (_ : va_S A s.heap H locs) (ls : Array Slot) (_ : lv_has ls 4 [(0, .ref (q 0)), (2, .int x2_45)]) (_ : f_X6_kingPoints_45 x2_45 S = some r0), W p l e rm_X6_kingPoints s m ([.ref (q 0), .int p0] : List Value).toArray below meth c H locs 0 0 Q (F0 m 45 ls []) := by
    intro x2_45 H locs hP hD hS ls hl hf
    unfold f_X6_kingPoints_45 at hf
    refine lv_iconst (v := 0) hx hb dX6_kingPoints_45 (by decide) ?_
    exact J_46 x2_45 (0 : Int32) H locs hP hD hS ls (lv_sub hl [0, 1] rfl) hf
  have J_28 : ∀ (x1_28 : Int32) (k0_28 : Int32) (H : Heap) (locs : List Loc) (_ : va_P G vwCl (tk_H c3 q S) H) (_ : va_D A (tk_H c3 q S)) (_ : va_S A s.heap H locs) (ls : Array Slot) (_ : lv_has ls 4 [(0, .ref (q 0)), (1, .int x1_28)]) (_ : f_X6_kingPoints_28 x1_28 k0_28 S = some r0), W p l e rm_X6_kingPoints s m ([.ref (q 0), .int p0] : List Value).toArray below meth c H locs 0 0 Q (F0 m 28 ls [.int k0_28]) := by
    intro x1_28 k0_28 H locs hP hD hS ls hl hf
    unfold f_X6_kingPoints_28 at hf
    refine lv_istore_n (lv' := [(2, .int k0_28), (0, .ref (q 0)), (1, .int x1_28)]) hx hb dX6_kingPoints_28 rfl hl (by decide) rfl (fun ls hl => ?_)
    refine lv_iload_n hx hb dX6_kingPoints_29 rfl (lv_at hl 0 rfl) ?_
    refine lv_if_eq (tgt := 45) hx hb dX6_kingPoints_30 (by decide) (fun h8 => ?_) (fun h8 => ?_)
    · have hf := tk_pos hf h8
      exact J_45 k0_28 H locs hP hD hS ls (lv_sub hl [1, 0] rfl) hf
    · have hf := tk_neg hf h8
      refine lv_aload_n hx hb dX6_kingPoints_33 rfl (lv_at hl 1 rfl) ?_
      refine lv_iload_n hx hb dX6_kingPoints_34 rfl (lv_at hl 2 rfl) ?_
      obtain ⟨r9, h10, hf⟩ := tk_b1s hf
      refine tk_ci (ws' := (tk_H c3 q S)) (va_runV (As := [.int x1_28]) (rest := []) ⟨hx, hb, hml, hown, hts⟩ (c_X6_sideOf l G c3 q S x1_28 r9 h10 H.size) (cwV 1 hts gX6_kingPoints_X6_sideOf rfl rfl rfl hv_X6_sideOf ⟨Nat.le_of_ble_eq_true rfl, Nat.le_of_ble_eq_true rfl⟩) (tk_pV hE hP hD 0 rfl rfl) rfl rfl hl.1 rfl (lv_room (Nat.le_of_ble_eq_true rfl)) dX6_kingPoints_35 ⟨Nat.zero_le _, Nat.zero_le _⟩) hD hS hA (fun H locs hP hD hS => ?_)
      refine lv_if_ne (tgt := 45) hx hb dX6_kingPoints_38 (by decide) (fun h12 => ?_) (fun h12 => ?_)
      · have hf := tk_neg hf h12
        exact J_45 k0_28 H locs hP hD hS ls (lv_sub hl [1, 0] rfl) hf
      · have hf := tk_pos hf h12
        refine lv_iconst (v := 1) hx hb dX6_kingPoints_41 (by decide) ?_
        refine lv_goto (tgt := 46) hx hb dX6_kingPoints_42 (by decide) ?_
        exact J_46 k0_28 (1 : Int32) H locs hP hD hS ls (lv_sub hl [1, 0] rfl) hf
  have J_27 : ∀ (x1_27 : Int32) (H : Heap) (locs : List Loc) (_ : va_P G vwCl (tk_H c3 q S) H) (_ : va_D A (tk_H c3 q S)) (_ : va_S A s.heap H locs) (ls : Array Slot) (_ : lv_has ls 4 [(0, .ref (q 0)), (1, .int x1_27)]) (_ : f_X6_kingPoints_27 x1_27 S = some r0), W p l e rm_X6_kingPoints s m ([.ref (q 0), .int p0] : List Value).toArray below meth c H locs 0 0 Q (F0 m 27 ls []) := by
    intro x1_27 H locs hP hD hS ls hl hf
    unfold f_X6_kingPoints_27 at hf
    refine lv_iconst (v := 0) hx hb dX6_kingPoints_27 (by decide) ?_
    exact J_28 x1_27 (0 : Int32) H locs hP hD hS ls (lv_sub hl [0, 1] rfl) hf
  unfold f_X6_kingPoints at hf
  refine lv_aload_n hx hb dX6_kingPoints_0 rfl (lv_at hl 0 rfl) ?_
  refine va_get (D := G) (ci := 6) (v := .int (S.1 4)) (C := RX6) (T := TX6) (N := 18) hx hb hts i_X6_kingPoints_X6 hown hE.1 hP 0 rfl rfl 10 (by decide) (hts _ m_X6_kingPoints_f62) (fun _ h9 => h9) rfl dX6_kingPoints_1 ?_
  refine lv_iconst (v := -1) hx hb dX6_kingPoints_4 (by decide) ?_
  refine lv_icmp_eq (tgt := 27) hx hb dX6_kingPoints_5 (by decide) (fun h13 => ?_) (fun h13 => ?_)
  · have hf := tk_pos hf h13
    exact J_27 p0 H locs hP hD hS ls (lv_sub hl [0, 1] rfl) hf
  · have hf := tk_neg hf h13
    refine lv_aload_n hx hb dX6_kingPoints_8 rfl (lv_at hl 0 rfl) ?_
    refine va_get (D := G) (ci := 6) (v := .ref (q 5)) (C := RX6) (T := TX6) (N := 18) hx hb hts i_X6_kingPoints_X6 hown hE.1 hP 0 rfl rfl 2 (by decide) (hts _ m_X6_kingPoints_f26) (fun _ h9 => h9) rfl dX6_kingPoints_9 ?_
    refine lv_aload_n hx hb dX6_kingPoints_12 rfl (lv_at hl 0 rfl) ?_
    obtain ⟨r14, h15, hf⟩ := tk_b1s hf
    refine tk_ci (ws' := (tk_H c3 q S)) (va_runV (As := []) (rest := [.ref (q 5)]) ⟨hx, hb, hml, hown, hts⟩ (c_X6_calledKing l G c3 q S r14 h15 H.size) (cwV 0 hts gX6_kingPoints_X6_calledKing rfl rfl rfl hv_X6_calledKing ⟨Nat.le_of_ble_eq_true rfl, Nat.le_of_ble_eq_true rfl⟩) (tk_pV hE hP hD 0 rfl rfl) rfl rfl hl.1 rfl (lv_room (Nat.le_of_ble_eq_true rfl)) dX6_kingPoints_13 ⟨Nat.zero_le _, Nat.zero_le _⟩) hD hS hA (fun H locs hP hD hS => ?_)
    obtain ⟨r17, h18, hf⟩ := tk_b1s hf
    refine tk_ci (ws' := (tk_H c3 q S)) (va_runV (As := [.int r14]) (rest := []) ⟨hx, hb, hml, hown, hts⟩ (c_X5_playerOf l G c3 q S r14 r17 h18 H.size) (cwV 1 hts gX6_kingPoints_X5_playerOf rfl rfl rfl hv_X5_playerOf ⟨Nat.le_of_ble_eq_true rfl, Nat.le_of_ble_eq_true rfl⟩) (tk_pV hE hP hD 5 rfl rfl) rfl rfl hl.1 rfl (lv_room (Nat.le_of_ble_eq_true rfl)) dX6_kingPoints_16 ⟨Nat.zero_le _, Nat.zero_le _⟩) hD hS hA (fun H locs hP hD hS => ?_)
    refine lv_iconst (v := -1) hx hb dX6_kingPoints_19 (by decide) ?_
    refine lv_icmp_eq (tgt := 27) hx hb dX6_kingPoints_20 (by decide) (fun h20 => ?_) (fun h20 => ?_)
    · have hf := tk_pos hf h20
      exact J_27 p0 H locs hP hD hS ls (lv_sub hl [0, 1] rfl) hf
    · have hf := tk_neg hf h20
      refine lv_iconst (v := 1) hx hb dX6_kingPoints_23 (by decide) ?_
      refine lv_goto (tgt := 28) hx hb dX6_kingPoints_24 (by decide) ?_
      exact J_28 p0 (1 : Int32) H locs hP hD hS ls (lv_sub hl [0, 1] rfl) hf
set_option maxHeartbeats 4000000 in
set_option maxRecDepth 100000 in
theorem c_X2_at_p11 (l : Launch) (G : va_G) (c3 : ClassId × ClassId × ClassId) (q : Nat → Nat) (S : tk_ST) (p0 : Int32) (r0 : Int32) (hf : f_X2_at_p11 p0 S = some r0) : tk_Mi l yX2_at wsX2_at rm_X2_at G c3 [.ref (q 11), .int p0] (tk_H c3 q S) (tk_H c3 q S) r0 := by
  refine tk_ofi (cc := cX2_at) (maxL := 2) (ret := some .int) (by decide) rfl (Nat.le_of_ble_eq_true rfl) ?_
  intro p e s m below meth c A Q ls H locs hx hb hml hr hts hown hlocks hE hA hP hD hS hZ hQ hl
  have hl : lv_has ls 2 [(0, .ref (q 11)), (1, .int p0)] := hl
  have hown : s.vm.findClass RX2 = some m.cls := hown
  unfold f_X2_at_p11 at hf
  refine lv_iload_n hx hb dX2_at_0 rfl (lv_at hl 1 rfl) ?_
  refine lv_if_lt (tgt := 22) hx hb dX2_at_1 (by decide) (fun h1 => ?_) (fun h1 => ?_)
  · have hf := tk_pos hf h1
    refine lv_iconst (v := -1) hx hb dX2_at_22 (by decide) ?_
    exact tk_ri hQ (tk_s1 hf) rfl hx hb hr hlocks hP hD hS dX2_at_23
  · have hf := tk_neg hf h1
    refine lv_iload_n hx hb dX2_at_4 rfl (lv_at hl 1 rfl) ?_
    refine lv_aload_n hx hb dX2_at_5 rfl (lv_at hl 0 rfl) ?_
    refine va_get (D := G) (ci := 2) (v := .ref (q 12)) (C := RX2) (T := TX2) (N := 1) hx hb hts i_X2_at_X2 hown hE.1 hP 11 rfl rfl 0 (by decide) (hts _ m_X2_at_f15) (fun _ h9 => h9) rfl dX2_at_6 ?_
    refine va_alen (v := 4) hx hb hE.1 hP 12 0 rfl rfl rfl dX2_at_9 ?_
    refine lv_icmp_ge (tgt := 22) hx hb dX2_at_10 (by decide) (fun h2 => ?_) (fun h2 => ?_)
    · have hf := tk_pos hf h2
      refine lv_iconst (v := -1) hx hb dX2_at_22 (by decide) ?_
      exact tk_ri hQ (tk_s1 hf) rfl hx hb hr hlocks hP hD hS dX2_at_23
    · have hf := tk_neg hf h2
      refine lv_aload_n hx hb dX2_at_13 rfl (lv_at hl 0 rfl) ?_
      refine va_get (D := G) (ci := 2) (v := .ref (q 12)) (C := RX2) (T := TX2) (N := 1) hx hb hts i_X2_at_X2 hown hE.1 hP 11 rfl rfl 0 (by decide) (hts _ m_X2_at_f15) (fun _ h9 => h9) rfl dX2_at_14 ?_
      refine lv_iload_n hx hb dX2_at_17 rfl (lv_at hl 1 rfl) ?_
      obtain ⟨h3, hf⟩ := tk_ok hf
      refine va_iald (f := (S.2.2.1 3)) hx hb hE.1 hP 12 0 rfl rfl h3 dX2_at_18 ?_
      refine lv_goto (tgt := 23) hx hb dX2_at_19 (by decide) ?_
      exact tk_ri hQ (tk_s1 hf) rfl hx hb hr hlocks hP hD hS dX2_at_23
set_option maxHeartbeats 4000000 in
set_option maxRecDepth 100000 in
theorem c_X2_put_p11 (l : Launch) (G : va_G) (c3 : ClassId × ClassId × ClassId) (q : Nat → Nat) (S : tk_ST) (p0 : Int32) (p1 : Int32) (S0 : tk_ST) (hf : f_X2_put_p11 p0 p1 S = some S0) : tk_Mv l yX2_put wsX2_put rm_X2_put G c3 [.ref (q 11), .int p0, .int p1] (tk_H c3 q S) (tk_H c3 q S0) := by
  refine tk_ofv (cc := cX2_put) (maxL := 3) (ret := none) (by decide) rfl (Nat.le_of_ble_eq_true rfl) ?_
  intro p e s m below meth c A Q ls H locs hx hb hml hr hts hown hlocks hE hA hP hD hS hZ hQ hl
  have hl : lv_has ls 3 [(0, .ref (q 11)), (1, .int p0), (2, .int p1)] := hl
  have hown : s.vm.findClass RX2 = some m.cls := hown
  unfold f_X2_put_p11 at hf
  refine lv_iload_n hx hb dX2_put_0 rfl (lv_at hl 1 rfl) ?_
  refine lv_if_lt (tgt := 20) hx hb dX2_put_1 (by decide) (fun h1 => ?_) (fun h1 => ?_)
  · have hf := tk_pos hf h1
    exact tk_rv hQ (congrArg (tk_H c3 q) (tk_s1 hf)) hx hb hr hlocks hP hD hS dX2_put_20
  · have hf := tk_neg hf h1
    refine lv_iload_n hx hb dX2_put_4 rfl (lv_at hl 1 rfl) ?_
    refine lv_aload_n hx hb dX2_put_5 rfl (lv_at hl 0 rfl) ?_
    refine va_get (D := G) (ci := 2) (v := .ref (q 12)) (C := RX2) (T := TX2) (N := 1) hx hb hts i_X2_put_X2 hown hE.1 hP 11 rfl rfl 0 (by decide) (hts _ m_X2_put_f15) (fun _ h9 => h9) rfl dX2_put_6 ?_
    refine va_alen (v := 4) hx hb hE.1 hP 12 0 rfl rfl rfl dX2_put_9 ?_
    refine lv_icmp_ge (tgt := 20) hx hb dX2_put_10 (by decide) (fun h2 => ?_) (fun h2 => ?_)
    · have hf := tk_pos hf h2
      exact tk_rv hQ (congrArg (tk_H c3 q) (tk_s1 hf)) hx hb hr hlocks hP hD hS dX2_put_20
    · have hf := tk_neg hf h2
      refine lv_aload_n hx hb dX2_put_13 rfl (lv_at hl 0 rfl) ?_
      refine va_get (D := G) (ci := 2) (v := .ref (q 12)) (C := RX2) (T := TX2) (N := 1) hx hb hts i_X2_put_X2 hown hE.1 hP 11 rfl rfl 0 (by decide) (hts _ m_X2_put_f15) (fun _ h9 => h9) rfl dX2_put_14 ?_
      refine lv_iload_n hx hb dX2_put_17 rfl (lv_at hl 1 rfl) ?_
      refine lv_iload_n hx hb dX2_put_18 rfl (lv_at hl 2 rfl) ?_
      obtain ⟨h3, hf⟩ := tk_ok hf
      refine va_iast (f := (S.2.2.1 3)) hx hb hE.1 hP hD hS 12 0 rfl rfl h3 dX2_put_19 (fun H locs hP hD hS => ?_)
      have hP : va_P G vwCl (tk_H c3 q (tk_A S 3 (upd (S.2.2.1 3) p0.toNatClampNeg p1))) H := hP
      have hD : va_D A (tk_H c3 q (tk_A S 3 (upd (S.2.2.1 3) p0.toNatClampNeg p1))) := hD
      obtain ⟨S4, eS4⟩ : ∃ z : tk_ST, z = (tk_A S 3 (upd (S.2.2.1 3) p0.toNatClampNeg p1)) := ⟨_, rfl⟩
      rw [← eS4] at hP hD
      have hf := tk_nm hf eS4
      exact tk_rv hQ (congrArg (tk_H c3 q) (tk_s1 hf)) hx hb hr hlocks hP hD hS dX2_put_20
set_option maxHeartbeats 4000000 in
set_option maxRecDepth 100000 in
theorem c_X2_at_p9 (l : Launch) (G : va_G) (c3 : ClassId × ClassId × ClassId) (q : Nat → Nat) (S : tk_ST) (p0 : Int32) (r0 : Int32) (hf : f_X2_at_p9 p0 S = some r0) : tk_Mi l yX2_at wsX2_at rm_X2_at G c3 [.ref (q 9), .int p0] (tk_H c3 q S) (tk_H c3 q S) r0 := by
  refine tk_ofi (cc := cX2_at) (maxL := 2) (ret := some .int) (by decide) rfl (Nat.le_of_ble_eq_true rfl) ?_
  intro p e s m below meth c A Q ls H locs hx hb hml hr hts hown hlocks hE hA hP hD hS hZ hQ hl
  have hl : lv_has ls 2 [(0, .ref (q 9)), (1, .int p0)] := hl
  have hown : s.vm.findClass RX2 = some m.cls := hown
  unfold f_X2_at_p9 at hf
  refine lv_iload_n hx hb dX2_at_0 rfl (lv_at hl 1 rfl) ?_
  refine lv_if_lt (tgt := 22) hx hb dX2_at_1 (by decide) (fun h1 => ?_) (fun h1 => ?_)
  · have hf := tk_pos hf h1
    refine lv_iconst (v := -1) hx hb dX2_at_22 (by decide) ?_
    exact tk_ri hQ (tk_s1 hf) rfl hx hb hr hlocks hP hD hS dX2_at_23
  · have hf := tk_neg hf h1
    refine lv_iload_n hx hb dX2_at_4 rfl (lv_at hl 1 rfl) ?_
    refine lv_aload_n hx hb dX2_at_5 rfl (lv_at hl 0 rfl) ?_
    refine va_get (D := G) (ci := 2) (v := .ref (q 10)) (C := RX2) (T := TX2) (N := 1) hx hb hts i_X2_at_X2 hown hE.1 hP 9 rfl rfl 0 (by decide) (hts _ m_X2_at_f15) (fun _ h9 => h9) rfl dX2_at_6 ?_
    refine va_alen (v := 4) hx hb hE.1 hP 10 0 rfl rfl rfl dX2_at_9 ?_
    refine lv_icmp_ge (tgt := 22) hx hb dX2_at_10 (by decide) (fun h2 => ?_) (fun h2 => ?_)
    · have hf := tk_pos hf h2
      refine lv_iconst (v := -1) hx hb dX2_at_22 (by decide) ?_
      exact tk_ri hQ (tk_s1 hf) rfl hx hb hr hlocks hP hD hS dX2_at_23
    · have hf := tk_neg hf h2
      refine lv_aload_n hx hb dX2_at_13 rfl (lv_at hl 0 rfl) ?_
      refine va_get (D := G) (ci := 2) (v := .ref (q 10)) (C := RX2) (T := TX2) (N := 1) hx hb hts i_X2_at_X2 hown hE.1 hP 9 rfl rfl 0 (by decide) (hts _ m_X2_at_f15) (fun _ h9 => h9) rfl dX2_at_14 ?_
      refine lv_iload_n hx hb dX2_at_17 rfl (lv_at hl 1 rfl) ?_
      obtain ⟨h3, hf⟩ := tk_ok hf
      refine va_iald (f := (S.2.2.1 2)) hx hb hE.1 hP 10 0 rfl rfl h3 dX2_at_18 ?_
      refine lv_goto (tgt := 23) hx hb dX2_at_19 (by decide) ?_
      exact tk_ri hQ (tk_s1 hf) rfl hx hb hr hlocks hP hD hS dX2_at_23
set_option maxHeartbeats 4000000 in
set_option maxRecDepth 100000 in
theorem c_X2_put_p9 (l : Launch) (G : va_G) (c3 : ClassId × ClassId × ClassId) (q : Nat → Nat) (S : tk_ST) (p0 : Int32) (p1 : Int32) (S0 : tk_ST) (hf : f_X2_put_p9 p0 p1 S = some S0) : tk_Mv l yX2_put wsX2_put rm_X2_put G c3 [.ref (q 9), .int p0, .int p1] (tk_H c3 q S) (tk_H c3 q S0) := by
  refine tk_ofv (cc := cX2_put) (maxL := 3) (ret := none) (by decide) rfl (Nat.le_of_ble_eq_true rfl) ?_
  intro p e s m below meth c A Q ls H locs hx hb hml hr hts hown hlocks hE hA hP hD hS hZ hQ hl
  have hl : lv_has ls 3 [(0, .ref (q 9)), (1, .int p0), (2, .int p1)] := hl
  have hown : s.vm.findClass RX2 = some m.cls := hown
  unfold f_X2_put_p9 at hf
  refine lv_iload_n hx hb dX2_put_0 rfl (lv_at hl 1 rfl) ?_
  refine lv_if_lt (tgt := 20) hx hb dX2_put_1 (by decide) (fun h1 => ?_) (fun h1 => ?_)
  · have hf := tk_pos hf h1
    exact tk_rv hQ (congrArg (tk_H c3 q) (tk_s1 hf)) hx hb hr hlocks hP hD hS dX2_put_20
  · have hf := tk_neg hf h1
    refine lv_iload_n hx hb dX2_put_4 rfl (lv_at hl 1 rfl) ?_
    refine lv_aload_n hx hb dX2_put_5 rfl (lv_at hl 0 rfl) ?_
    refine va_get (D := G) (ci := 2) (v := .ref (q 10)) (C := RX2) (T := TX2) (N := 1) hx hb hts i_X2_put_X2 hown hE.1 hP 9 rfl rfl 0 (by decide) (hts _ m_X2_put_f15) (fun _ h9 => h9) rfl dX2_put_6 ?_
    refine va_alen (v := 4) hx hb hE.1 hP 10 0 rfl rfl rfl dX2_put_9 ?_
    refine lv_icmp_ge (tgt := 20) hx hb dX2_put_10 (by decide) (fun h2 => ?_) (fun h2 => ?_)
    · have hf := tk_pos hf h2
      exact tk_rv hQ (congrArg (tk_H c3 q) (tk_s1 hf)) hx hb hr hlocks hP hD hS dX2_put_20
    · have hf := tk_neg hf h2
      refine lv_aload_n hx hb dX2_put_13 rfl (lv_at hl 0 rfl) ?_
      refine va_get (D := G) (ci := 2) (v := .ref (q 10)) (C := RX2) (T := TX2) (N := 1) hx hb hts i_X2_put_X2 hown hE.1 hP 9 rfl rfl 0 (by decide) (hts _ m_X2_put_f15) (fun _ h9 => h9) rfl dX2_put_14 ?_
      refine lv_iload_n hx hb dX2_put_17 rfl (lv_at hl 1 rfl) ?_
      refine lv_iload_n hx hb dX2_put_18 rfl (lv_at hl 2 rfl) ?_
      obtain ⟨h3, hf⟩ := tk_ok hf
      refine va_iast (f := (S.2.2.1 2)) hx hb hE.1 hP hD hS 10 0 rfl rfl h3 dX2_put_19 (fun H locs hP hD hS => ?_)
      have hP : va_P G vwCl (tk_H c3 q (tk_A S 2 (upd (S.2.2.1 2) p0.toNatClampNeg p1))) H := hP
      have hD : va_D A (tk_H c3 q (tk_A S 2 (upd (S.2.2.1 2) p0.toNatClampNeg p1))) := hD
      obtain ⟨S4, eS4⟩ : ∃ z : tk_ST, z = (tk_A S 2 (upd (S.2.2.1 2) p0.toNatClampNeg p1)) := ⟨_, rfl⟩
      rw [← eS4] at hP hD
      have hf := tk_nm hf eS4
      exact tk_rv hQ (congrArg (tk_H c3 q) (tk_s1 hf)) hx hb hr hlocks hP hD hS dX2_put_20
abbrev rm_X4_addScore : Room := { frames := 1, cells := 0, slots := 0, locals := 22 }
set_option maxHeartbeats 4000000 in
set_option maxRecDepth 100000 in
theorem c_X4_addScore (l : Launch) (G : va_G) (c3 : ClassId × ClassId × ClassId) (q : Nat → Nat) (S : tk_ST) (p0 : Int32) (S0 : tk_ST) (hf : f_X4_addScore p0 S = some S0) : tk_Mv l yX4_addScore wsX4_addScore rm_X4_addScore G c3 [.ref (q 8), .int p0] (tk_H c3 q S) (tk_H c3 q S0) := by
  refine tk_ofv (cc := cX4_addScore) (maxL := 2) (ret := none) (by decide) rfl (Nat.le_of_ble_eq_true rfl) ?_
  intro p e s m below meth c A Q ls H locs hx hb hml hr hts hown hlocks hE hA hP hD hS hZ hQ hl
  have hl : lv_has ls 2 [(0, .ref (q 8)), (1, .int p0)] := hl
  have hown : s.vm.findClass RX4 = some m.cls := hown
  unfold f_X4_addScore at hf
  refine lv_aload_n hx hb dX4_addScore_0 rfl (lv_at hl 0 rfl) ?_
  refine va_get (D := G) (ci := 4) (v := .ref (q 9)) (C := RX4) (T := TX4) (N := 3) hx hb hts i_X4_addScore_X4 hown hE.1 hP 8 rfl rfl 0 (by decide) (hts _ m_X4_addScore_f14) (fun _ h9 => h9) rfl dX4_addScore_1 ?_
  refine lv_iload_n hx hb dX4_addScore_4 rfl (lv_at hl 1 rfl) ?_
  refine lv_aload_n hx hb dX4_addScore_5 rfl (lv_at hl 0 rfl) ?_
  refine va_get (D := G) (ci := 4) (v := .ref (q 9)) (C := RX4) (T := TX4) (N := 3) hx hb hts i_X4_addScore_X4 hown hE.1 hP 8 rfl rfl 0 (by decide) (hts _ m_X4_addScore_f14) (fun _ h9 => h9) rfl dX4_addScore_6 ?_
  refine lv_iload_n hx hb dX4_addScore_9 rfl (lv_at hl 1 rfl) ?_
  obtain ⟨r1, h2, hf⟩ := tk_b1s hf
  refine tk_ci (ws' := (tk_H c3 q S)) (va_runV (As := [.int p0]) (rest := [.int p0, .ref (q 9)]) ⟨hx, hb, hml, hown, hts⟩ (c_X2_at_p9 l G c3 q S p0 r1 h2 H.size) (cwV 1 hts gX4_addScore_X2_at rfl rfl rfl hv_X2_at ⟨Nat.le_of_ble_eq_true rfl, Nat.le_of_ble_eq_true rfl⟩) (tk_pV hE hP hD 9 rfl rfl) rfl rfl hl.1 rfl (lv_room (Nat.le_of_ble_eq_true rfl)) dX4_addScore_10 ⟨Nat.zero_le _, Nat.zero_le _⟩) hD hS hA (fun H locs hP hD hS => ?_)
  refine lv_aload_n hx hb dX4_addScore_13 rfl (lv_at hl 0 rfl) ?_
  refine va_get (D := G) (ci := 4) (v := .int (S.1 15)) (C := RX4) (T := TX4) (N := 3) hx hb hts i_X4_addScore_X4 hown hE.1 hP 8 rfl rfl 2 (by decide) (hts _ m_X4_addScore_f27) (fun _ h9 => h9) rfl dX4_addScore_14 ?_
  refine lv_iadd hx hb dX4_addScore_17 ?_
  obtain ⟨S6, h5, hf⟩ := tk_b1s hf
  refine tk_cv (ws' := (tk_H c3 q S6)) (va_runV (As := [.int p0, .int (r1 + (S.1 15))]) (rest := []) ⟨hx, hb, hml, hown, hts⟩ (c_X2_put_p9 l G c3 q S p0 (r1 + (S.1 15)) S6 h5 H.size) (cwV 2 hts gX4_addScore_X2_put rfl rfl rfl hv_X2_put ⟨Nat.le_of_ble_eq_true rfl, Nat.le_of_ble_eq_true rfl⟩) (tk_pV hE hP hD 9 rfl rfl) rfl rfl hl.1 rfl (lv_room (Nat.le_of_ble_eq_true rfl)) dX4_addScore_18 ⟨Nat.zero_le _, Nat.zero_le _⟩) hD hS hA (fun H locs hP hD hS => ?_)
  exact tk_rv hQ (congrArg (tk_H c3 q) (tk_s1 hf)) hx hb hr hlocks hP hD hS dX4_addScore_21
abbrev rm_X4_enter : Room := { frames := 2, cells := 0, slots := 0, locals := 43 }
set_option maxHeartbeats 4000000 in
set_option maxRecDepth 100000 in
theorem c_X4_enter (l : Launch) (G : va_G) (c3 : ClassId × ClassId × ClassId) (q : Nat → Nat) (S : tk_ST) (p0 : Int32) (p1 : Int32) (p2 : Int32) (p3 : Int32) (S0 : tk_ST) (hf : f_X4_enter p0 p1 p2 p3 S = some S0) : tk_Mv l yX4_enter wsX4_enter rm_X4_enter G c3 [.ref (q 8), .int p0, .int p1, .int p2, .int p3] (tk_H c3 q S) (tk_H c3 q S0) := by
  refine tk_ofv (cc := cX4_enter) (maxL := 6) (ret := none) (by decide) rfl (Nat.le_of_ble_eq_true rfl) ?_
  intro p e s m below meth c A Q ls H locs hx hb hml hr hts hown hlocks hE hA hP hD hS hZ hQ hl
  have hl : lv_has ls 6 [(0, .ref (q 8)), (1, .int p0), (2, .int p1), (3, .int p2), (4, .int p3)] := hl
  have hown : s.vm.findClass RX4 = some m.cls := hown
  have J_62 : ∀ (x1_62 : Int32) (x2_62 : Int32) (S_62 : tk_ST) (H : Heap) (locs : List Loc) (_ : va_P G vwCl (tk_H c3 q S_62) H) (_ : va_D A (tk_H c3 q S_62)) (_ : va_S A s.heap H locs) (ls : Array Slot) (_ : lv_has ls 6 [(0, .ref (q 8)), (1, .int x1_62), (2, .int x2_62)]) (_ : f_X4_enter_62 x1_62 x2_62 S_62 = some S0), W p l e rm_X4_enter s m ([.ref (q 8), .int p0, .int p1, .int p2, .int p3] : List Value).toArray below meth c H locs 0 0 Q (F0 m 62 ls []) := by
    intro x1_62 x2_62 S_62 H locs hP hD hS ls hl hf
    unfold f_X4_enter_62 at hf
    refine lv_aload_n hx hb dX4_enter_62 rfl (lv_at hl 0 rfl) ?_
    refine lv_iload_n hx hb dX4_enter_63 rfl (lv_at hl 1 rfl) ?_
    obtain ⟨S3, h2, hf⟩ := tk_b1s hf
    refine tk_cv (ws' := (tk_H c3 q S3)) (va_runV (As := [.int x1_62]) (rest := []) ⟨hx, hb, hml, hown, hts⟩ (c_X4_addScore l G c3 q S_62 x1_62 S3 h2 H.size) (cwV 1 hts gX4_enter_X4_addScore rfl rfl rfl hv_X4_addScore ⟨Nat.le_of_ble_eq_true rfl, Nat.le_of_ble_eq_true rfl⟩) (tk_pV hE hP hD 8 rfl rfl) rfl rfl hl.1 rfl (lv_room (Nat.le_of_ble_eq_true rfl)) dX4_enter_64 ⟨Nat.zero_le _, Nat.zero_le _⟩) hD hS hA (fun H locs hP hD hS => ?_)
    refine lv_iload_n hx hb dX4_enter_67 rfl (lv_at hl 2 rfl) ?_
    refine lv_iconst (v := -1) hx hb dX4_enter_68 (by decide) ?_
    refine lv_icmp_eq (tgt := 77) hx hb dX4_enter_69 (by decide) (fun h4 => ?_) (fun h4 => ?_)
    · have hf := tk_pos hf h4
      exact tk_rv hQ (congrArg (tk_H c3 q) (tk_s1 hf)) hx hb hr hlocks hP hD hS dX4_enter_77
    · have hf := tk_neg hf h4
      refine lv_aload_n hx hb dX4_enter_72 rfl (lv_at hl 0 rfl) ?_
      refine lv_iload_n hx hb dX4_enter_73 rfl (lv_at hl 2 rfl) ?_
      obtain ⟨S7, h6, hf⟩ := tk_b1s hf
      refine tk_cv (ws' := (tk_H c3 q S7)) (va_runV (As := [.int x2_62]) (rest := []) ⟨hx, hb, hml, hown, hts⟩ (c_X4_addScore l G c3 q S3 x2_62 S7 h6 H.size) (cwV 1 hts gX4_enter_X4_addScore rfl rfl rfl hv_X4_addScore ⟨Nat.le_of_ble_eq_true rfl, Nat.le_of_ble_eq_true rfl⟩) (tk_pV hE hP hD 8 rfl rfl) rfl rfl hl.1 rfl (lv_room (Nat.le_of_ble_eq_true rfl)) dX4_enter_74 ⟨Nat.zero_le _, Nat.zero_le _⟩) hD hS hA (fun H locs hP hD hS => ?_)
      exact tk_rv hQ (congrArg (tk_H c3 q) (tk_s1 hf)) hx hb hr hlocks hP hD hS dX4_enter_77
  have J_31 : ∀ (x1_31 : Int32) (x2_31 : Int32) (x4_31 : Int32) (x5_31 : Int32) (k1_31 : Int32) (S_31 : tk_ST) (H : Heap) (locs : List Loc) (_ : va_P G vwCl (tk_H c3 q S_31) H) (_ : va_D A (tk_H c3 q S_31)) (_ : va_S A s.heap H locs) (ls : Array Slot) (_ : lv_has ls 6 [(0, .ref (q 8)), (1, .int x1_31), (2, .int x2_31), (4, .int x4_31), (5, .int x5_31)]) (_ : f_X4_enter_31 x1_31 x2_31 x4_31 x5_31 k1_31 S_31 = some S0), W p l e rm_X4_enter s m ([.ref (q 8), .int p0, .int p1, .int p2, .int p3] : List Value).toArray below meth c H locs 0 0 Q (F0 m 31 ls [.int k1_31, .ref (q 8)]) := by
    intro x1_31 x2_31 x4_31 x5_31 k1_31 S_31 H locs hP hD hS ls hl hf
    unfold f_X4_enter_31 at hf
    refine va_put (D := G) (ci := 4) (v := .int k1_31) (ty := .int) (C := RX4) (T := TX4) (N := 3) hx hb hts i_X4_enter_X4 tyX4 tyX4_ok nmX4 hown hE.1 hP hD hS 8 rfl rfl 2 (by decide) (hts _ m_X4_enter_f27) (fun _ h9 => h9) rfl (by decide +kernel) rfl rfl (Nat.le_of_ble_eq_true rfl) dX4_enter_31 (fun H locs hP hD hS => ?_)
    have hP : va_P G vwCl (tk_H c3 q (tk_I S_31 15 k1_31)) H := hP
    have hD : va_D A (tk_H c3 q (tk_I S_31 15 k1_31)) := hD
    refine lv_iload hx hb dX4_enter_34 (lv_at hl 4 rfl) ?_
    refine lv_if_eq (tgt := 62) hx hb dX4_enter_36 (by decide) (fun h8 => ?_) (fun h8 => ?_)
    · have hf := tk_pos hf h8
      exact J_62 x1_31 x2_31 (tk_I S_31 15 k1_31) H locs hP hD hS ls (lv_sub hl [0, 1, 2] rfl) hf
    · have hf := tk_neg hf h8
      refine lv_iload hx hb dX4_enter_39 (lv_at hl 3 rfl) ?_
      refine lv_if_eq (tgt := 62) hx hb dX4_enter_41 (by decide) (fun h9 => ?_) (fun h9 => ?_)
      · have hf := tk_pos hf h9
        exact J_62 x1_31 x2_31 (tk_I S_31 15 k1_31) H locs hP hD hS ls (lv_sub hl [0, 1, 2] rfl) hf
      · have hf := tk_neg hf h9
        refine lv_aload_n hx hb dX4_enter_44 rfl (lv_at hl 0 rfl) ?_
        refine va_get (D := G) (ci := 4) (v := .ref (q 11)) (C := RX4) (T := TX4) (N := 3) hx hb hts i_X4_enter_X4 hown hE.1 hP 8 rfl rfl 1 (by decide) (hts _ m_X4_enter_f20) (fun _ h9 => h9) rfl dX4_enter_45 ?_
        refine lv_iload_n hx hb dX4_enter_48 rfl (lv_at hl 1 rfl) ?_
        refine lv_aload_n hx hb dX4_enter_49 rfl (lv_at hl 0 rfl) ?_
        refine va_get (D := G) (ci := 4) (v := .ref (q 11)) (C := RX4) (T := TX4) (N := 3) hx hb hts i_X4_enter_X4 hown hE.1 hP 8 rfl rfl 1 (by decide) (hts _ m_X4_enter_f20) (fun _ h9 => h9) rfl dX4_enter_50 ?_
        refine lv_iload_n hx hb dX4_enter_53 rfl (lv_at hl 1 rfl) ?_
        obtain ⟨r10, h11, hf⟩ := tk_b1s hf
        refine tk_ci (ws' := (tk_H c3 q (tk_I S_31 15 k1_31))) (va_runV (As := [.int x1_31]) (rest := [.int x1_31, .ref (q 11)]) ⟨hx, hb, hml, hown, hts⟩ (c_X2_at_p11 l G c3 q (tk_I S_31 15 k1_31) x1_31 r10 h11 H.size) (cwV 1 hts gX4_enter_X2_at rfl rfl rfl hv_X2_at ⟨Nat.le_of_ble_eq_true rfl, Nat.le_of_ble_eq_true rfl⟩) (tk_pV hE hP hD 11 rfl rfl) rfl rfl hl.1 rfl (lv_room (Nat.le_of_ble_eq_true rfl)) dX4_enter_54 ⟨Nat.zero_le _, Nat.zero_le _⟩) hD hS hA (fun H locs hP hD hS => ?_)
        refine lv_iconst (v := 1) hx hb dX4_enter_57 (by decide) ?_
        refine lv_isub hx hb dX4_enter_58 ?_
        obtain ⟨S15, h14, hf⟩ := tk_b1s hf
        refine tk_cv (ws' := (tk_H c3 q S15)) (va_runV (As := [.int x1_31, .int (r10 - (1 : Int32))]) (rest := []) ⟨hx, hb, hml, hown, hts⟩ (c_X2_put_p11 l G c3 q (tk_I S_31 15 k1_31) x1_31 (r10 - (1 : Int32)) S15 h14 H.size) (cwV 2 hts gX4_enter_X2_put rfl rfl rfl hv_X2_put ⟨Nat.le_of_ble_eq_true rfl, Nat.le_of_ble_eq_true rfl⟩) (tk_pV hE hP hD 11 rfl rfl) rfl rfl hl.1 rfl (lv_room (Nat.le_of_ble_eq_true rfl)) dX4_enter_59 ⟨Nat.zero_le _, Nat.zero_le _⟩) hD hS hA (fun H locs hP hD hS => ?_)
        exact J_62 x1_31 x2_31 S15 H locs hP hD hS ls (lv_sub hl [0, 1, 2] rfl) hf
  have J_16 : ∀ (x1_16 : Int32) (x2_16 : Int32) (x3_16 : Int32) (x4_16 : Int32) (k0_16 : Int32) (S_16 : tk_ST) (H : Heap) (locs : List Loc) (_ : va_P G vwCl (tk_H c3 q S_16) H) (_ : va_D A (tk_H c3 q S_16)) (_ : va_S A s.heap H locs) (ls : Array Slot) (_ : lv_has ls 6 [(0, .ref (q 8)), (1, .int x1_16), (2, .int x2_16), (3, .int x3_16), (4, .int x4_16)]) (_ : f_X4_enter_16 x1_16 x2_16 x3_16 x4_16 k0_16 S_16 = some S0), W p l e rm_X4_enter s m ([.ref (q 8), .int p0, .int p1, .int p2, .int p3] : List Value).toArray below meth c H locs 0 0 Q (F0 m 16 ls [.int k0_16]) := by
    intro x1_16 x2_16 x3_16 x4_16 k0_16 S_16 H locs hP hD hS ls hl hf
    unfold f_X4_enter_16 at hf
    refine lv_istore (lv' := [(5, .int k0_16), (0, .ref (q 8)), (1, .int x1_16), (2, .int x2_16), (3, .int x3_16), (4, .int x4_16)]) hx hb dX4_enter_16 hl (by decide) rfl (fun ls hl => ?_)
    refine lv_aload_n hx hb dX4_enter_18 rfl (lv_at hl 1 rfl) ?_
    refine lv_iload hx hb dX4_enter_19 (lv_at hl 0 rfl) ?_
    refine lv_if_eq (tgt := 30) hx hb dX4_enter_21 (by decide) (fun h16 => ?_) (fun h16 => ?_)
    · have hf := tk_pos hf h16
      refine lv_iload_n hx hb dX4_enter_30 rfl (lv_at hl 4 rfl) ?_
      exact J_31 x1_16 x2_16 x4_16 k0_16 x3_16 S_16 H locs hP hD hS ls (lv_sub hl [1, 2, 3, 5, 0] rfl) hf
    · have hf := tk_neg hf h16
      refine lv_iconst (v := 2) hx hb dX4_enter_24 (by decide) ?_
      refine lv_iload_n hx hb dX4_enter_25 rfl (lv_at hl 4 rfl) ?_
      refine lv_imul hx hb dX4_enter_26 ?_
      refine lv_goto (tgt := 31) hx hb dX4_enter_27 (by decide) ?_
      exact J_31 x1_16 x2_16 x4_16 k0_16 ((2 : Int32) * x3_16) S_16 H locs hP hD hS ls (lv_sub hl [1, 2, 3, 5, 0] rfl) hf
  unfold f_X4_enter at hf
  refine lv_aload_n hx hb dX4_enter_0 rfl (lv_at hl 0 rfl) ?_
  refine va_get (D := G) (ci := 4) (v := .ref (q 11)) (C := RX4) (T := TX4) (N := 3) hx hb hts i_X4_enter_X4 hown hE.1 hP 8 rfl rfl 1 (by decide) (hts _ m_X4_enter_f20) (fun _ h9 => h9) rfl dX4_enter_1 ?_
  refine lv_iload_n hx hb dX4_enter_4 rfl (lv_at hl 1 rfl) ?_
  obtain ⟨r17, h18, hf⟩ := tk_b1s hf
  refine tk_ci (ws' := (tk_H c3 q S)) (va_runV (As := [.int p0]) (rest := []) ⟨hx, hb, hml, hown, hts⟩ (c_X2_at_p11 l G c3 q S p0 r17 h18 H.size) (cwV 1 hts gX4_enter_X2_at rfl rfl rfl hv_X2_at ⟨Nat.le_of_ble_eq_true rfl, Nat.le_of_ble_eq_true rfl⟩) (tk_pV hE hP hD 11 rfl rfl) rfl rfl hl.1 rfl (lv_room (Nat.le_of_ble_eq_true rfl)) dX4_enter_5 ⟨Nat.zero_le _, Nat.zero_le _⟩) hD hS hA (fun H locs hP hD hS => ?_)
  refine lv_if_le (tgt := 15) hx hb dX4_enter_8 (by decide) (fun h20 => ?_) (fun h20 => ?_)
  · have hf := tk_pos hf h20
    refine lv_iconst (v := 0) hx hb dX4_enter_15 (by decide) ?_
    exact J_16 p0 p1 p2 p3 (0 : Int32) S H locs hP hD hS ls (lv_sub hl [0, 1, 2, 3, 4] rfl) hf
  · have hf := tk_neg hf h20
    refine lv_iconst (v := 1) hx hb dX4_enter_11 (by decide) ?_
    refine lv_goto (tgt := 16) hx hb dX4_enter_12 (by decide) ?_
    exact J_16 p0 p1 p2 p3 (1 : Int32) S H locs hP hD hS ls (lv_sub hl [0, 1, 2, 3, 4] rfl) hf
abbrev rm_X4_giveRadli : Room := { frames := 1, cells := 0, slots := 0, locals := 22 }
set_option maxHeartbeats 4000000 in
set_option maxRecDepth 100000 in
theorem c_X4_giveRadli (l : Launch) (G : va_G) (c3 : ClassId × ClassId × ClassId) (q : Nat → Nat) (S : tk_ST) (S0 : tk_ST) (hf : f_X4_giveRadli S = some S0) : tk_Mv l yX4_giveRadli wsX4_giveRadli rm_X4_giveRadli G c3 [.ref (q 8)] (tk_H c3 q S) (tk_H c3 q S0) := by
  refine tk_ofv (cc := cX4_giveRadli) (maxL := 2) (ret := none) (by decide) rfl (Nat.le_of_ble_eq_true rfl) ?_
  intro p e s m below meth c A Q ls H locs hx hb hml hr hts hown hlocks hE hA hP hD hS hZ hQ hl
  have hl : lv_has ls 2 [(0, .ref (q 8))] := hl
  have hown : s.vm.findClass RX4 = some m.cls := hown
  have J_2 : ∀ (n_2 : Nat), ∀ (x1_2 : Int32) (S_2 : tk_ST) (H : Heap) (locs : List Loc) (_ : va_P G vwCl (tk_H c3 q S_2) H) (_ : va_D A (tk_H c3 q S_2)) (_ : va_S A s.heap H locs) (ls : Array Slot) (_ : lv_has ls 2 [(0, .ref (q 8)), (1, .int x1_2)]) (_ : f_X4_giveRadli_2 n_2 x1_2 S_2 = some S0), W p l e rm_X4_giveRadli s m ([.ref (q 8)] : List Value).toArray below meth c H locs 0 0 Q (F0 m 2 ls []) := by
    intro n_2
    induction n_2 with
    | zero =>
      intro x1_2 S_2 H locs hP hD hS ls hl hf
      exact absurd hf (by intro h9; cases h9)
    | succ n_2 ih_2 =>
      intro x1_2 S_2 H locs hP hD hS ls hl hf
      rw [f_X4_giveRadli_2_s] at hf
      refine lv_iload_n hx hb dX4_giveRadli_2 rfl (lv_at hl 1 rfl) ?_
      refine lv_iconst (v := 4) hx hb dX4_giveRadli_3 (by decide) ?_
      refine lv_icmp_ge (tgt := 31) hx hb dX4_giveRadli_4 (by decide) (fun h1 => ?_) (fun h1 => ?_)
      · have hf := tk_pos hf h1
        exact tk_rv hQ (congrArg (tk_H c3 q) (tk_s1 hf)) hx hb hr hlocks hP hD hS dX4_giveRadli_31
      · have hf := tk_neg hf h1
        refine lv_aload_n hx hb dX4_giveRadli_7 rfl (lv_at hl 0 rfl) ?_
        refine va_get (D := G) (ci := 4) (v := .ref (q 11)) (C := RX4) (T := TX4) (N := 3) hx hb hts i_X4_giveRadli_X4 hown hE.1 hP 8 rfl rfl 1 (by decide) (hts _ m_X4_giveRadli_f20) (fun _ h9 => h9) rfl dX4_giveRadli_8 ?_
        refine lv_iload_n hx hb dX4_giveRadli_11 rfl (lv_at hl 1 rfl) ?_
        refine lv_aload_n hx hb dX4_giveRadli_12 rfl (lv_at hl 0 rfl) ?_
        refine va_get (D := G) (ci := 4) (v := .ref (q 11)) (C := RX4) (T := TX4) (N := 3) hx hb hts i_X4_giveRadli_X4 hown hE.1 hP 8 rfl rfl 1 (by decide) (hts _ m_X4_giveRadli_f20) (fun _ h9 => h9) rfl dX4_giveRadli_13 ?_
        refine lv_iload_n hx hb dX4_giveRadli_16 rfl (lv_at hl 1 rfl) ?_
        obtain ⟨r2, h3, hf⟩ := tk_b1s hf
        refine tk_ci (ws' := (tk_H c3 q S_2)) (va_runV (As := [.int x1_2]) (rest := [.int x1_2, .ref (q 11)]) ⟨hx, hb, hml, hown, hts⟩ (c_X2_at_p11 l G c3 q S_2 x1_2 r2 h3 H.size) (cwV 1 hts gX4_giveRadli_X2_at rfl rfl rfl hv_X2_at ⟨Nat.le_of_ble_eq_true rfl, Nat.le_of_ble_eq_true rfl⟩) (tk_pV hE hP hD 11 rfl rfl) rfl rfl hl.1 rfl (lv_room (Nat.le_of_ble_eq_true rfl)) dX4_giveRadli_17 ⟨Nat.zero_le _, Nat.zero_le _⟩) hD hS hA (fun H locs hP hD hS => ?_)
        refine lv_iconst (v := 1) hx hb dX4_giveRadli_20 (by decide) ?_
        refine lv_iadd hx hb dX4_giveRadli_21 ?_
        obtain ⟨S7, h6, hf⟩ := tk_b1s hf
        refine tk_cv (ws' := (tk_H c3 q S7)) (va_runV (As := [.int x1_2, .int (r2 + (1 : Int32))]) (rest := []) ⟨hx, hb, hml, hown, hts⟩ (c_X2_put_p11 l G c3 q S_2 x1_2 (r2 + (1 : Int32)) S7 h6 H.size) (cwV 2 hts gX4_giveRadli_X2_put rfl rfl rfl hv_X2_put ⟨Nat.le_of_ble_eq_true rfl, Nat.le_of_ble_eq_true rfl⟩) (tk_pV hE hP hD 11 rfl rfl) rfl rfl hl.1 rfl (lv_room (Nat.le_of_ble_eq_true rfl)) dX4_giveRadli_22 ⟨Nat.zero_le _, Nat.zero_le _⟩) hD hS hA (fun H locs hP hD hS => ?_)
        refine lv_iinc (v := (x1_2 + (1 : Int32))) (lv' := [(1, .int (x1_2 + (1 : Int32))), (0, .ref (q 8))]) hx hb dX4_giveRadli_25 hl (k := 1) rfl rfl (by decide) rfl (fun ls hl => ?_)
        refine lv_goto (tgt := 2) hx hb dX4_giveRadli_28 (by decide) ?_
        exact ih_2 (x1_2 + (1 : Int32)) S7 H locs hP hD hS ls (lv_sub hl [1, 0] rfl) hf
  unfold f_X4_giveRadli at hf
  refine lv_iconst (v := 0) hx hb dX4_giveRadli_0 (by decide) ?_
  refine lv_istore_n (lv' := [(1, .int (0 : Int32)), (0, .ref (q 8))]) hx hb dX4_giveRadli_1 rfl hl (by decide) rfl (fun ls hl => ?_)
  exact J_2 64 (0 : Int32) S H locs hP hD hS ls (lv_sub hl [1, 0] rfl) hf
abbrev rm_X6_enterResult : Room := { frames := 3, cells := 0, slots := 0, locals := 68 }
set_option maxHeartbeats 4000000 in
set_option maxRecDepth 100000 in
theorem c_X6_enterResult (l : Launch) (G : va_G) (c3 : ClassId × ClassId × ClassId) (q : Nat → Nat) (S : tk_ST) (p0 : Int32) (S0 : tk_ST) (hf : f_X6_enterResult p0 S = some S0) : tk_Mv l yX6_enterResult wsX6_enterResult rm_X6_enterResult G c3 [.ref (q 0), .int p0] (tk_H c3 q S) (tk_H c3 q S0) := by
  refine tk_ofv (cc := cX6_enterResult) (maxL := 5) (ret := none) (by decide) rfl (Nat.le_of_ble_eq_true rfl) ?_
  intro p e s m below meth c A Q ls H locs hx hb hml hr hts hown hlocks hE hA hP hD hS hZ hQ hl
  have hl : lv_has ls 5 [(0, .ref (q 0)), (1, .int p0)] := hl
  have hown : s.vm.findClass RX6 = some m.cls := hown
  unfold f_X6_enterResult at hf
  refine lv_aload_n hx hb dX6_enterResult_0 rfl (lv_at hl 0 rfl) ?_
  refine va_get (D := G) (ci := 6) (v := .ref (q 4)) (C := RX6) (T := TX6) (N := 18) hx hb hts i_X6_enterResult_X6 hown hE.1 hP 0 rfl rfl 1 (by decide) (hts _ m_X6_enterResult_f19) (fun _ h9 => h9) rfl dX6_enterResult_1 ?_
  refine va_getN (D := G) (ci := 0) (v := .int (S.1 11)) (C := RX0) (T := TX0) (N := 3) hx hb hts i_X6_enterResult_X0 hown hE.1 hP 4 rfl rfl 1 (by decide) (va_Nw.use rfl hE.2.1.1) (fun _ h9 => h9) rfl dX6_enterResult_4 ?_
  refine lv_istore_n (lv' := [(2, .int (S.1 11)), (0, .ref (q 0)), (1, .int p0)]) hx hb dX6_enterResult_7 rfl hl (by decide) rfl (fun ls hl => ?_)
  refine lv_aload_n hx hb dX6_enterResult_8 rfl (lv_at hl 1 rfl) ?_
  refine va_get (D := G) (ci := 6) (v := .ref (q 15)) (C := RX6) (T := TX6) (N := 18) hx hb hts i_X6_enterResult_X6 hown hE.1 hP 0 rfl rfl 5 (by decide) (hts _ m_X6_enterResult_f46) (fun _ h9 => h9) rfl dX6_enterResult_9 ?_
  refine lv_iconst (v := 0) hx hb dX6_enterResult_12 (by decide) ?_
  obtain ⟨r1, h2, hf⟩ := tk_b1s hf
  refine tk_cl (ws' := (tk_H c3 q S)) (va_runV (As := [.int (0 : Int32)]) (rest := []) ⟨hx, hb, hml, hown, hts⟩ (c_X3_at_p15 l G c3 q S (0 : Int32) r1 h2 H.size) (cwV 1 hts gX6_enterResult_X3_at rfl rfl rfl hv_X3_at ⟨Nat.le_of_ble_eq_true rfl, Nat.le_of_ble_eq_true rfl⟩) (tk_pV hE hP hD 15 rfl rfl) rfl rfl hl.1 rfl (lv_room (Nat.le_of_ble_eq_true rfl)) dX6_enterResult_13 ⟨Nat.zero_le _, Nat.zero_le _⟩) hD hS hA (fun H locs hP hD hS => ?_)
  obtain ⟨r4, h5, hf⟩ := tk_b1s hf
  refine tk_ci (ws' := (tk_H c3 q S)) (va_runS (As := [.long r1]) (rest := []) ⟨hx, hb, hml, hown, hts⟩ (c_X6_thirdsOf l G c3 (tk_H c3 q S) r1 r4 h5 H.size) (va_cwS 1 hts gX6_enterResult_X6_thirdsOf rfl rfl rfl hs_X6_thirdsOf ⟨Nat.le_of_ble_eq_true rfl, Nat.le_of_ble_eq_true rfl⟩) (tk_pS hE hP hD) rfl rfl hl.1 rfl (lv_room (Nat.le_of_ble_eq_true rfl)) dX6_enterResult_16 ⟨Nat.zero_le _, Nat.zero_le _⟩) hD hS hA (fun H locs hP hD hS => ?_)
  refine lv_istore_n (lv' := [(3, .int r4), (2, .int (S.1 11)), (0, .ref (q 0)), (1, .int p0)]) hx hb dX6_enterResult_19 rfl hl (by decide) rfl (fun ls hl => ?_)
  refine lv_iload_n hx hb dX6_enterResult_20 rfl (lv_at hl 1 rfl) ?_
  refine lv_iload_n hx hb dX6_enterResult_21 rfl (lv_at hl 0 rfl) ?_
  obtain ⟨r7, h8, hf⟩ := tk_b1s hf
  refine tk_ci (ws' := (tk_H c3 q S)) (va_runS (As := [.int (S.1 11), .int r4]) (rest := []) ⟨hx, hb, hml, hown, hts⟩ (c_X6_gamePoints l G c3 (tk_H c3 q S) (S.1 11) r4 r7 h8 H.size) (va_cwS 2 hts gX6_enterResult_X6_gamePoints rfl rfl rfl hs_X6_gamePoints ⟨Nat.le_of_ble_eq_true rfl, Nat.le_of_ble_eq_true rfl⟩) (tk_pS hE hP hD) rfl rfl hl.1 rfl (lv_room (Nat.le_of_ble_eq_true rfl)) dX6_enterResult_22 ⟨Nat.zero_le _, Nat.zero_le _⟩) hD hS hA (fun H locs hP hD hS => ?_)
  refine lv_aload_n hx hb dX6_enterResult_25 rfl (lv_at hl 2 rfl) ?_
  refine lv_iload_n hx hb dX6_enterResult_26 rfl (lv_at hl 3 rfl) ?_
  obtain ⟨r10, h11, hf⟩ := tk_b1s hf
  refine tk_ci (ws' := (tk_H c3 q S)) (va_runV (As := [.int p0]) (rest := [.int r7]) ⟨hx, hb, hml, hown, hts⟩ (c_X6_pagatPoints l G c3 q S p0 r10 h11 H.size) (cwV 1 hts gX6_enterResult_X6_pagatPoints rfl rfl rfl hv_X6_pagatPoints ⟨Nat.le_of_ble_eq_true rfl, Nat.le_of_ble_eq_true rfl⟩) (tk_pV hE hP hD 0 rfl rfl) rfl rfl hl.1 rfl (lv_room (Nat.le_of_ble_eq_true rfl)) dX6_enterResult_27 ⟨Nat.zero_le _, Nat.zero_le _⟩) hD hS hA (fun H locs hP hD hS => ?_)
  refine lv_iadd hx hb dX6_enterResult_30 ?_
  refine lv_aload_n hx hb dX6_enterResult_31 rfl (lv_at hl 2 rfl) ?_
  refine lv_iload_n hx hb dX6_enterResult_32 rfl (lv_at hl 3 rfl) ?_
  obtain ⟨r13, h14, hf⟩ := tk_b1s hf
  refine tk_ci (ws' := (tk_H c3 q S)) (va_runV (As := [.int p0]) (rest := [.int (r7 + r10)]) ⟨hx, hb, hml, hown, hts⟩ (c_X6_kingPoints l G c3 q S p0 r13 h14 H.size) (cwV 1 hts gX6_enterResult_X6_kingPoints rfl rfl rfl hv_X6_kingPoints ⟨Nat.le_of_ble_eq_true rfl, Nat.le_of_ble_eq_true rfl⟩) (tk_pV hE hP hD 0 rfl rfl) rfl rfl hl.1 rfl (lv_room (Nat.le_of_ble_eq_true rfl)) dX6_enterResult_33 ⟨Nat.zero_le _, Nat.zero_le _⟩) hD hS hA (fun H locs hP hD hS => ?_)
  refine lv_iadd hx hb dX6_enterResult_36 ?_
  refine lv_istore (lv' := [(4, .int ((r7 + r10) + r13)), (3, .int r4), (2, .int (S.1 11)), (0, .ref (q 0)), (1, .int p0)]) hx hb dX6_enterResult_37 hl (by decide) rfl (fun ls hl => ?_)
  refine lv_aload_n hx hb dX6_enterResult_39 rfl (lv_at hl 3 rfl) ?_
  refine va_get (D := G) (ci := 6) (v := .ref (q 8)) (C := RX6) (T := TX6) (N := 18) hx hb hts i_X6_enterResult_X6 hown hE.1 hP 0 rfl rfl 3 (by decide) (hts _ m_X6_enterResult_f33) (fun _ h9 => h9) rfl dX6_enterResult_40 ?_
  refine lv_aload_n hx hb dX6_enterResult_43 rfl (lv_at hl 3 rfl) ?_
  refine va_get (D := G) (ci := 6) (v := .int (S.1 3)) (C := RX6) (T := TX6) (N := 18) hx hb hts i_X6_enterResult_X6 hown hE.1 hP 0 rfl rfl 9 (by decide) (hts _ m_X6_enterResult_f59) (fun _ h9 => h9) rfl dX6_enterResult_44 ?_
  refine lv_aload_n hx hb dX6_enterResult_47 rfl (lv_at hl 3 rfl) ?_
  refine va_get (D := G) (ci := 6) (v := .int (S.1 6)) (C := RX6) (T := TX6) (N := 18) hx hb hts i_X6_enterResult_X6 hown hE.1 hP 0 rfl rfl 12 (by decide) (hts _ m_X6_enterResult_f68) (fun _ h9 => h9) rfl dX6_enterResult_48 ?_
  refine lv_iload hx hb dX6_enterResult_51 (lv_at hl 0 rfl) ?_
  refine lv_iload_n hx hb dX6_enterResult_53 rfl (lv_at hl 1 rfl) ?_
  obtain ⟨r16, h17, hf⟩ := tk_b1s hf
  refine tk_ci (ws' := (tk_H c3 q S)) (va_runS (As := [.int r4]) (rest := [.int ((r7 + r10) + r13), .int (S.1 6), .int (S.1 3), .ref (q 8)]) ⟨hx, hb, hml, hown, hts⟩ (c_X6_isWon l G c3 (tk_H c3 q S) r4 r16 h17 H.size) (va_cwS 1 hts gX6_enterResult_X6_isWon rfl rfl rfl hs_X6_isWon ⟨Nat.le_of_ble_eq_true rfl, Nat.le_of_ble_eq_true rfl⟩) (tk_pS hE hP hD) rfl rfl hl.1 rfl (lv_room (Nat.le_of_ble_eq_true rfl)) dX6_enterResult_54 ⟨Nat.zero_le _, Nat.zero_le _⟩) hD hS hA (fun H locs hP hD hS => ?_)
  obtain ⟨S21, h20, hf⟩ := tk_b1s hf
  refine tk_cv (ws' := (tk_H c3 q S21)) (va_runV (As := [.int (S.1 3), .int (S.1 6), .int ((r7 + r10) + r13), .int r16]) (rest := []) ⟨hx, hb, hml, hown, hts⟩ (c_X4_enter l G c3 q S (S.1 3) (S.1 6) ((r7 + r10) + r13) r16 S21 h20 H.size) (cwV 4 hts gX6_enterResult_X4_enter rfl rfl rfl hv_X4_enter ⟨Nat.le_of_ble_eq_true rfl, Nat.le_of_ble_eq_true rfl⟩) (tk_pV hE hP hD 8 rfl rfl) rfl rfl hl.1 rfl (lv_room (Nat.le_of_ble_eq_true rfl)) dX6_enterResult_57 ⟨Nat.zero_le _, Nat.zero_le _⟩) hD hS hA (fun H locs hP hD hS => ?_)
  refine lv_iload_n hx hb dX6_enterResult_60 rfl (lv_at hl 2 rfl) ?_
  refine lv_iconst (v := 3) hx hb dX6_enterResult_61 (by decide) ?_
  refine lv_icmp_le (tgt := 72) hx hb dX6_enterResult_62 (by decide) (fun h22 => ?_) (fun h22 => ?_)
  · have hf := tk_pos hf h22
    exact tk_rv hQ (congrArg (tk_H c3 q) (tk_s1 hf)) hx hb hr hlocks hP hD hS dX6_enterResult_72
  · have hf := tk_neg hf h22
    refine lv_aload_n hx hb dX6_enterResult_65 rfl (lv_at hl 3 rfl) ?_
    refine va_get (D := G) (ci := 6) (v := .ref (q 8)) (C := RX6) (T := TX6) (N := 18) hx hb hts i_X6_enterResult_X6 hown hE.1 hP 0 rfl rfl 3 (by decide) (hts _ m_X6_enterResult_f33) (fun _ h9 => h9) rfl dX6_enterResult_66 ?_
    obtain ⟨S25, h24, hf⟩ := tk_b1s hf
    refine tk_cv (ws' := (tk_H c3 q S25)) (va_runV (As := []) (rest := []) ⟨hx, hb, hml, hown, hts⟩ (c_X4_giveRadli l G c3 q S21 S25 h24 H.size) (cwV 0 hts gX6_enterResult_X4_giveRadli rfl rfl rfl hv_X4_giveRadli ⟨Nat.le_of_ble_eq_true rfl, Nat.le_of_ble_eq_true rfl⟩) (tk_pV hE hP hD 8 rfl rfl) rfl rfl hl.1 rfl (lv_room (Nat.le_of_ble_eq_true rfl)) dX6_enterResult_69 ⟨Nat.zero_le _, Nat.zero_le _⟩) hD hS hA (fun H locs hP hD hS => ?_)
    exact tk_rv hQ (congrArg (tk_H c3 q) (tk_s1 hf)) hx hb hr hlocks hP hD hS dX6_enterResult_72
abbrev rm_X6_endTrick : Room := { frames := 4, cells := 0, slots := 0, locals := 92 }
set_option maxHeartbeats 4000000 in
set_option maxRecDepth 100000 in
theorem c_X6_endTrick (l : Launch) (G : va_G) (c3 : ClassId × ClassId × ClassId) (q : Nat → Nat) (S : tk_ST) (p0 : Int32) (S0 : tk_ST) (hf : f_X6_endTrick p0 S = some S0) : tk_Mv l yX6_endTrick wsX6_endTrick rm_X6_endTrick G c3 [.ref (q 0), .int p0] (tk_H c3 q S) (tk_H c3 q S0) := by
  refine tk_ofv (cc := cX6_endTrick) (maxL := 3) (ret := none) (by decide) rfl (Nat.le_of_ble_eq_true rfl) ?_
  intro p e s m below meth c A Q ls H locs hx hb hml hr hts hown hlocks hE hA hP hD hS hZ hQ hl
  have hl : lv_has ls 3 [(0, .ref (q 0)), (1, .int p0)] := hl
  have hown : s.vm.findClass RX6 = some m.cls := hown
  have J_63 : ∀ (x1_63 : Int32) (S_63 : tk_ST) (H : Heap) (locs : List Loc) (_ : va_P G vwCl (tk_H c3 q S_63) H) (_ : va_D A (tk_H c3 q S_63)) (_ : va_S A s.heap H locs) (ls : Array Slot) (_ : lv_has ls 3 [(0, .ref (q 0)), (1, .int x1_63)]) (_ : f_X6_endTrick_63 x1_63 S_63 = some S0), W p l e rm_X6_endTrick s m ([.ref (q 0), .int p0] : List Value).toArray below meth c H locs 0 0 Q (F0 m 63 ls []) := by
    intro x1_63 S_63 H locs hP hD hS ls hl hf
    unfold f_X6_endTrick_63 at hf
    refine lv_aload_n hx hb dX6_endTrick_63 rfl (lv_at hl 0 rfl) ?_
    refine va_get (D := G) (ci := 6) (v := .ref (q 5)) (C := RX6) (T := TX6) (N := 18) hx hb hts i_X6_endTrick_X6 hown hE.1 hP 0 rfl rfl 2 (by decide) (hts _ m_X6_endTrick_f26) (fun _ h9 => h9) rfl dX6_endTrick_64 ?_
    refine lv_iload_n hx hb dX6_endTrick_67 rfl (lv_at hl 1 rfl) ?_
    obtain ⟨S3, h2, hf⟩ := tk_b1s hf
    refine tk_cv (ws' := (tk_H c3 q S3)) (va_runV (As := [.int x1_63]) (rest := []) ⟨hx, hb, hml, hown, hts⟩ (c_X5_begin l G c3 q S_63 x1_63 S3 h2 H.size) (cwV 1 hts gX6_endTrick_X5_begin rfl rfl rfl hv_X5_begin ⟨Nat.le_of_ble_eq_true rfl, Nat.le_of_ble_eq_true rfl⟩) (tk_pV hE hP hD 5 rfl rfl) rfl rfl hl.1 rfl (lv_room (Nat.le_of_ble_eq_true rfl)) dX6_endTrick_68 ⟨Nat.zero_le _, Nat.zero_le _⟩) hD hS hA (fun H locs hP hD hS => ?_)
    exact tk_rv hQ (congrArg (tk_H c3 q) (tk_s1 hf)) hx hb hr hlocks hP hD hS dX6_endTrick_71
  unfold f_X6_endTrick at hf
  refine lv_aload_n hx hb dX6_endTrick_0 rfl (lv_at hl 0 rfl) ?_
  refine lv_iload_n hx hb dX6_endTrick_1 rfl (lv_at hl 1 rfl) ?_
  obtain ⟨r4, h5, hf⟩ := tk_b1s hf
  refine tk_ci (ws' := (tk_H c3 q S)) (va_runV (As := [.int p0]) (rest := []) ⟨hx, hb, hml, hown, hts⟩ (c_X6_sideOf l G c3 q S p0 r4 h5 H.size) (cwV 1 hts gX6_endTrick_X6_sideOf rfl rfl rfl hv_X6_sideOf ⟨Nat.le_of_ble_eq_true rfl, Nat.le_of_ble_eq_true rfl⟩) (tk_pV hE hP hD 0 rfl rfl) rfl rfl hl.1 rfl (lv_room (Nat.le_of_ble_eq_true rfl)) dX6_endTrick_2 ⟨Nat.zero_le _, Nat.zero_le _⟩) hD hS hA (fun H locs hP hD hS => ?_)
  refine lv_istore_n (lv' := [(2, .int r4), (0, .ref (q 0)), (1, .int p0)]) hx hb dX6_endTrick_5 rfl hl (by decide) rfl (fun ls hl => ?_)
  refine lv_aload_n hx hb dX6_endTrick_6 rfl (lv_at hl 1 rfl) ?_
  refine va_get (D := G) (ci := 6) (v := .ref (q 15)) (C := RX6) (T := TX6) (N := 18) hx hb hts i_X6_endTrick_X6 hown hE.1 hP 0 rfl rfl 5 (by decide) (hts _ m_X6_endTrick_f46) (fun _ h9 => h9) rfl dX6_endTrick_7 ?_
  refine lv_iload_n hx hb dX6_endTrick_10 rfl (lv_at hl 0 rfl) ?_
  refine lv_aload_n hx hb dX6_endTrick_11 rfl (lv_at hl 1 rfl) ?_
  refine va_get (D := G) (ci := 6) (v := .ref (q 15)) (C := RX6) (T := TX6) (N := 18) hx hb hts i_X6_endTrick_X6 hown hE.1 hP 0 rfl rfl 5 (by decide) (hts _ m_X6_endTrick_f46) (fun _ h9 => h9) rfl dX6_endTrick_12 ?_
  refine lv_iload_n hx hb dX6_endTrick_15 rfl (lv_at hl 0 rfl) ?_
  obtain ⟨r7, h8, hf⟩ := tk_b1s hf
  refine tk_cl (ws' := (tk_H c3 q S)) (va_runV (As := [.int r4]) (rest := [.int r4, .ref (q 15)]) ⟨hx, hb, hml, hown, hts⟩ (c_X3_at_p15 l G c3 q S r4 r7 h8 H.size) (cwV 1 hts gX6_endTrick_X3_at rfl rfl rfl hv_X3_at ⟨Nat.le_of_ble_eq_true rfl, Nat.le_of_ble_eq_true rfl⟩) (tk_pV hE hP hD 15 rfl rfl) rfl rfl hl.1 rfl (lv_room (Nat.le_of_ble_eq_true rfl)) dX6_endTrick_16 ⟨Nat.zero_le _, Nat.zero_le _⟩) hD hS hA (fun H locs hP hD hS => ?_)
  refine lv_aload_n hx hb dX6_endTrick_19 rfl (lv_at hl 1 rfl) ?_
  refine va_get (D := G) (ci := 6) (v := .ref (q 5)) (C := RX6) (T := TX6) (N := 18) hx hb hts i_X6_endTrick_X6 hown hE.1 hP 0 rfl rfl 2 (by decide) (hts _ m_X6_endTrick_f26) (fun _ h9 => h9) rfl dX6_endTrick_20 ?_
  obtain ⟨r10, h11, hf⟩ := tk_b1s hf
  refine tk_cl (ws' := (tk_H c3 q S)) (va_runV (As := []) (rest := [.long r7, .int r4, .ref (q 15)]) ⟨hx, hb, hml, hown, hts⟩ (c_X5_cardSet l G c3 q S r10 h11 H.size) (cwV 0 hts gX6_endTrick_X5_cardSet rfl rfl rfl hv_X5_cardSet ⟨Nat.le_of_ble_eq_true rfl, Nat.le_of_ble_eq_true rfl⟩) (tk_pV hE hP hD 5 rfl rfl) rfl rfl hl.1 rfl (lv_room (Nat.le_of_ble_eq_true rfl)) dX6_endTrick_23 ⟨Nat.zero_le _, Nat.zero_le _⟩) hD hS hA (fun H locs hP hD hS => ?_)
  refine lv_lor hx hb dX6_endTrick_26 ?_
  obtain ⟨S15, h14, hf⟩ := tk_b1s hf
  refine tk_cv (ws' := (tk_H c3 q S15)) (va_runV (As := [.int r4, .long (r7 ||| r10)]) (rest := []) ⟨hx, hb, hml, hown, hts⟩ (c_X3_put_p15 l G c3 q S r4 (r7 ||| r10) S15 h14 H.size) (cwV 2 hts gX6_endTrick_X3_put rfl rfl rfl hv_X3_put ⟨Nat.le_of_ble_eq_true rfl, Nat.le_of_ble_eq_true rfl⟩) (tk_pV hE hP hD 15 rfl rfl) rfl rfl hl.1 rfl (lv_room (Nat.le_of_ble_eq_true rfl)) dX6_endTrick_27 ⟨Nat.zero_le _, Nat.zero_le _⟩) hD hS hA (fun H locs hP hD hS => ?_)
  refine lv_aload_n hx hb dX6_endTrick_30 rfl (lv_at hl 1 rfl) ?_
  refine lv_dup hx hb dX6_endTrick_31 rfl ?_
  refine va_get (D := G) (ci := 6) (v := .int (S15.1 9)) (C := RX6) (T := TX6) (N := 18) hx hb hts i_X6_endTrick_X6 hown hE.1 hP 0 rfl rfl 17 (by decide) (hts _ m_X6_endTrick_f199) (fun _ h9 => h9) rfl dX6_endTrick_32 ?_
  refine lv_iconst (v := 1) hx hb dX6_endTrick_35 (by decide) ?_
  refine lv_iadd hx hb dX6_endTrick_36 ?_
  refine va_put (D := G) (ci := 6) (v := .int ((S15.1 9) + (1 : Int32))) (ty := .int) (C := RX6) (T := TX6) (N := 18) hx hb hts i_X6_endTrick_X6 tyX6 tyX6_ok nmX6 hown hE.1 hP hD hS 0 rfl rfl 17 (by decide) (hts _ m_X6_endTrick_f199) (fun _ h9 => h9) rfl (by decide +kernel) rfl rfl (Nat.le_of_ble_eq_true rfl) dX6_endTrick_37 (fun H locs hP hD hS => ?_)
  have hP : va_P G vwCl (tk_H c3 q (tk_I S15 9 ((S15.1 9) + (1 : Int32)))) H := hP
  have hD : va_D A (tk_H c3 q (tk_I S15 9 ((S15.1 9) + (1 : Int32)))) := hD
  refine lv_aload_n hx hb dX6_endTrick_40 rfl (lv_at hl 1 rfl) ?_
  refine lv_iload_n hx hb dX6_endTrick_41 rfl (lv_at hl 2 rfl) ?_
  refine va_put (D := G) (ci := 6) (v := .int p0) (ty := .int) (C := RX6) (T := TX6) (N := 18) hx hb hts i_X6_endTrick_X6 tyX6 tyX6_ok nmX6 hown hE.1 hP hD hS 0 rfl rfl 8 (by decide) (hts _ m_X6_endTrick_f56) (fun _ h9 => h9) rfl (by decide +kernel) rfl rfl (Nat.le_of_ble_eq_true rfl) dX6_endTrick_42 (fun H locs hP hD hS => ?_)
  have hP : va_P G vwCl (tk_H c3 q (tk_I (tk_I S15 9 ((S15.1 9) + (1 : Int32))) 2 p0)) H := hP
  have hD : va_D A (tk_H c3 q (tk_I (tk_I S15 9 ((S15.1 9) + (1 : Int32))) 2 p0)) := hD
  refine lv_aload_n hx hb dX6_endTrick_45 rfl (lv_at hl 1 rfl) ?_
  refine va_get (D := G) (ci := 6) (v := .int ((S15.1 9) + (1 : Int32))) (C := RX6) (T := TX6) (N := 18) hx hb hts i_X6_endTrick_X6 hown hE.1 hP 0 rfl rfl 17 (by decide) (hts _ m_X6_endTrick_f199) (fun _ h9 => h9) rfl dX6_endTrick_46 ?_
  refine lv_bipush (v := 12) hx hb dX6_endTrick_49 (by decide) ?_
  refine lv_icmp_ne (tgt := 63) hx hb dX6_endTrick_51 (by decide) (fun h16 => ?_) (fun h16 => ?_)
  · have hf := tk_neg hf h16
    exact J_63 p0 (tk_I (tk_I S15 9 ((S15.1 9) + (1 : Int32))) 2 p0) H locs hP hD hS ls (lv_sub hl [1, 2] rfl) hf
  · have hf := tk_pos hf h16
    refine lv_aload_n hx hb dX6_endTrick_54 rfl (lv_at hl 1 rfl) ?_
    refine lv_iload_n hx hb dX6_endTrick_55 rfl (lv_at hl 2 rfl) ?_
    obtain ⟨S19, h18, hf⟩ := tk_b1s hf
    refine tk_cv (ws' := (tk_H c3 q S19)) (va_runV (As := [.int p0]) (rest := []) ⟨hx, hb, hml, hown, hts⟩ (c_X6_enterResult l G c3 q (tk_I (tk_I S15 9 ((S15.1 9) + (1 : Int32))) 2 p0) p0 S19 h18 H.size) (cwV 1 hts gX6_endTrick_X6_enterResult rfl rfl rfl hv_X6_enterResult ⟨Nat.le_of_ble_eq_true rfl, Nat.le_of_ble_eq_true rfl⟩) (tk_pV hE hP hD 0 rfl rfl) rfl rfl hl.1 rfl (lv_room (Nat.le_of_ble_eq_true rfl)) dX6_endTrick_56 ⟨Nat.zero_le _, Nat.zero_le _⟩) hD hS hA (fun H locs hP hD hS => ?_)
    refine lv_aload_n hx hb dX6_endTrick_59 rfl (lv_at hl 1 rfl) ?_
    obtain ⟨S22, h21, hf⟩ := tk_b1s hf
    refine tk_cv (ws' := (tk_H c3 q S22)) (va_runV (As := []) (rest := []) ⟨hx, hb, hml, hown, hts⟩ (c_X6_endDeal l G c3 q S19 S22 h21 H.size) (cwV 0 hts gX6_endTrick_X6_endDeal rfl rfl rfl hv_X6_endDeal ⟨Nat.le_of_ble_eq_true rfl, Nat.le_of_ble_eq_true rfl⟩) (tk_pV hE hP hD 0 rfl rfl) rfl rfl hl.1 rfl (lv_room (Nat.le_of_ble_eq_true rfl)) dX6_endTrick_60 ⟨Nat.zero_le _, Nat.zero_le _⟩) hD hS hA (fun H locs hP hD hS => ?_)
    exact J_63 p0 S22 H locs hP hD hS ls (lv_sub hl [1, 2] rfl) hf
abbrev rm_X6_addToTrick : Room := { frames := 5, cells := 0, slots := 0, locals := 114 }
set_option maxHeartbeats 4000000 in
set_option maxRecDepth 100000 in
theorem c_X6_addToTrick (l : Launch) (G : va_G) (c3 : ClassId × ClassId × ClassId) (q : Nat → Nat) (S : tk_ST) (p0 : Int32) (r0 : Int32) (S0 : tk_ST) (hf : f_X6_addToTrick p0 S = some (r0, S0)) : tk_Mi l yX6_addToTrick wsX6_addToTrick rm_X6_addToTrick G c3 [.ref (q 0), .int p0] (tk_H c3 q S) (tk_H c3 q S0) r0 := by
  refine tk_ofi (cc := cX6_addToTrick) (maxL := 3) (ret := some .int) (by decide) rfl (Nat.le_of_ble_eq_true rfl) ?_
  intro p e s m below meth c A Q ls H locs hx hb hml hr hts hown hlocks hE hA hP hD hS hZ hQ hl
  have hl : lv_has ls 3 [(0, .ref (q 0)), (1, .int p0)] := hl
  have hown : s.vm.findClass RX6 = some m.cls := hown
  unfold f_X6_addToTrick at hf
  refine lv_aload_n hx hb dX6_addToTrick_0 rfl (lv_at hl 0 rfl) ?_
  refine va_get (D := G) (ci := 6) (v := .ref (q 13)) (C := RX6) (T := TX6) (N := 18) hx hb hts i_X6_addToTrick_X6 hown hE.1 hP 0 rfl rfl 4 (by decide) (hts _ m_X6_addToTrick_f42) (fun _ h9 => h9) rfl dX6_addToTrick_1 ?_
  refine lv_aload_n hx hb dX6_addToTrick_4 rfl (lv_at hl 0 rfl) ?_
  refine va_get (D := G) (ci := 6) (v := .int (S.1 2)) (C := RX6) (T := TX6) (N := 18) hx hb hts i_X6_addToTrick_X6 hown hE.1 hP 0 rfl rfl 8 (by decide) (hts _ m_X6_addToTrick_f56) (fun _ h9 => h9) rfl dX6_addToTrick_5 ?_
  refine lv_aload_n hx hb dX6_addToTrick_8 rfl (lv_at hl 0 rfl) ?_
  refine va_get (D := G) (ci := 6) (v := .ref (q 13)) (C := RX6) (T := TX6) (N := 18) hx hb hts i_X6_addToTrick_X6 hown hE.1 hP 0 rfl rfl 4 (by decide) (hts _ m_X6_addToTrick_f42) (fun _ h9 => h9) rfl dX6_addToTrick_9 ?_
  refine lv_aload_n hx hb dX6_addToTrick_12 rfl (lv_at hl 0 rfl) ?_
  refine va_get (D := G) (ci := 6) (v := .int (S.1 2)) (C := RX6) (T := TX6) (N := 18) hx hb hts i_X6_addToTrick_X6 hown hE.1 hP 0 rfl rfl 8 (by decide) (hts _ m_X6_addToTrick_f56) (fun _ h9 => h9) rfl dX6_addToTrick_13 ?_
  obtain ⟨r1, h2, hf⟩ := tk_b1s hf
  refine tk_cl (ws' := (tk_H c3 q S)) (va_runV (As := [.int (S.1 2)]) (rest := [.int (S.1 2), .ref (q 13)]) ⟨hx, hb, hml, hown, hts⟩ (c_X3_at_p13 l G c3 q S (S.1 2) r1 h2 H.size) (cwV 1 hts gX6_addToTrick_X3_at rfl rfl rfl hv_X3_at ⟨Nat.le_of_ble_eq_true rfl, Nat.le_of_ble_eq_true rfl⟩) (tk_pV hE hP hD 13 rfl rfl) rfl rfl hl.1 rfl (lv_room (Nat.le_of_ble_eq_true rfl)) dX6_addToTrick_16 ⟨Nat.zero_le _, Nat.zero_le _⟩) hD hS hA (fun H locs hP hD hS => ?_)
  refine lv_iload_n hx hb dX6_addToTrick_19 rfl (lv_at hl 1 rfl) ?_
  obtain ⟨r4, h5, hf⟩ := tk_b1s hf
  refine tk_cl (ws' := (tk_H c3 q S)) (va_runS (As := [.int p0]) (rest := [.long r1, .int (S.1 2), .ref (q 13)]) ⟨hx, hb, hml, hown, hts⟩ (c_X6_only l G c3 (tk_H c3 q S) p0 r4 h5 H.size) (va_cwS 1 hts gX6_addToTrick_X6_only rfl rfl rfl hs_X6_only ⟨Nat.le_of_ble_eq_true rfl, Nat.le_of_ble_eq_true rfl⟩) (tk_pS hE hP hD) rfl rfl hl.1 rfl (lv_room (Nat.le_of_ble_eq_true rfl)) dX6_addToTrick_20 ⟨Nat.zero_le _, Nat.zero_le _⟩) hD hS hA (fun H locs hP hD hS => ?_)
  refine lv_ldc2 (v := -1) hx hb hown (hts _ m_X6_addToTrick_k166) dX6_addToTrick_23 ?_
  refine lv_lxor hx hb dX6_addToTrick_26 ?_
  refine lv_land hx hb dX6_addToTrick_27 ?_
  obtain ⟨S9, h8, hf⟩ := tk_b1s hf
  refine tk_cv (ws' := (tk_H c3 q S9)) (va_runV (As := [.int (S.1 2), .long (r1 &&& (r4 ^^^ (-1 : Int64)))]) (rest := []) ⟨hx, hb, hml, hown, hts⟩ (c_X3_put_p13 l G c3 q S (S.1 2) (r1 &&& (r4 ^^^ (-1 : Int64))) S9 h8 H.size) (cwV 2 hts gX6_addToTrick_X3_put rfl rfl rfl hv_X3_put ⟨Nat.le_of_ble_eq_true rfl, Nat.le_of_ble_eq_true rfl⟩) (tk_pV hE hP hD 13 rfl rfl) rfl rfl hl.1 rfl (lv_room (Nat.le_of_ble_eq_true rfl)) dX6_addToTrick_28 ⟨Nat.zero_le _, Nat.zero_le _⟩) hD hS hA (fun H locs hP hD hS => ?_)
  refine lv_aload_n hx hb dX6_addToTrick_31 rfl (lv_at hl 0 rfl) ?_
  refine va_get (D := G) (ci := 6) (v := .ref (q 5)) (C := RX6) (T := TX6) (N := 18) hx hb hts i_X6_addToTrick_X6 hown hE.1 hP 0 rfl rfl 2 (by decide) (hts _ m_X6_addToTrick_f26) (fun _ h9 => h9) rfl dX6_addToTrick_32 ?_
  refine lv_iload_n hx hb dX6_addToTrick_35 rfl (lv_at hl 1 rfl) ?_
  obtain ⟨S12, h11, hf⟩ := tk_b1s hf
  refine tk_cv (ws' := (tk_H c3 q S12)) (va_runV (As := [.int p0]) (rest := []) ⟨hx, hb, hml, hown, hts⟩ (c_X5_add l G c3 q S9 p0 S12 h11 H.size) (cwV 1 hts gX6_addToTrick_X5_add rfl rfl rfl hv_X5_add ⟨Nat.le_of_ble_eq_true rfl, Nat.le_of_ble_eq_true rfl⟩) (tk_pV hE hP hD 5 rfl rfl) rfl rfl hl.1 rfl (lv_room (Nat.le_of_ble_eq_true rfl)) dX6_addToTrick_36 ⟨Nat.zero_le _, Nat.zero_le _⟩) hD hS hA (fun H locs hP hD hS => ?_)
  refine lv_aload_n hx hb dX6_addToTrick_39 rfl (lv_at hl 0 rfl) ?_
  refine va_get (D := G) (ci := 6) (v := .ref (q 5)) (C := RX6) (T := TX6) (N := 18) hx hb hts i_X6_addToTrick_X6 hown hE.1 hP 0 rfl rfl 2 (by decide) (hts _ m_X6_addToTrick_f26) (fun _ h9 => h9) rfl dX6_addToTrick_40 ?_
  refine va_getN (D := G) (ci := 5) (v := .int (S12.1 14)) (C := RX5) (T := TX5) (N := 3) hx hb hts i_X6_addToTrick_X5 hown hE.1 hP 5 rfl rfl 2 (by decide) (va_Nw.use rfl hE.2.1.2.1) (fun _ h9 => h9) rfl dX6_addToTrick_43 ?_
  refine lv_iconst (v := 4) hx hb dX6_addToTrick_46 (by decide) ?_
  refine lv_icmp_ge (tgt := 63) hx hb dX6_addToTrick_47 (by decide) (fun h13 => ?_) (fun h13 => ?_)
  · have hf := tk_pos hf h13
    refine lv_aload_n hx hb dX6_addToTrick_63 rfl (lv_at hl 0 rfl) ?_
    refine va_get (D := G) (ci := 6) (v := .ref (q 5)) (C := RX6) (T := TX6) (N := 18) hx hb hts i_X6_addToTrick_X6 hown hE.1 hP 0 rfl rfl 2 (by decide) (hts _ m_X6_addToTrick_f26) (fun _ h9 => h9) rfl dX6_addToTrick_64 ?_
    obtain ⟨r14, h15, hf⟩ := tk_b1s hf
    refine tk_ci (ws' := (tk_H c3 q S12)) (va_runV (As := []) (rest := []) ⟨hx, hb, hml, hown, hts⟩ (c_X5_winner l G c3 q S12 r14 h15 H.size) (cwV 0 hts gX6_addToTrick_X5_winner rfl rfl rfl hv_X5_winner ⟨Nat.le_of_ble_eq_true rfl, Nat.le_of_ble_eq_true rfl⟩) (tk_pV hE hP hD 5 rfl rfl) rfl rfl hl.1 rfl (lv_room (Nat.le_of_ble_eq_true rfl)) dX6_addToTrick_67 ⟨Nat.zero_le _, Nat.zero_le _⟩) hD hS hA (fun H locs hP hD hS => ?_)
    refine lv_istore_n (lv' := [(2, .int r14), (0, .ref (q 0)), (1, .int p0)]) hx hb dX6_addToTrick_70 rfl hl (by decide) rfl (fun ls hl => ?_)
    refine lv_aload_n hx hb dX6_addToTrick_71 rfl (lv_at hl 1 rfl) ?_
    refine lv_iload_n hx hb dX6_addToTrick_72 rfl (lv_at hl 0 rfl) ?_
    obtain ⟨S19, h18, hf⟩ := tk_b1s hf
    refine tk_cv (ws' := (tk_H c3 q S19)) (va_runV (As := [.int r14]) (rest := []) ⟨hx, hb, hml, hown, hts⟩ (c_X6_endTrick l G c3 q S12 r14 S19 h18 H.size) (cwV 1 hts gX6_addToTrick_X6_endTrick rfl rfl rfl hv_X6_endTrick ⟨Nat.le_of_ble_eq_true rfl, Nat.le_of_ble_eq_true rfl⟩) (tk_pV hE hP hD 0 rfl rfl) rfl rfl hl.1 rfl (lv_room (Nat.le_of_ble_eq_true rfl)) dX6_addToTrick_73 ⟨Nat.zero_le _, Nat.zero_le _⟩) hD hS hA (fun H locs hP hD hS => ?_)
    refine lv_iload_n hx hb dX6_addToTrick_76 rfl (lv_at hl 0 rfl) ?_
    exact tk_ri hQ (tk_s2 hf).1 (congrArg (tk_H c3 q) (tk_s2 hf).2) hx hb hr hlocks hP hD hS dX6_addToTrick_77
  · have hf := tk_neg hf h13
    refine lv_aload_n hx hb dX6_addToTrick_50 rfl (lv_at hl 0 rfl) ?_
    refine lv_aload_n hx hb dX6_addToTrick_51 rfl (lv_at hl 0 rfl) ?_
    refine va_get (D := G) (ci := 6) (v := .int (S12.1 2)) (C := RX6) (T := TX6) (N := 18) hx hb hts i_X6_addToTrick_X6 hown hE.1 hP 0 rfl rfl 8 (by decide) (hts _ m_X6_addToTrick_f56) (fun _ h9 => h9) rfl dX6_addToTrick_52 ?_
    obtain ⟨r20, h21, hf⟩ := tk_b1s hf
    refine tk_ci (ws' := (tk_H c3 q S12)) (va_runS (As := [.int (S12.1 2)]) (rest := [.ref (q 0)]) ⟨hx, hb, hml, hown, hts⟩ (c_X6_behind l G c3 (tk_H c3 q S12) (S12.1 2) r20 h21 H.size) (va_cwS 1 hts gX6_addToTrick_X6_behind rfl rfl rfl hs_X6_behind ⟨Nat.le_of_ble_eq_true rfl, Nat.le_of_ble_eq_true rfl⟩) (tk_pS hE hP hD) rfl rfl hl.1 rfl (lv_room (Nat.le_of_ble_eq_true rfl)) dX6_addToTrick_55 ⟨Nat.zero_le _, Nat.zero_le _⟩) hD hS hA (fun H locs hP hD hS => ?_)
    refine va_put (D := G) (ci := 6) (v := .int r20) (ty := .int) (C := RX6) (T := TX6) (N := 18) hx hb hts i_X6_addToTrick_X6 tyX6 tyX6_ok nmX6 hown hE.1 hP hD hS 0 rfl rfl 8 (by decide) (hts _ m_X6_addToTrick_f56) (fun _ h9 => h9) rfl (by decide +kernel) rfl rfl (Nat.le_of_ble_eq_true rfl) dX6_addToTrick_58 (fun H locs hP hD hS => ?_)
    have hP : va_P G vwCl (tk_H c3 q (tk_I S12 2 r20)) H := hP
    have hD : va_D A (tk_H c3 q (tk_I S12 2 r20)) := hD
    refine lv_iconst (v := -1) hx hb dX6_addToTrick_61 (by decide) ?_
    exact tk_ri hQ (tk_s2 hf).1 (congrArg (tk_H c3 q) (tk_s2 hf).2) hx hb hr hlocks hP hD hS dX6_addToTrick_62
abbrev rm_X6_play : Room := { frames := 6, cells := 1, slots := 6, locals := 136 }
set_option maxHeartbeats 4000000 in
set_option maxRecDepth 100000 in
theorem c_X6_play (l : Launch) (hlst : l.stackTraces = false) (G : va_G) (c3 : ClassId × ClassId × ClassId) (q : Nat → Nat) (S : tk_ST) (p0 : Int32) (k0 : Int32) (r0 : Int32) (S0 : tk_ST) (hf : f_X6_play p0 S = some (k0, r0, S0)) : tk_Xi l yX6_play wsX6_play rm_X6_play G c3 [.ref (q 0), .int p0] (tk_H c3 q S) (tk_H c3 q S0) k0 r0 := by
  refine tk_ofXi (cc := cX6_play) (maxL := 2) (ret := some .int) (by decide) rfl (Nat.le_of_ble_eq_true rfl) ?_
  intro p e s m below meth c A Q ls H locs hx hb hml hr hts hown hlocks hE hA hP hD hS hZ hQ hl
  have hl : lv_has ls 2 [(0, .ref (q 0)), (1, .int p0)] := hl
  have hown : s.vm.findClass RX6 = some m.cls := hown
  unfold f_X6_play at hf
  refine lv_iload_n hx hb dX6_play_0 rfl (lv_at hl 1 rfl) ?_
  obtain ⟨r1, h2, hf⟩ := tk_b1s hf
  refine tk_ci (ws' := (tk_H c3 q S)) (va_runS (As := [.int p0]) (rest := []) ⟨hx, hb, hml, hown, hts⟩ (c_X6_isCard l G c3 (tk_H c3 q S) p0 r1 h2 H.size) (va_cwS 1 hts gX6_play_X6_isCard rfl rfl rfl hs_X6_isCard ⟨Nat.le_of_ble_eq_true rfl, Nat.le_of_ble_eq_true rfl⟩) (tk_pS hE hP hD) rfl rfl hl.1 rfl (lv_room (Nat.le_of_ble_eq_true rfl)) dX6_play_1 ⟨Nat.zero_le _, Nat.zero_le _⟩) hD hS hA (fun H locs hP hD hS => ?_)
  refine lv_if_ne (tgt := 17) hx hb dX6_play_4 (by decide) (fun h4 => ?_) (fun h4 => ?_)
  · have hf := tk_neg hf h4
    refine lv_aload_n hx hb dX6_play_17 rfl (lv_at hl 0 rfl) ?_
    obtain ⟨r5, h6, hf⟩ := tk_b1s hf
    refine tk_cl (ws' := (tk_H c3 q S)) (va_runV (As := []) (rest := []) ⟨hx, hb, hml, hown, hts⟩ (c_X6_playableNow l G c3 q S r5 h6 H.size) (cwV 0 hts gX6_play_X6_playableNow rfl rfl rfl hv_X6_playableNow ⟨Nat.le_of_ble_eq_true rfl, Nat.le_of_ble_eq_true rfl⟩) (tk_pV hE hP hD 0 rfl rfl) rfl rfl hl.1 rfl (lv_room (Nat.le_of_ble_eq_true rfl)) dX6_play_18 ⟨Nat.zero_le _, Nat.zero_le _⟩) hD hS hA (fun H locs hP hD hS => ?_)
    refine lv_iload_n hx hb dX6_play_21 rfl (lv_at hl 1 rfl) ?_
    obtain ⟨r8, h9, hf⟩ := tk_b1s hf
    refine tk_ci (ws' := (tk_H c3 q S)) (va_runS (As := [.long r5, .int p0]) (rest := []) ⟨hx, hb, hml, hown, hts⟩ (c_X6_holds l G c3 (tk_H c3 q S) r5 p0 r8 h9 H.size) (va_cwS 2 hts gX6_play_X6_holds rfl rfl rfl hs_X6_holds ⟨Nat.le_of_ble_eq_true rfl, Nat.le_of_ble_eq_true rfl⟩) (tk_pS hE hP hD) rfl rfl hl.1 rfl (lv_room (Nat.le_of_ble_eq_true rfl)) dX6_play_22 ⟨Nat.zero_le _, Nat.zero_le _⟩) hD hS hA (fun H locs hP hD hS => ?_)
    refine lv_if_ne (tgt := 38) hx hb dX6_play_25 (by decide) (fun h11 => ?_) (fun h11 => ?_)
    · have hf := tk_neg hf h11
      refine lv_aload_n hx hb dX6_play_38 rfl (lv_at hl 0 rfl) ?_
      refine lv_iload_n hx hb dX6_play_39 rfl (lv_at hl 1 rfl) ?_
      obtain ⟨r12, S14, h13, hf⟩ := tk_b2s hf
      refine tk_ci (ws' := (tk_H c3 q S14)) (va_runV (As := [.int p0]) (rest := []) ⟨hx, hb, hml, hown, hts⟩ (c_X6_addToTrick l G c3 q S p0 r12 S14 h13 H.size) (cwV 1 hts gX6_play_X6_addToTrick rfl rfl rfl hv_X6_addToTrick ⟨Nat.le_of_ble_eq_true rfl, Nat.le_of_ble_eq_true rfl⟩) (tk_pV hE hP hD 0 rfl rfl) rfl rfl hl.1 rfl (lv_room (Nat.le_of_ble_eq_true rfl)) dX6_play_40 ⟨Nat.zero_le _, Nat.zero_le _⟩) hD hS hA (fun H locs hP hD hS => ?_)
      exact tk_xri hQ (tk_s3 hf).1 (tk_s3 hf).2.1 (congrArg (tk_H c3 q) (tk_s3 hf).2.2) hx hb hr hlocks hP hD hS dX6_play_43
    · have hf := tk_pos hf h11
      exact tk_throw (G := G) (c3 := c3) (cls := "java/lang/IllegalStateException") (text := "the card cannot be played now") (ik := 79) (is := 226) (ic := 83) hQ (tk_s3 hf).1 (by decide) ex_2 (congrArg (tk_H c3 q) (tk_s3 hf).2.2) hlst hx hb hown ft_2 (hts _ m_X6_play_cl79) (hts _ m_X6_play_ie2) hE st_226 (fun w h => hts w (h_X6_play_x83 w h)) ng_83 hE.2.1.2.2.2.2.2.2.2.2.2.2.2.1 gd_83 hZ.1 hP hD hS (hl.1.trans hml.symm) dX6_play_28 dX6_play_31 dX6_play_32 dX6_play_34 dX6_play_37 hZ.2 (Nat.le_of_ble_eq_true rfl) (Nat.le_of_ble_eq_true rfl) (Nat.le_of_ble_eq_true rfl) (Nat.le_of_ble_eq_true rfl) hlocks
  · have hf := tk_pos hf h4
    exact tk_throw (G := G) (c3 := c3) (cls := "java/lang/IndexOutOfBoundsException") (text := "no such card") (ik := 126) (is := 175) (ic := 130) hQ (tk_s3 hf).1 (by decide) ex_3 (congrArg (tk_H c3 q) (tk_s3 hf).2.2) hlst hx hb hown ft_3 (hts _ m_X6_play_cl126) (hts _ m_X6_play_ie3) hE st_175 (fun w h => hts w (h_X6_play_x130 w h)) ng_130 hE.2.1.2.2.2.2.2.2.2.2.2.2.2.2.1 gd_130 hZ.1 hP hD hS (hl.1.trans hml.symm) dX6_play_7 dX6_play_10 dX6_play_11 dX6_play_13 dX6_play_16 hZ.2 (Nat.le_of_ble_eq_true rfl) (Nat.le_of_ble_eq_true rfl) (Nat.le_of_ble_eq_true rfl) (Nat.le_of_ble_eq_true rfl) hlocks
abbrev rm_X6_lowestOf : Room := { frames := 1, cells := 0, slots := 0, locals := 22 }
set_option maxHeartbeats 4000000 in
set_option maxRecDepth 100000 in
theorem c_X6_lowestOf (l : Launch) (G : va_G) (c3 : ClassId × ClassId × ClassId) (ws : va_W) (p0 : Int64) (r0 : Int32) (hf : f_X6_lowestOf p0 = some r0) : tk_Mi l yX6_lowestOf wsX6_lowestOf rm_X6_lowestOf G c3 [.long p0] ws ws r0 := by
  refine tk_ofi (cc := cX6_lowestOf) (maxL := 3) (ret := some .int) (by decide) rfl (Nat.le_of_ble_eq_true rfl) ?_
  intro p e s m below meth c A Q ls H locs hx hb hml hr hts hown hlocks hE hA hP hD hS hZ hQ hl
  have hl : lv_has ls 3 [(0, .long p0)] := hl
  have hown : s.vm.findClass RX6 = some m.cls := hown
  have J_2 : ∀ (n_2 : Nat), ∀ (x0_2 : Int64) (x2_2 : Int32) (H : Heap) (locs : List Loc) (_ : va_P G vwCl ws H) (_ : va_D A ws) (_ : va_S A s.heap H locs) (ls : Array Slot) (_ : lv_has ls 3 [(0, .long x0_2), (2, .int x2_2)]) (_ : f_X6_lowestOf_2 n_2 x0_2 x2_2 = some r0), W p l e rm_X6_lowestOf s m ([.long p0] : List Value).toArray below meth c H locs 0 0 Q (F0 m 2 ls []) := by
    intro n_2
    induction n_2 with
    | zero =>
      intro x0_2 x2_2 H locs hP hD hS ls hl hf
      exact absurd hf (by intro h9; cases h9)
    | succ n_2 ih_2 =>
      intro x0_2 x2_2 H locs hP hD hS ls hl hf
      rw [f_X6_lowestOf_2_s] at hf
      refine lv_iload_n hx hb dX6_lowestOf_2 rfl (lv_at hl 1 rfl) ?_
      refine lv_bipush (v := 54) hx hb dX6_lowestOf_3 (by decide) ?_
      refine lv_icmp_ge (tgt := 24) hx hb dX6_lowestOf_5 (by decide) (fun h1 => ?_) (fun h1 => ?_)
      · have hf := tk_pos hf h1
        refine lv_iconst (v := -1) hx hb dX6_lowestOf_24 (by decide) ?_
        exact tk_ri hQ (tk_s1 hf) rfl hx hb hr hlocks hP hD hS dX6_lowestOf_25
      · have hf := tk_neg hf h1
        refine lv_lload_n hx hb dX6_lowestOf_8 rfl (lv_at hl 0 rfl) ?_
        refine lv_iload_n hx hb dX6_lowestOf_9 rfl (lv_at hl 1 rfl) ?_
        obtain ⟨r2, h3, hf⟩ := tk_b1s hf
        refine tk_ci (ws' := ws) (va_runS (As := [.long x0_2, .int x2_2]) (rest := []) ⟨hx, hb, hml, hown, hts⟩ (c_X6_holds l G c3 ws x0_2 x2_2 r2 h3 H.size) (va_cwS 2 hts gX6_lowestOf_X6_holds rfl rfl rfl hs_X6_holds ⟨Nat.le_of_ble_eq_true rfl, Nat.le_of_ble_eq_true rfl⟩) (tk_pS hE hP hD) rfl rfl hl.1 rfl (lv_room (Nat.le_of_ble_eq_true rfl)) dX6_lowestOf_10 ⟨Nat.zero_le _, Nat.zero_le _⟩) hD hS hA (fun H locs hP hD hS => ?_)
        refine lv_if_eq (tgt := 18) hx hb dX6_lowestOf_13 (by decide) (fun h5 => ?_) (fun h5 => ?_)
        · have hf := tk_pos hf h5
          refine lv_iinc (v := (x2_2 + (1 : Int32))) (lv' := [(2, .int (x2_2 + (1 : Int32))), (0, .long x0_2)]) hx hb dX6_lowestOf_18 hl (k := 1) rfl rfl (by decide) rfl (fun ls hl => ?_)
          refine lv_goto (tgt := 2) hx hb dX6_lowestOf_21 (by decide) ?_
          exact ih_2 x0_2 (x2_2 + (1 : Int32)) H locs hP hD hS ls (lv_sub hl [1, 0] rfl) hf
        · have hf := tk_neg hf h5
          refine lv_iload_n hx hb dX6_lowestOf_16 rfl (lv_at hl 1 rfl) ?_
          exact tk_ri hQ (tk_s1 hf) rfl hx hb hr hlocks hP hD hS dX6_lowestOf_17
  unfold f_X6_lowestOf at hf
  refine lv_iconst (v := 0) hx hb dX6_lowestOf_0 (by decide) ?_
  refine lv_istore_n (lv' := [(2, .int (0 : Int32)), (0, .long p0)]) hx hb dX6_lowestOf_1 rfl hl (by decide) rfl (fun ls hl => ?_)
  exact J_2 64 p0 (0 : Int32) H locs hP hD hS ls (lv_sub hl [1, 0] rfl) hf
abbrev rm_X6_playLowest : Room := { frames := 6, cells := 1, slots := 6, locals := 136 }
set_option maxHeartbeats 4000000 in
set_option maxRecDepth 100000 in
theorem c_X6_playLowest (l : Launch) (hlst : l.stackTraces = false) (G : va_G) (c3 : ClassId × ClassId × ClassId) (q : Nat → Nat) (S : tk_ST) (p0 : Int32) (k0 : Int32) (r0 : Int32) (S0 : tk_ST) (hf : f_X6_playLowest p0 S = some (k0, r0, S0)) : tk_Xi l yX6_playLowest wsX6_playLowest rm_X6_playLowest G c3 [.ref (q 0), .int p0] (tk_H c3 q S) (tk_H c3 q S0) k0 r0 := by
  refine tk_ofXi (cc := cX6_playLowest) (maxL := 4) (ret := some .int) (by decide) rfl (Nat.le_of_ble_eq_true rfl) ?_
  intro p e s m below meth c A Q ls H locs hx hb hml hr hts hown hlocks hE hA hP hD hS hZ hQ hl
  have hl : lv_has ls 4 [(0, .ref (q 0)), (1, .int p0)] := hl
  have hown : s.vm.findClass RX6 = some m.cls := hown
  have J_11 : ∀ (S_11 : tk_ST) (H : Heap) (locs : List Loc) (_ : va_P G vwCl (tk_H c3 q S_11) H) (_ : va_D A (tk_H c3 q S_11)) (_ : va_S A s.heap H locs) (ls : Array Slot) (_ : lv_has ls 4 []) (_ : f_X6_playLowest_11 S_11 = some (k0, r0, S0)), W p l e rm_X6_playLowest s m ([.ref (q 0), .int p0] : List Value).toArray below meth c H locs 0 0 Q (F0 m 11 ls []) := by
    intro S_11 H locs hP hD hS ls hl hf
    unfold f_X6_playLowest_11 at hf
    exact tk_throw (G := G) (c3 := c3) (cls := "java/lang/IllegalArgumentException") (text := "no such number of cards") (ik := 72) (is := 231) (ic := 76) hQ (tk_s3 hf).1 (by decide) ex_1 (congrArg (tk_H c3 q) (tk_s3 hf).2.2) hlst hx hb hown ft_1 (hts _ m_X6_playLowest_cl72) (hts _ m_X6_playLowest_ie1) hE st_231 (fun w h => hts w (h_X6_playLowest_x76 w h)) ng_76 hE.2.1.2.2.2.2.2.2.2.2.2.2.1 gd_76 hZ.1 hP hD hS (hl.1.trans hml.symm) dX6_playLowest_11 dX6_playLowest_14 dX6_playLowest_15 dX6_playLowest_17 dX6_playLowest_20 hZ.2 (Nat.le_of_ble_eq_true rfl) (Nat.le_of_ble_eq_true rfl) (Nat.le_of_ble_eq_true rfl) (Nat.le_of_ble_eq_true rfl) hlocks
  have J_43 : ∀ (n_43 : Nat), ∀ (x1_43 : Int32) (x2_43 : Int32) (x3_43 : Int32) (S_43 : tk_ST) (H : Heap) (locs : List Loc) (_ : va_P G vwCl (tk_H c3 q S_43) H) (_ : va_D A (tk_H c3 q S_43)) (_ : va_S A s.heap H locs) (ls : Array Slot) (_ : lv_has ls 4 [(0, .ref (q 0)), (1, .int x1_43), (2, .int x2_43), (3, .int x3_43)]) (_ : f_X6_playLowest_43 n_43 x1_43 x2_43 x3_43 S_43 = some (k0, r0, S0)), W p l e rm_X6_playLowest s m ([.ref (q 0), .int p0] : List Value).toArray below meth c H locs 0 0 Q (F0 m 43 ls []) := by
    intro n_43
    induction n_43 with
    | zero =>
      intro x1_43 x2_43 x3_43 S_43 H locs hP hD hS ls hl hf
      exact absurd hf (by intro h9; cases h9)
    | succ n_43 ih_43 =>
      intro x1_43 x2_43 x3_43 S_43 H locs hP hD hS ls hl hf
      rw [f_X6_playLowest_43_s] at hf
      refine lv_iload_n hx hb dX6_playLowest_43 rfl (lv_at hl 3 rfl) ?_
      refine lv_iload_n hx hb dX6_playLowest_44 rfl (lv_at hl 1 rfl) ?_
      refine lv_icmp_ge (tgt := 77) hx hb dX6_playLowest_45 (by decide) (fun h1 => ?_) (fun h1 => ?_)
      · have hf := tk_pos hf h1
        refine lv_iload_n hx hb dX6_playLowest_77 rfl (lv_at hl 2 rfl) ?_
        exact tk_xri hQ (tk_s3 hf).1 (tk_s3 hf).2.1 (congrArg (tk_H c3 q) (tk_s3 hf).2.2) hx hb hr hlocks hP hD hS dX6_playLowest_78
      · have hf := tk_neg hf h1
        refine lv_aload_n hx hb dX6_playLowest_48 rfl (lv_at hl 0 rfl) ?_
        refine va_get (D := G) (ci := 6) (v := .int (S_43.1 1)) (C := RX6) (T := TX6) (N := 18) hx hb hts i_X6_playLowest_X6 hown hE.1 hP 0 rfl rfl 7 (by decide) (hts _ m_X6_playLowest_f53) (fun _ h9 => h9) rfl dX6_playLowest_49 ?_
        refine lv_iconst (v := 5) hx hb dX6_playLowest_52 (by decide) ?_
        refine lv_icmp_ne (tgt := 77) hx hb dX6_playLowest_53 (by decide) (fun h2 => ?_) (fun h2 => ?_)
        · have hf := tk_neg hf h2
          refine lv_iload_n hx hb dX6_playLowest_77 rfl (lv_at hl 2 rfl) ?_
          exact tk_xri hQ (tk_s3 hf).1 (tk_s3 hf).2.1 (congrArg (tk_H c3 q) (tk_s3 hf).2.2) hx hb hr hlocks hP hD hS dX6_playLowest_78
        · have hf := tk_pos hf h2
          refine lv_aload_n hx hb dX6_playLowest_56 rfl (lv_at hl 0 rfl) ?_
          refine lv_aload_n hx hb dX6_playLowest_57 rfl (lv_at hl 0 rfl) ?_
          obtain ⟨r3, h4, hf⟩ := tk_b1s hf
          refine tk_cl (ws' := (tk_H c3 q S_43)) (va_runV (As := []) (rest := [.ref (q 0)]) ⟨hx, hb, hml, hown, hts⟩ (c_X6_playableNow l G c3 q S_43 r3 h4 H.size) (cwV 0 hts gX6_playLowest_X6_playableNow rfl rfl rfl hv_X6_playableNow ⟨Nat.le_of_ble_eq_true rfl, Nat.le_of_ble_eq_true rfl⟩) (tk_pV hE hP hD 0 rfl rfl) rfl rfl hl.1 rfl (lv_room (Nat.le_of_ble_eq_true rfl)) dX6_playLowest_58 ⟨Nat.zero_le _, Nat.zero_le _⟩) hD hS hA (fun H locs hP hD hS => ?_)
          obtain ⟨r6, h7, hf⟩ := tk_b1s hf
          refine tk_ci (ws' := (tk_H c3 q S_43)) (va_runS (As := [.long r3]) (rest := [.ref (q 0)]) ⟨hx, hb, hml, hown, hts⟩ (c_X6_lowestOf l G c3 (tk_H c3 q S_43) r3 r6 h7 H.size) (va_cwS 1 hts gX6_playLowest_X6_lowestOf rfl rfl rfl hs_X6_lowestOf ⟨Nat.le_of_ble_eq_true rfl, Nat.le_of_ble_eq_true rfl⟩) (tk_pS hE hP hD) rfl rfl hl.1 rfl (lv_room (Nat.le_of_ble_eq_true rfl)) dX6_playLowest_61 ⟨Nat.zero_le _, Nat.zero_le _⟩) hD hS hA (fun H locs hP hD hS => ?_)
          obtain ⟨r9, S11, h10, hf⟩ := tk_b2s hf
          refine tk_ci (ws' := (tk_H c3 q S11)) (va_runV (As := [.int r6]) (rest := []) ⟨hx, hb, hml, hown, hts⟩ (c_X6_addToTrick l G c3 q S_43 r6 r9 S11 h10 H.size) (cwV 1 hts gX6_playLowest_X6_addToTrick rfl rfl rfl hv_X6_addToTrick ⟨Nat.le_of_ble_eq_true rfl, Nat.le_of_ble_eq_true rfl⟩) (tk_pV hE hP hD 0 rfl rfl) rfl rfl hl.1 rfl (lv_room (Nat.le_of_ble_eq_true rfl)) dX6_playLowest_64 ⟨Nat.zero_le _, Nat.zero_le _⟩) hD hS hA (fun H locs hP hD hS => ?_)
          refine lv_pop hx hb dX6_playLowest_67 rfl ?_
          refine lv_iinc (v := (x2_43 + (1 : Int32))) (lv' := [(2, .int (x2_43 + (1 : Int32))), (0, .ref (q 0)), (1, .int x1_43), (3, .int x3_43)]) hx hb dX6_playLowest_68 hl (k := 2) rfl rfl (by decide) rfl (fun ls hl => ?_)
          refine lv_iinc (v := (x3_43 + (1 : Int32))) (lv' := [(3, .int (x3_43 + (1 : Int32))), (2, .int (x2_43 + (1 : Int32))), (0, .ref (q 0)), (1, .int x1_43)]) hx hb dX6_playLowest_71 hl (k := 3) rfl rfl (by decide) rfl (fun ls hl => ?_)
          refine lv_goto (tgt := 43) hx hb dX6_playLowest_74 (by decide) ?_
          exact ih_43 x1_43 (x2_43 + (1 : Int32)) (x3_43 + (1 : Int32)) S11 H locs hP hD hS ls (lv_sub hl [2, 3, 1, 0] rfl) hf
  unfold f_X6_playLowest at hf
  refine lv_iload_n hx hb dX6_playLowest_0 rfl (lv_at hl 1 rfl) ?_
  refine lv_iconst (v := 1) hx hb dX6_playLowest_1 (by decide) ?_
  refine lv_icmp_lt (tgt := 11) hx hb dX6_playLowest_2 (by decide) (fun h12 => ?_) (fun h12 => ?_)
  · have hf := tk_pos hf h12
    exact J_11 S H locs hP hD hS ls (lv_sub hl [] rfl) hf
  · have hf := tk_neg hf h12
    refine lv_iload_n hx hb dX6_playLowest_5 rfl (lv_at hl 1 rfl) ?_
    refine lv_bipush (v := 48) hx hb dX6_playLowest_6 (by decide) ?_
    refine lv_icmp_le (tgt := 21) hx hb dX6_playLowest_8 (by decide) (fun h13 => ?_) (fun h13 => ?_)
    · have hf := tk_pos hf h13
      refine lv_aload_n hx hb dX6_playLowest_21 rfl (lv_at hl 0 rfl) ?_
      refine va_get (D := G) (ci := 6) (v := .int (S.1 1)) (C := RX6) (T := TX6) (N := 18) hx hb hts i_X6_playLowest_X6 hown hE.1 hP 0 rfl rfl 7 (by decide) (hts _ m_X6_playLowest_f53) (fun _ h9 => h9) rfl dX6_playLowest_22 ?_
      refine lv_iconst (v := 5) hx hb dX6_playLowest_25 (by decide) ?_
      refine lv_icmp_eq (tgt := 39) hx hb dX6_playLowest_26 (by decide) (fun h14 => ?_) (fun h14 => ?_)
      · have hf := tk_pos hf h14
        refine lv_iconst (v := 0) hx hb dX6_playLowest_39 (by decide) ?_
        refine lv_istore_n (lv' := [(2, .int (0 : Int32)), (0, .ref (q 0)), (1, .int p0)]) hx hb dX6_playLowest_40 rfl hl (by decide) rfl (fun ls hl => ?_)
        refine lv_iconst (v := 0) hx hb dX6_playLowest_41 (by decide) ?_
        refine lv_istore_n (lv' := [(3, .int (0 : Int32)), (2, .int (0 : Int32)), (0, .ref (q 0)), (1, .int p0)]) hx hb dX6_playLowest_42 rfl hl (by decide) rfl (fun ls hl => ?_)
        exact J_43 64 p0 (0 : Int32) (0 : Int32) S H locs hP hD hS ls (lv_sub hl [2, 3, 1, 0] rfl) hf
      · have hf := tk_neg hf h14
        exact tk_throw (G := G) (c3 := c3) (cls := "java/lang/IllegalStateException") (text := "nobody plays now") (ik := 79) (is := 233) (ic := 83) hQ (tk_s3 hf).1 (by decide) ex_2 (congrArg (tk_H c3 q) (tk_s3 hf).2.2) hlst hx hb hown ft_2 (hts _ m_X6_playLowest_cl79) (hts _ m_X6_playLowest_ie2) hE st_233 (fun w h => hts w (h_X6_playLowest_x83 w h)) ng_83 hE.2.1.2.2.2.2.2.2.2.2.2.2.2.1 gd_83 hZ.1 hP hD hS (hl.1.trans hml.symm) dX6_playLowest_29 dX6_playLowest_32 dX6_playLowest_33 dX6_playLowest_35 dX6_playLowest_38 hZ.2 (Nat.le_of_ble_eq_true rfl) (Nat.le_of_ble_eq_true rfl) (Nat.le_of_ble_eq_true rfl) (Nat.le_of_ble_eq_true rfl) hlocks
    · have hf := tk_neg hf h13
      exact J_11 S H locs hP hD hS ls (lv_sub hl [] rfl) hf
abbrev rm_X6_phase : Room := { frames := 0, cells := 0, slots := 0, locals := 0 }
set_option maxHeartbeats 4000000 in
set_option maxRecDepth 100000 in
theorem c_X6_phase (l : Launch) (G : va_G) (c3 : ClassId × ClassId × ClassId) (q : Nat → Nat) (S : tk_ST) (r0 : Int32) (hf : f_X6_phase S = some r0) : tk_Mi l yX6_phase wsX6_phase rm_X6_phase G c3 [.ref (q 0)] (tk_H c3 q S) (tk_H c3 q S) r0 := by
  refine tk_ofi (cc := cX6_phase) (maxL := 1) (ret := some .int) (by decide) rfl (Nat.le_of_ble_eq_true rfl) ?_
  intro p e s m below meth c A Q ls H locs hx hb hml hr hts hown hlocks hE hA hP hD hS hZ hQ hl
  have hl : lv_has ls 1 [(0, .ref (q 0))] := hl
  have hown : s.vm.findClass RX6 = some m.cls := hown
  unfold f_X6_phase at hf
  refine lv_aload_n hx hb dX6_phase_0 rfl (lv_at hl 0 rfl) ?_
  refine va_get (D := G) (ci := 6) (v := .int (S.1 1)) (C := RX6) (T := TX6) (N := 18) hx hb hts i_X6_phase_X6 hown hE.1 hP 0 rfl rfl 7 (by decide) (hts _ m_X6_phase_f53) (fun _ h9 => h9) rfl dX6_phase_1 ?_
  exact tk_ri hQ (tk_s1 hf) rfl hx hb hr hlocks hP hD hS dX6_phase_4
abbrev rm_X6_turn : Room := { frames := 0, cells := 0, slots := 0, locals := 0 }
set_option maxHeartbeats 4000000 in
set_option maxRecDepth 100000 in
theorem c_X6_turn (l : Launch) (G : va_G) (c3 : ClassId × ClassId × ClassId) (q : Nat → Nat) (S : tk_ST) (r0 : Int32) (hf : f_X6_turn S = some r0) : tk_Mi l yX6_turn wsX6_turn rm_X6_turn G c3 [.ref (q 0)] (tk_H c3 q S) (tk_H c3 q S) r0 := by
  refine tk_ofi (cc := cX6_turn) (maxL := 1) (ret := some .int) (by decide) rfl (Nat.le_of_ble_eq_true rfl) ?_
  intro p e s m below meth c A Q ls H locs hx hb hml hr hts hown hlocks hE hA hP hD hS hZ hQ hl
  have hl : lv_has ls 1 [(0, .ref (q 0))] := hl
  have hown : s.vm.findClass RX6 = some m.cls := hown
  unfold f_X6_turn at hf
  refine lv_aload_n hx hb dX6_turn_0 rfl (lv_at hl 0 rfl) ?_
  refine va_get (D := G) (ci := 6) (v := .int (S.1 2)) (C := RX6) (T := TX6) (N := 18) hx hb hts i_X6_turn_X6 hown hE.1 hP 0 rfl rfl 8 (by decide) (hts _ m_X6_turn_f56) (fun _ h9 => h9) rfl dX6_turn_1 ?_
  exact tk_ri hQ (tk_s1 hf) rfl hx hb hr hlocks hP hD hS dX6_turn_4
abbrev rm_X6_declarer : Room := { frames := 0, cells := 0, slots := 0, locals := 0 }
set_option maxHeartbeats 4000000 in
set_option maxRecDepth 100000 in
theorem c_X6_declarer (l : Launch) (G : va_G) (c3 : ClassId × ClassId × ClassId) (q : Nat → Nat) (S : tk_ST) (r0 : Int32) (hf : f_X6_declarer S = some r0) : tk_Mi l yX6_declarer wsX6_declarer rm_X6_declarer G c3 [.ref (q 0)] (tk_H c3 q S) (tk_H c3 q S) r0 := by
  refine tk_ofi (cc := cX6_declarer) (maxL := 1) (ret := some .int) (by decide) rfl (Nat.le_of_ble_eq_true rfl) ?_
  intro p e s m below meth c A Q ls H locs hx hb hml hr hts hown hlocks hE hA hP hD hS hZ hQ hl
  have hl : lv_has ls 1 [(0, .ref (q 0))] := hl
  have hown : s.vm.findClass RX6 = some m.cls := hown
  unfold f_X6_declarer at hf
  refine lv_aload_n hx hb dX6_declarer_0 rfl (lv_at hl 0 rfl) ?_
  refine va_get (D := G) (ci := 6) (v := .int (S.1 3)) (C := RX6) (T := TX6) (N := 18) hx hb hts i_X6_declarer_X6 hown hE.1 hP 0 rfl rfl 9 (by decide) (hts _ m_X6_declarer_f59) (fun _ h9 => h9) rfl dX6_declarer_1 ?_
  exact tk_ri hQ (tk_s1 hf) rfl hx hb hr hlocks hP hD hS dX6_declarer_4
abbrev rm_X6_level : Room := { frames := 0, cells := 0, slots := 0, locals := 0 }
set_option maxHeartbeats 4000000 in
set_option maxRecDepth 100000 in
theorem c_X6_level (l : Launch) (G : va_G) (c3 : ClassId × ClassId × ClassId) (q : Nat → Nat) (S : tk_ST) (r0 : Int32) (hf : f_X6_level S = some r0) : tk_Mi l yX6_level wsX6_level rm_X6_level G c3 [.ref (q 0)] (tk_H c3 q S) (tk_H c3 q S) r0 := by
  refine tk_ofi (cc := cX6_level) (maxL := 1) (ret := some .int) (by decide) rfl (Nat.le_of_ble_eq_true rfl) ?_
  intro p e s m below meth c A Q ls H locs hx hb hml hr hts hown hlocks hE hA hP hD hS hZ hQ hl
  have hl : lv_has ls 1 [(0, .ref (q 0))] := hl
  have hown : s.vm.findClass RX6 = some m.cls := hown
  unfold f_X6_level at hf
  refine lv_aload_n hx hb dX6_level_0 rfl (lv_at hl 0 rfl) ?_
  refine va_get (D := G) (ci := 6) (v := .ref (q 4)) (C := RX6) (T := TX6) (N := 18) hx hb hts i_X6_level_X6 hown hE.1 hP 0 rfl rfl 1 (by decide) (hts _ m_X6_level_f19) (fun _ h9 => h9) rfl dX6_level_1 ?_
  refine va_getN (D := G) (ci := 0) (v := .int (S.1 11)) (C := RX0) (T := TX0) (N := 3) hx hb hts i_X6_level_X0 hown hE.1 hP 4 rfl rfl 1 (by decide) (va_Nw.use rfl hE.2.1.1) (fun _ h9 => h9) rfl dX6_level_4 ?_
  exact tk_ri hQ (tk_s1 hf) rfl hx hb hr hlocks hP hD hS dX6_level_7
abbrev rm_X6_called : Room := { frames := 0, cells := 0, slots := 0, locals := 0 }
set_option maxHeartbeats 4000000 in
set_option maxRecDepth 100000 in
theorem c_X6_called (l : Launch) (G : va_G) (c3 : ClassId × ClassId × ClassId) (q : Nat → Nat) (S : tk_ST) (r0 : Int32) (hf : f_X6_called S = some r0) : tk_Mi l yX6_called wsX6_called rm_X6_called G c3 [.ref (q 0)] (tk_H c3 q S) (tk_H c3 q S) r0 := by
  refine tk_ofi (cc := cX6_called) (maxL := 1) (ret := some .int) (by decide) rfl (Nat.le_of_ble_eq_true rfl) ?_
  intro p e s m below meth c A Q ls H locs hx hb hml hr hts hown hlocks hE hA hP hD hS hZ hQ hl
  have hl : lv_has ls 1 [(0, .ref (q 0))] := hl
  have hown : s.vm.findClass RX6 = some m.cls := hown
  unfold f_X6_called at hf
  refine lv_aload_n hx hb dX6_called_0 rfl (lv_at hl 0 rfl) ?_
  refine va_get (D := G) (ci := 6) (v := .int (S.1 4)) (C := RX6) (T := TX6) (N := 18) hx hb hts i_X6_called_X6 hown hE.1 hP 0 rfl rfl 10 (by decide) (hts _ m_X6_called_f62) (fun _ h9 => h9) rfl dX6_called_1 ?_
  exact tk_ri hQ (tk_s1 hf) rfl hx hb hr hlocks hP hD hS dX6_called_4
abbrev rm_X6_partner : Room := { frames := 0, cells := 0, slots := 0, locals := 0 }
set_option maxHeartbeats 4000000 in
set_option maxRecDepth 100000 in
theorem c_X6_partner (l : Launch) (G : va_G) (c3 : ClassId × ClassId × ClassId) (q : Nat → Nat) (S : tk_ST) (r0 : Int32) (hf : f_X6_partner S = some r0) : tk_Mi l yX6_partner wsX6_partner rm_X6_partner G c3 [.ref (q 0)] (tk_H c3 q S) (tk_H c3 q S) r0 := by
  refine tk_ofi (cc := cX6_partner) (maxL := 1) (ret := some .int) (by decide) rfl (Nat.le_of_ble_eq_true rfl) ?_
  intro p e s m below meth c A Q ls H locs hx hb hml hr hts hown hlocks hE hA hP hD hS hZ hQ hl
  have hl : lv_has ls 1 [(0, .ref (q 0))] := hl
  have hown : s.vm.findClass RX6 = some m.cls := hown
  unfold f_X6_partner at hf
  refine lv_aload_n hx hb dX6_partner_0 rfl (lv_at hl 0 rfl) ?_
  refine va_get (D := G) (ci := 6) (v := .int (S.1 6)) (C := RX6) (T := TX6) (N := 18) hx hb hts i_X6_partner_X6 hown hE.1 hP 0 rfl rfl 12 (by decide) (hts _ m_X6_partner_f68) (fun _ h9 => h9) rfl dX6_partner_1 ?_
  exact tk_ri hQ (tk_s1 hf) rfl hx hb hr hlocks hP hD hS dX6_partner_4
abbrev rm_X6_isPlayer : Room := { frames := 0, cells := 0, slots := 0, locals := 0 }
set_option maxHeartbeats 4000000 in
set_option maxRecDepth 100000 in
theorem c_X6_isPlayer (l : Launch) (G : va_G) (c3 : ClassId × ClassId × ClassId) (ws : va_W) (p0 : Int32) (r0 : Int32) (hf : f_X6_isPlayer p0 = some r0) : tk_Mi l yX6_isPlayer wsX6_isPlayer rm_X6_isPlayer G c3 [.int p0] ws ws r0 := by
  refine tk_ofi (cc := cX6_isPlayer) (maxL := 1) (ret := some .boolean) (by decide) rfl (Nat.le_of_ble_eq_true rfl) ?_
  intro p e s m below meth c A Q ls H locs hx hb hml hr hts hown hlocks hE hA hP hD hS hZ hQ hl
  have hl : lv_has ls 1 [(0, .int p0)] := hl
  have hown : s.vm.findClass RX6 = some m.cls := hown
  unfold f_X6_isPlayer at hf
  refine lv_iload_n hx hb dX6_isPlayer_0 rfl (lv_at hl 0 rfl) ?_
  refine lv_if_lt (tgt := 13) hx hb dX6_isPlayer_1 (by decide) (fun h1 => ?_) (fun h1 => ?_)
  · have hf := tk_pos hf h1
    refine lv_iconst (v := 0) hx hb dX6_isPlayer_13 (by decide) ?_
    exact tk_rz hQ (tk_s1 hf) rfl (by decide) hx hb hr hlocks hP hD hS dX6_isPlayer_14
  · have hf := tk_neg hf h1
    refine lv_iload_n hx hb dX6_isPlayer_4 rfl (lv_at hl 0 rfl) ?_
    refine lv_iconst (v := 4) hx hb dX6_isPlayer_5 (by decide) ?_
    refine lv_icmp_ge (tgt := 13) hx hb dX6_isPlayer_6 (by decide) (fun h2 => ?_) (fun h2 => ?_)
    · have hf := tk_pos hf h2
      refine lv_iconst (v := 0) hx hb dX6_isPlayer_13 (by decide) ?_
      exact tk_rz hQ (tk_s1 hf) rfl (by decide) hx hb hr hlocks hP hD hS dX6_isPlayer_14
    · have hf := tk_neg hf h2
      refine lv_iconst (v := 1) hx hb dX6_isPlayer_9 (by decide) ?_
      refine lv_goto (tgt := 14) hx hb dX6_isPlayer_10 (by decide) ?_
      exact tk_rz hQ (tk_s1 hf) rfl (by decide) hx hb hr hlocks hP hD hS dX6_isPlayer_14
abbrev rm_X6_hand : Room := { frames := 6, cells := 1, slots := 6, locals := 90 }
set_option maxHeartbeats 4000000 in
set_option maxRecDepth 100000 in
theorem c_X6_hand (l : Launch) (hlst : l.stackTraces = false) (G : va_G) (c3 : ClassId × ClassId × ClassId) (q : Nat → Nat) (S : tk_ST) (p0 : Int32) (k0 : Int32) (r0 : Int64) (hf : f_X6_hand p0 S = some (k0, r0)) : tk_Xl l yX6_hand wsX6_hand rm_X6_hand G c3 [.ref (q 0), .int p0] (tk_H c3 q S) (tk_H c3 q S) k0 r0 := by
  refine tk_ofXl (cc := cX6_hand) (maxL := 2) (ret := some .long) (by decide) rfl (Nat.le_of_ble_eq_true rfl) ?_
  intro p e s m below meth c A Q ls H locs hx hb hml hr hts hown hlocks hE hA hP hD hS hZ hQ hl
  have hl : lv_has ls 2 [(0, .ref (q 0)), (1, .int p0)] := hl
  have hown : s.vm.findClass RX6 = some m.cls := hown
  unfold f_X6_hand at hf
  refine lv_iload_n hx hb dX6_hand_0 rfl (lv_at hl 1 rfl) ?_
  obtain ⟨r1, h2, hf⟩ := tk_b1s hf
  refine tk_ci (ws' := (tk_H c3 q S)) (va_runS (As := [.int p0]) (rest := []) ⟨hx, hb, hml, hown, hts⟩ (c_X6_isPlayer l G c3 (tk_H c3 q S) p0 r1 h2 H.size) (va_cwS 1 hts gX6_hand_X6_isPlayer rfl rfl rfl hs_X6_isPlayer ⟨Nat.le_of_ble_eq_true rfl, Nat.le_of_ble_eq_true rfl⟩) (tk_pS hE hP hD) rfl rfl hl.1 rfl (lv_room (Nat.le_of_ble_eq_true rfl)) dX6_hand_1 ⟨Nat.zero_le _, Nat.zero_le _⟩) hD hS hA (fun H locs hP hD hS => ?_)
  refine lv_if_ne (tgt := 17) hx hb dX6_hand_4 (by decide) (fun h4 => ?_) (fun h4 => ?_)
  · have hf := tk_neg hf h4
    refine lv_aload_n hx hb dX6_hand_17 rfl (lv_at hl 0 rfl) ?_
    refine va_get (D := G) (ci := 6) (v := .ref (q 13)) (C := RX6) (T := TX6) (N := 18) hx hb hts i_X6_hand_X6 hown hE.1 hP 0 rfl rfl 4 (by decide) (hts _ m_X6_hand_f42) (fun _ h9 => h9) rfl dX6_hand_18 ?_
    refine lv_iload_n hx hb dX6_hand_21 rfl (lv_at hl 1 rfl) ?_
    obtain ⟨r5, h6, hf⟩ := tk_b1s hf
    refine tk_cl (ws' := (tk_H c3 q S)) (va_runV (As := [.int p0]) (rest := []) ⟨hx, hb, hml, hown, hts⟩ (c_X3_at_p13 l G c3 q S p0 r5 h6 H.size) (cwV 1 hts gX6_hand_X3_at rfl rfl rfl hv_X3_at ⟨Nat.le_of_ble_eq_true rfl, Nat.le_of_ble_eq_true rfl⟩) (tk_pV hE hP hD 13 rfl rfl) rfl rfl hl.1 rfl (lv_room (Nat.le_of_ble_eq_true rfl)) dX6_hand_22 ⟨Nat.zero_le _, Nat.zero_le _⟩) hD hS hA (fun H locs hP hD hS => ?_)
    exact tk_xrl hQ (tk_s2 hf).1 (tk_s2 hf).2 rfl hx hb hr hlocks hP hD hS dX6_hand_25
  · have hf := tk_pos hf h4
    exact tk_throw (G := G) (c3 := c3) (cls := "java/lang/IndexOutOfBoundsException") (text := "no such player") (ik := 126) (is := 242) (ic := 130) hQ (tk_s2 hf).1 (by decide) ex_3 rfl hlst hx hb hown ft_3 (hts _ m_X6_hand_cl126) (hts _ m_X6_hand_ie3) hE st_242 (fun w h => hts w (h_X6_hand_x130 w h)) ng_130 hE.2.1.2.2.2.2.2.2.2.2.2.2.2.2.1 gd_130 hZ.1 hP hD hS (hl.1.trans hml.symm) dX6_hand_7 dX6_hand_10 dX6_hand_11 dX6_hand_13 dX6_hand_16 hZ.2 (Nat.le_of_ble_eq_true rfl) (Nat.le_of_ble_eq_true rfl) (Nat.le_of_ble_eq_true rfl) (Nat.le_of_ble_eq_true rfl) hlocks
abbrev rm_X1_cardAt : Room := { frames := 1, cells := 0, slots := 0, locals := 21 }
set_option maxHeartbeats 4000000 in
set_option maxRecDepth 100000 in
theorem c_X1_cardAt (l : Launch) (G : va_G) (c3 : ClassId × ClassId × ClassId) (q : Nat → Nat) (S : tk_ST) (p0 : Int32) (r0 : Int32) (hf : f_X1_cardAt p0 S = some r0) : tk_Mi l yX1_cardAt wsX1_cardAt rm_X1_cardAt G c3 [.ref (q 1), .int p0] (tk_H c3 q S) (tk_H c3 q S) r0 := by
  refine tk_ofi (cc := cX1_cardAt) (maxL := 2) (ret := some .int) (by decide) rfl (Nat.le_of_ble_eq_true rfl) ?_
  intro p e s m below meth c A Q ls H locs hx hb hml hr hts hown hlocks hE hA hP hD hS hZ hQ hl
  have hl : lv_has ls 2 [(0, .ref (q 1)), (1, .int p0)] := hl
  have hown : s.vm.findClass RX1 = some m.cls := hown
  unfold f_X1_cardAt at hf
  refine lv_aload_n hx hb dX1_cardAt_0 rfl (lv_at hl 0 rfl) ?_
  refine va_get (D := G) (ci := 1) (v := .ref (q 2)) (C := RX1) (T := TX1) (N := 1) hx hb hts i_X1_cardAt_X1 hown hE.1 hP 1 rfl rfl 0 (by decide) (hts _ m_X1_cardAt_f14) (fun _ h9 => h9) rfl dX1_cardAt_1 ?_
  refine lv_iload_n hx hb dX1_cardAt_4 rfl (lv_at hl 1 rfl) ?_
  obtain ⟨r1, h2, hf⟩ := tk_b1s hf
  refine tk_ci (ws' := (tk_H c3 q S)) (va_runV (As := [.int p0]) (rest := []) ⟨hx, hb, hml, hown, hts⟩ (c_X2_at_p2 l G c3 q S p0 r1 h2 H.size) (cwV 1 hts gX1_cardAt_X2_at rfl rfl rfl hv_X2_at ⟨Nat.le_of_ble_eq_true rfl, Nat.le_of_ble_eq_true rfl⟩) (tk_pV hE hP hD 2 rfl rfl) rfl rfl hl.1 rfl (lv_room (Nat.le_of_ble_eq_true rfl)) dX1_cardAt_5 ⟨Nat.zero_le _, Nat.zero_le _⟩) hD hS hA (fun H locs hP hD hS => ?_)
  exact tk_ri hQ (tk_s1 hf) rfl hx hb hr hlocks hP hD hS dX1_cardAt_8
abbrev rm_X6_talonAt : Room := { frames := 6, cells := 1, slots := 6, locals := 90 }
set_option maxHeartbeats 4000000 in
set_option maxRecDepth 100000 in
theorem c_X6_talonAt (l : Launch) (hlst : l.stackTraces = false) (G : va_G) (c3 : ClassId × ClassId × ClassId) (q : Nat → Nat) (S : tk_ST) (p0 : Int32) (k0 : Int32) (r0 : Int32) (hf : f_X6_talonAt p0 S = some (k0, r0)) : tk_Xi l yX6_talonAt wsX6_talonAt rm_X6_talonAt G c3 [.ref (q 0), .int p0] (tk_H c3 q S) (tk_H c3 q S) k0 r0 := by
  refine tk_ofXi (cc := cX6_talonAt) (maxL := 2) (ret := some .int) (by decide) rfl (Nat.le_of_ble_eq_true rfl) ?_
  intro p e s m below meth c A Q ls H locs hx hb hml hr hts hown hlocks hE hA hP hD hS hZ hQ hl
  have hl : lv_has ls 2 [(0, .ref (q 0)), (1, .int p0)] := hl
  have hown : s.vm.findClass RX6 = some m.cls := hown
  have J_10 : ∀ (H : Heap) (locs : List Loc) (_ : va_P G vwCl (tk_H c3 q S) H) (_ : va_D A (tk_H c3 q S)) (_ : va_S A s.heap H locs) (ls : Array Slot) (_ : lv_has ls 2 []) (_ : f_X6_talonAt_10 S = some (k0, r0)), W p l e rm_X6_talonAt s m ([.ref (q 0), .int p0] : List Value).toArray below meth c H locs 0 0 Q (F0 m 10 ls []) := by
    intro  H locs hP hD hS ls hl hf
    unfold f_X6_talonAt_10 at hf
    exact tk_throw (G := G) (c3 := c3) (cls := "java/lang/IndexOutOfBoundsException") (text := "no such place in the talon") (ik := 126) (is := 244) (ic := 130) hQ (tk_s2 hf).1 (by decide) ex_3 rfl hlst hx hb hown ft_3 (hts _ m_X6_talonAt_cl126) (hts _ m_X6_talonAt_ie3) hE st_244 (fun w h => hts w (h_X6_talonAt_x130 w h)) ng_130 hE.2.1.2.2.2.2.2.2.2.2.2.2.2.2.1 gd_130 hZ.1 hP hD hS (hl.1.trans hml.symm) dX6_talonAt_10 dX6_talonAt_13 dX6_talonAt_14 dX6_talonAt_16 dX6_talonAt_19 hZ.2 (Nat.le_of_ble_eq_true rfl) (Nat.le_of_ble_eq_true rfl) (Nat.le_of_ble_eq_true rfl) (Nat.le_of_ble_eq_true rfl) hlocks
  unfold f_X6_talonAt at hf
  refine lv_iload_n hx hb dX6_talonAt_0 rfl (lv_at hl 1 rfl) ?_
  refine lv_if_lt (tgt := 10) hx hb dX6_talonAt_1 (by decide) (fun h1 => ?_) (fun h1 => ?_)
  · have hf := tk_pos hf h1
    exact J_10 H locs hP hD hS ls (lv_sub hl [] rfl) hf
  · have hf := tk_neg hf h1
    refine lv_iload_n hx hb dX6_talonAt_4 rfl (lv_at hl 1 rfl) ?_
    refine lv_bipush (v := 6) hx hb dX6_talonAt_5 (by decide) ?_
    refine lv_icmp_lt (tgt := 20) hx hb dX6_talonAt_7 (by decide) (fun h2 => ?_) (fun h2 => ?_)
    · have hf := tk_pos hf h2
      refine lv_aload_n hx hb dX6_talonAt_20 rfl (lv_at hl 0 rfl) ?_
      refine va_get (D := G) (ci := 6) (v := .int (S.1 0)) (C := RX6) (T := TX6) (N := 18) hx hb hts i_X6_talonAt_X6 hown hE.1 hP 0 rfl rfl 6 (by decide) (hts _ m_X6_talonAt_f49) (fun _ h9 => h9) rfl dX6_talonAt_21 ?_
      refine lv_iconst (v := -1) hx hb dX6_talonAt_24 (by decide) ?_
      refine lv_icmp_ne (tgt := 38) hx hb dX6_talonAt_25 (by decide) (fun h3 => ?_) (fun h3 => ?_)
      · have hf := tk_neg hf h3
        refine lv_aload_n hx hb dX6_talonAt_38 rfl (lv_at hl 0 rfl) ?_
        refine va_get (D := G) (ci := 6) (v := .ref (q 1)) (C := RX6) (T := TX6) (N := 18) hx hb hts i_X6_talonAt_X6 hown hE.1 hP 0 rfl rfl 0 (by decide) (hts _ m_X6_talonAt_f12) (fun _ h9 => h9) rfl dX6_talonAt_39 ?_
        refine lv_bipush (v := 48) hx hb dX6_talonAt_42 (by decide) ?_
        refine lv_iload_n hx hb dX6_talonAt_44 rfl (lv_at hl 1 rfl) ?_
        refine lv_iadd hx hb dX6_talonAt_45 ?_
        obtain ⟨r4, h5, hf⟩ := tk_b1s hf
        refine tk_ci (ws' := (tk_H c3 q S)) (va_runV (As := [.int ((48 : Int32) + p0)]) (rest := []) ⟨hx, hb, hml, hown, hts⟩ (c_X1_cardAt l G c3 q S ((48 : Int32) + p0) r4 h5 H.size) (cwV 1 hts gX6_talonAt_X1_cardAt rfl rfl rfl hv_X1_cardAt ⟨Nat.le_of_ble_eq_true rfl, Nat.le_of_ble_eq_true rfl⟩) (tk_pV hE hP hD 1 rfl rfl) rfl rfl hl.1 rfl (lv_room (Nat.le_of_ble_eq_true rfl)) dX6_talonAt_46 ⟨Nat.zero_le _, Nat.zero_le _⟩) hD hS hA (fun H locs hP hD hS => ?_)
        exact tk_xri hQ (tk_s2 hf).1 (tk_s2 hf).2 rfl hx hb hr hlocks hP hD hS dX6_talonAt_49
      · have hf := tk_pos hf h3
        exact tk_throw (G := G) (c3 := c3) (cls := "java/lang/IllegalStateException") (text := "there was no deal") (ik := 79) (is := 246) (ic := 83) hQ (tk_s2 hf).1 (by decide) ex_2 rfl hlst hx hb hown ft_2 (hts _ m_X6_talonAt_cl79) (hts _ m_X6_talonAt_ie2) hE st_246 (fun w h => hts w (h_X6_talonAt_x83 w h)) ng_83 hE.2.1.2.2.2.2.2.2.2.2.2.2.2.1 gd_83 hZ.1 hP hD hS (hl.1.trans hml.symm) dX6_talonAt_28 dX6_talonAt_31 dX6_talonAt_32 dX6_talonAt_34 dX6_talonAt_37 hZ.2 (Nat.le_of_ble_eq_true rfl) (Nat.le_of_ble_eq_true rfl) (Nat.le_of_ble_eq_true rfl) (Nat.le_of_ble_eq_true rfl) hlocks
    · have hf := tk_neg hf h2
      exact J_10 H locs hP hD hS ls (lv_sub hl [] rfl) hf
abbrev rm_X6_inTrick : Room := { frames := 0, cells := 0, slots := 0, locals := 0 }
set_option maxHeartbeats 4000000 in
set_option maxRecDepth 100000 in
theorem c_X6_inTrick (l : Launch) (G : va_G) (c3 : ClassId × ClassId × ClassId) (q : Nat → Nat) (S : tk_ST) (r0 : Int32) (hf : f_X6_inTrick S = some r0) : tk_Mi l yX6_inTrick wsX6_inTrick rm_X6_inTrick G c3 [.ref (q 0)] (tk_H c3 q S) (tk_H c3 q S) r0 := by
  refine tk_ofi (cc := cX6_inTrick) (maxL := 1) (ret := some .int) (by decide) rfl (Nat.le_of_ble_eq_true rfl) ?_
  intro p e s m below meth c A Q ls H locs hx hb hml hr hts hown hlocks hE hA hP hD hS hZ hQ hl
  have hl : lv_has ls 1 [(0, .ref (q 0))] := hl
  have hown : s.vm.findClass RX6 = some m.cls := hown
  unfold f_X6_inTrick at hf
  refine lv_aload_n hx hb dX6_inTrick_0 rfl (lv_at hl 0 rfl) ?_
  refine va_get (D := G) (ci := 6) (v := .ref (q 5)) (C := RX6) (T := TX6) (N := 18) hx hb hts i_X6_inTrick_X6 hown hE.1 hP 0 rfl rfl 2 (by decide) (hts _ m_X6_inTrick_f26) (fun _ h9 => h9) rfl dX6_inTrick_1 ?_
  refine va_getN (D := G) (ci := 5) (v := .int (S.1 14)) (C := RX5) (T := TX5) (N := 3) hx hb hts i_X6_inTrick_X5 hown hE.1 hP 5 rfl rfl 2 (by decide) (va_Nw.use rfl hE.2.1.2.1) (fun _ h9 => h9) rfl dX6_inTrick_4 ?_
  exact tk_ri hQ (tk_s1 hf) rfl hx hb hr hlocks hP hD hS dX6_inTrick_7
abbrev rm_X5_cardAt : Room := { frames := 1, cells := 0, slots := 0, locals := 21 }
set_option maxHeartbeats 4000000 in
set_option maxRecDepth 100000 in
theorem c_X5_cardAt (l : Launch) (G : va_G) (c3 : ClassId × ClassId × ClassId) (q : Nat → Nat) (S : tk_ST) (p0 : Int32) (r0 : Int32) (hf : f_X5_cardAt p0 S = some r0) : tk_Mi l yX5_cardAt wsX5_cardAt rm_X5_cardAt G c3 [.ref (q 5), .int p0] (tk_H c3 q S) (tk_H c3 q S) r0 := by
  refine tk_ofi (cc := cX5_cardAt) (maxL := 2) (ret := some .int) (by decide) rfl (Nat.le_of_ble_eq_true rfl) ?_
  intro p e s m below meth c A Q ls H locs hx hb hml hr hts hown hlocks hE hA hP hD hS hZ hQ hl
  have hl : lv_has ls 2 [(0, .ref (q 5)), (1, .int p0)] := hl
  have hown : s.vm.findClass RX5 = some m.cls := hown
  unfold f_X5_cardAt at hf
  refine lv_aload_n hx hb dX5_cardAt_0 rfl (lv_at hl 0 rfl) ?_
  refine va_get (D := G) (ci := 5) (v := .ref (q 6)) (C := RX5) (T := TX5) (N := 3) hx hb hts i_X5_cardAt_X5 hown hE.1 hP 5 rfl rfl 0 (by decide) (hts _ m_X5_cardAt_f14) (fun _ h9 => h9) rfl dX5_cardAt_1 ?_
  refine lv_iload_n hx hb dX5_cardAt_4 rfl (lv_at hl 1 rfl) ?_
  obtain ⟨r1, h2, hf⟩ := tk_b1s hf
  refine tk_ci (ws' := (tk_H c3 q S)) (va_runV (As := [.int p0]) (rest := []) ⟨hx, hb, hml, hown, hts⟩ (c_X2_at_p6 l G c3 q S p0 r1 h2 H.size) (cwV 1 hts gX5_cardAt_X2_at rfl rfl rfl hv_X2_at ⟨Nat.le_of_ble_eq_true rfl, Nat.le_of_ble_eq_true rfl⟩) (tk_pV hE hP hD 6 rfl rfl) rfl rfl hl.1 rfl (lv_room (Nat.le_of_ble_eq_true rfl)) dX5_cardAt_5 ⟨Nat.zero_le _, Nat.zero_le _⟩) hD hS hA (fun H locs hP hD hS => ?_)
  exact tk_ri hQ (tk_s1 hf) rfl hx hb hr hlocks hP hD hS dX5_cardAt_8
abbrev rm_X6_trickAt : Room := { frames := 6, cells := 1, slots := 6, locals := 90 }
set_option maxHeartbeats 4000000 in
set_option maxRecDepth 100000 in
theorem c_X6_trickAt (l : Launch) (hlst : l.stackTraces = false) (G : va_G) (c3 : ClassId × ClassId × ClassId) (q : Nat → Nat) (S : tk_ST) (p0 : Int32) (k0 : Int32) (r0 : Int32) (hf : f_X6_trickAt p0 S = some (k0, r0)) : tk_Xi l yX6_trickAt wsX6_trickAt rm_X6_trickAt G c3 [.ref (q 0), .int p0] (tk_H c3 q S) (tk_H c3 q S) k0 r0 := by
  refine tk_ofXi (cc := cX6_trickAt) (maxL := 2) (ret := some .int) (by decide) rfl (Nat.le_of_ble_eq_true rfl) ?_
  intro p e s m below meth c A Q ls H locs hx hb hml hr hts hown hlocks hE hA hP hD hS hZ hQ hl
  have hl : lv_has ls 2 [(0, .ref (q 0)), (1, .int p0)] := hl
  have hown : s.vm.findClass RX6 = some m.cls := hown
  have J_15 : ∀ (H : Heap) (locs : List Loc) (_ : va_P G vwCl (tk_H c3 q S) H) (_ : va_D A (tk_H c3 q S)) (_ : va_S A s.heap H locs) (ls : Array Slot) (_ : lv_has ls 2 []) (_ : f_X6_trickAt_15 S = some (k0, r0)), W p l e rm_X6_trickAt s m ([.ref (q 0), .int p0] : List Value).toArray below meth c H locs 0 0 Q (F0 m 15 ls []) := by
    intro  H locs hP hD hS ls hl hf
    unfold f_X6_trickAt_15 at hf
    exact tk_throw (G := G) (c3 := c3) (cls := "java/lang/IndexOutOfBoundsException") (text := "no such card in the trick") (ik := 126) (is := 251) (ic := 130) hQ (tk_s2 hf).1 (by decide) ex_3 rfl hlst hx hb hown ft_3 (hts _ m_X6_trickAt_cl126) (hts _ m_X6_trickAt_ie3) hE st_251 (fun w h => hts w (h_X6_trickAt_x130 w h)) ng_130 hE.2.1.2.2.2.2.2.2.2.2.2.2.2.2.1 gd_130 hZ.1 hP hD hS (hl.1.trans hml.symm) dX6_trickAt_15 dX6_trickAt_18 dX6_trickAt_19 dX6_trickAt_21 dX6_trickAt_24 hZ.2 (Nat.le_of_ble_eq_true rfl) (Nat.le_of_ble_eq_true rfl) (Nat.le_of_ble_eq_true rfl) (Nat.le_of_ble_eq_true rfl) hlocks
  unfold f_X6_trickAt at hf
  refine lv_iload_n hx hb dX6_trickAt_0 rfl (lv_at hl 1 rfl) ?_
  refine lv_if_lt (tgt := 15) hx hb dX6_trickAt_1 (by decide) (fun h1 => ?_) (fun h1 => ?_)
  · have hf := tk_pos hf h1
    exact J_15 H locs hP hD hS ls (lv_sub hl [] rfl) hf
  · have hf := tk_neg hf h1
    refine lv_iload_n hx hb dX6_trickAt_4 rfl (lv_at hl 1 rfl) ?_
    refine lv_aload_n hx hb dX6_trickAt_5 rfl (lv_at hl 0 rfl) ?_
    refine va_get (D := G) (ci := 6) (v := .ref (q 5)) (C := RX6) (T := TX6) (N := 18) hx hb hts i_X6_trickAt_X6 hown hE.1 hP 0 rfl rfl 2 (by decide) (hts _ m_X6_trickAt_f26) (fun _ h9 => h9) rfl dX6_trickAt_6 ?_
    refine va_getN (D := G) (ci := 5) (v := .int (S.1 14)) (C := RX5) (T := TX5) (N := 3) hx hb hts i_X6_trickAt_X5 hown hE.1 hP 5 rfl rfl 2 (by decide) (va_Nw.use rfl hE.2.1.2.1) (fun _ h9 => h9) rfl dX6_trickAt_9 ?_
    refine lv_icmp_lt (tgt := 25) hx hb dX6_trickAt_12 (by decide) (fun h2 => ?_) (fun h2 => ?_)
    · have hf := tk_pos hf h2
      refine lv_aload_n hx hb dX6_trickAt_25 rfl (lv_at hl 0 rfl) ?_
      refine va_get (D := G) (ci := 6) (v := .ref (q 5)) (C := RX6) (T := TX6) (N := 18) hx hb hts i_X6_trickAt_X6 hown hE.1 hP 0 rfl rfl 2 (by decide) (hts _ m_X6_trickAt_f26) (fun _ h9 => h9) rfl dX6_trickAt_26 ?_
      refine lv_iload_n hx hb dX6_trickAt_29 rfl (lv_at hl 1 rfl) ?_
      obtain ⟨r3, h4, hf⟩ := tk_b1s hf
      refine tk_ci (ws' := (tk_H c3 q S)) (va_runV (As := [.int p0]) (rest := []) ⟨hx, hb, hml, hown, hts⟩ (c_X5_cardAt l G c3 q S p0 r3 h4 H.size) (cwV 1 hts gX6_trickAt_X5_cardAt rfl rfl rfl hv_X5_cardAt ⟨Nat.le_of_ble_eq_true rfl, Nat.le_of_ble_eq_true rfl⟩) (tk_pV hE hP hD 5 rfl rfl) rfl rfl hl.1 rfl (lv_room (Nat.le_of_ble_eq_true rfl)) dX6_trickAt_30 ⟨Nat.zero_le _, Nat.zero_le _⟩) hD hS hA (fun H locs hP hD hS => ?_)
      exact tk_xri hQ (tk_s2 hf).1 (tk_s2 hf).2 rfl hx hb hr hlocks hP hD hS dX6_trickAt_33
    · have hf := tk_neg hf h2
      exact J_15 H locs hP hD hS ls (lv_sub hl [] rfl) hf
abbrev rm_X6_canPlay : Room := { frames := 6, cells := 1, slots := 6, locals := 90 }
set_option maxHeartbeats 4000000 in
set_option maxRecDepth 100000 in
theorem c_X6_canPlay (l : Launch) (hlst : l.stackTraces = false) (G : va_G) (c3 : ClassId × ClassId × ClassId) (q : Nat → Nat) (S : tk_ST) (p0 : Int32) (k0 : Int32) (r0 : Int32) (hf : f_X6_canPlay p0 S = some (k0, r0)) : tk_Xi l yX6_canPlay wsX6_canPlay rm_X6_canPlay G c3 [.ref (q 0), .int p0] (tk_H c3 q S) (tk_H c3 q S) k0 r0 := by
  refine tk_ofXi (cc := cX6_canPlay) (maxL := 2) (ret := some .boolean) (by decide) rfl (Nat.le_of_ble_eq_true rfl) ?_
  intro p e s m below meth c A Q ls H locs hx hb hml hr hts hown hlocks hE hA hP hD hS hZ hQ hl
  have hl : lv_has ls 2 [(0, .ref (q 0)), (1, .int p0)] := hl
  have hown : s.vm.findClass RX6 = some m.cls := hown
  unfold f_X6_canPlay at hf
  refine lv_iload_n hx hb dX6_canPlay_0 rfl (lv_at hl 1 rfl) ?_
  obtain ⟨r1, h2, hf⟩ := tk_b1s hf
  refine tk_ci (ws' := (tk_H c3 q S)) (va_runS (As := [.int p0]) (rest := []) ⟨hx, hb, hml, hown, hts⟩ (c_X6_isCard l G c3 (tk_H c3 q S) p0 r1 h2 H.size) (va_cwS 1 hts gX6_canPlay_X6_isCard rfl rfl rfl hs_X6_isCard ⟨Nat.le_of_ble_eq_true rfl, Nat.le_of_ble_eq_true rfl⟩) (tk_pS hE hP hD) rfl rfl hl.1 rfl (lv_room (Nat.le_of_ble_eq_true rfl)) dX6_canPlay_1 ⟨Nat.zero_le _, Nat.zero_le _⟩) hD hS hA (fun H locs hP hD hS => ?_)
  refine lv_if_ne (tgt := 17) hx hb dX6_canPlay_4 (by decide) (fun h4 => ?_) (fun h4 => ?_)
  · have hf := tk_neg hf h4
    refine lv_aload_n hx hb dX6_canPlay_17 rfl (lv_at hl 0 rfl) ?_
    obtain ⟨r5, h6, hf⟩ := tk_b1s hf
    refine tk_cl (ws' := (tk_H c3 q S)) (va_runV (As := []) (rest := []) ⟨hx, hb, hml, hown, hts⟩ (c_X6_playableNow l G c3 q S r5 h6 H.size) (cwV 0 hts gX6_canPlay_X6_playableNow rfl rfl rfl hv_X6_playableNow ⟨Nat.le_of_ble_eq_true rfl, Nat.le_of_ble_eq_true rfl⟩) (tk_pV hE hP hD 0 rfl rfl) rfl rfl hl.1 rfl (lv_room (Nat.le_of_ble_eq_true rfl)) dX6_canPlay_18 ⟨Nat.zero_le _, Nat.zero_le _⟩) hD hS hA (fun H locs hP hD hS => ?_)
    refine lv_iload_n hx hb dX6_canPlay_21 rfl (lv_at hl 1 rfl) ?_
    obtain ⟨r8, h9, hf⟩ := tk_b1s hf
    refine tk_ci (ws' := (tk_H c3 q S)) (va_runS (As := [.long r5, .int p0]) (rest := []) ⟨hx, hb, hml, hown, hts⟩ (c_X6_holds l G c3 (tk_H c3 q S) r5 p0 r8 h9 H.size) (va_cwS 2 hts gX6_canPlay_X6_holds rfl rfl rfl hs_X6_holds ⟨Nat.le_of_ble_eq_true rfl, Nat.le_of_ble_eq_true rfl⟩) (tk_pS hE hP hD) rfl rfl hl.1 rfl (lv_room (Nat.le_of_ble_eq_true rfl)) dX6_canPlay_22 ⟨Nat.zero_le _, Nat.zero_le _⟩) hD hS hA (fun H locs hP hD hS => ?_)
    obtain ⟨h11, hf⟩ := tk_yes hf
    exact tk_xrz hQ (tk_s2 hf).1 (tk_s2 hf).2 rfl h11 hx hb hr hlocks hP hD hS dX6_canPlay_25
  · have hf := tk_pos hf h4
    exact tk_throw (G := G) (c3 := c3) (cls := "java/lang/IndexOutOfBoundsException") (text := "no such card") (ik := 126) (is := 175) (ic := 130) hQ (tk_s2 hf).1 (by decide) ex_3 rfl hlst hx hb hown ft_3 (hts _ m_X6_canPlay_cl126) (hts _ m_X6_canPlay_ie3) hE st_175 (fun w h => hts w (h_X6_canPlay_x130 w h)) ng_130 hE.2.1.2.2.2.2.2.2.2.2.2.2.2.2.1 gd_130 hZ.1 hP hD hS (hl.1.trans hml.symm) dX6_canPlay_7 dX6_canPlay_10 dX6_canPlay_11 dX6_canPlay_13 dX6_canPlay_16 hZ.2 (Nat.le_of_ble_eq_true rfl) (Nat.le_of_ble_eq_true rfl) (Nat.le_of_ble_eq_true rfl) (Nat.le_of_ble_eq_true rfl) hlocks
abbrev rm_X6_tricks : Room := { frames := 0, cells := 0, slots := 0, locals := 0 }
set_option maxHeartbeats 4000000 in
set_option maxRecDepth 100000 in
theorem c_X6_tricks (l : Launch) (G : va_G) (c3 : ClassId × ClassId × ClassId) (q : Nat → Nat) (S : tk_ST) (r0 : Int32) (hf : f_X6_tricks S = some r0) : tk_Mi l yX6_tricks wsX6_tricks rm_X6_tricks G c3 [.ref (q 0)] (tk_H c3 q S) (tk_H c3 q S) r0 := by
  refine tk_ofi (cc := cX6_tricks) (maxL := 1) (ret := some .int) (by decide) rfl (Nat.le_of_ble_eq_true rfl) ?_
  intro p e s m below meth c A Q ls H locs hx hb hml hr hts hown hlocks hE hA hP hD hS hZ hQ hl
  have hl : lv_has ls 1 [(0, .ref (q 0))] := hl
  have hown : s.vm.findClass RX6 = some m.cls := hown
  unfold f_X6_tricks at hf
  refine lv_aload_n hx hb dX6_tricks_0 rfl (lv_at hl 0 rfl) ?_
  refine va_get (D := G) (ci := 6) (v := .int (S.1 9)) (C := RX6) (T := TX6) (N := 18) hx hb hts i_X6_tricks_X6 hown hE.1 hP 0 rfl rfl 17 (by decide) (hts _ m_X6_tricks_f199) (fun _ h9 => h9) rfl dX6_tricks_1 ?_
  exact tk_ri hQ (tk_s1 hf) rfl hx hb hr hlocks hP hD hS dX6_tricks_4
abbrev rm_X6_valueOf : Room := { frames := 6, cells := 1, slots := 6, locals := 90 }
set_option maxHeartbeats 4000000 in
set_option maxRecDepth 100000 in
theorem c_X6_valueOf (l : Launch) (hlst : l.stackTraces = false) (G : va_G) (c3 : ClassId × ClassId × ClassId) (q : Nat → Nat) (S : tk_ST) (p0 : Int32) (k0 : Int32) (r0 : Int32) (hf : f_X6_valueOf p0 S = some (k0, r0)) : tk_Xi l yX6_valueOf wsX6_valueOf rm_X6_valueOf G c3 [.ref (q 0), .int p0] (tk_H c3 q S) (tk_H c3 q S) k0 r0 := by
  refine tk_ofXi (cc := cX6_valueOf) (maxL := 2) (ret := some .int) (by decide) rfl (Nat.le_of_ble_eq_true rfl) ?_
  intro p e s m below meth c A Q ls H locs hx hb hml hr hts hown hlocks hE hA hP hD hS hZ hQ hl
  have hl : lv_has ls 2 [(0, .ref (q 0)), (1, .int p0)] := hl
  have hown : s.vm.findClass RX6 = some m.cls := hown
  unfold f_X6_valueOf at hf
  refine lv_iload_n hx hb dX6_valueOf_0 rfl (lv_at hl 1 rfl) ?_
  obtain ⟨r1, h2, hf⟩ := tk_b1s hf
  refine tk_ci (ws' := (tk_H c3 q S)) (va_runS (As := [.int p0]) (rest := []) ⟨hx, hb, hml, hown, hts⟩ (c_X6_isCard l G c3 (tk_H c3 q S) p0 r1 h2 H.size) (va_cwS 1 hts gX6_valueOf_X6_isCard rfl rfl rfl hs_X6_isCard ⟨Nat.le_of_ble_eq_true rfl, Nat.le_of_ble_eq_true rfl⟩) (tk_pS hE hP hD) rfl rfl hl.1 rfl (lv_room (Nat.le_of_ble_eq_true rfl)) dX6_valueOf_1 ⟨Nat.zero_le _, Nat.zero_le _⟩) hD hS hA (fun H locs hP hD hS => ?_)
  refine lv_if_ne (tgt := 17) hx hb dX6_valueOf_4 (by decide) (fun h4 => ?_) (fun h4 => ?_)
  · have hf := tk_neg hf h4
    refine lv_iload_n hx hb dX6_valueOf_17 rfl (lv_at hl 1 rfl) ?_
    obtain ⟨r5, h6, hf⟩ := tk_b1s hf
    refine tk_ci (ws' := (tk_H c3 q S)) (va_runS (As := [.int p0]) (rest := []) ⟨hx, hb, hml, hown, hts⟩ (c_X6_worth l G c3 (tk_H c3 q S) p0 r5 h6 H.size) (va_cwS 1 hts gX6_valueOf_X6_worth rfl rfl rfl hs_X6_worth ⟨Nat.le_of_ble_eq_true rfl, Nat.le_of_ble_eq_true rfl⟩) (tk_pS hE hP hD) rfl rfl hl.1 rfl (lv_room (Nat.le_of_ble_eq_true rfl)) dX6_valueOf_18 ⟨Nat.zero_le _, Nat.zero_le _⟩) hD hS hA (fun H locs hP hD hS => ?_)
    exact tk_xri hQ (tk_s2 hf).1 (tk_s2 hf).2 rfl hx hb hr hlocks hP hD hS dX6_valueOf_21
  · have hf := tk_pos hf h4
    exact tk_throw (G := G) (c3 := c3) (cls := "java/lang/IndexOutOfBoundsException") (text := "no such card") (ik := 126) (is := 175) (ic := 130) hQ (tk_s2 hf).1 (by decide) ex_3 rfl hlst hx hb hown ft_3 (hts _ m_X6_valueOf_cl126) (hts _ m_X6_valueOf_ie3) hE st_175 (fun w h => hts w (h_X6_valueOf_x130 w h)) ng_130 hE.2.1.2.2.2.2.2.2.2.2.2.2.2.2.1 gd_130 hZ.1 hP hD hS (hl.1.trans hml.symm) dX6_valueOf_7 dX6_valueOf_10 dX6_valueOf_11 dX6_valueOf_13 dX6_valueOf_16 hZ.2 (Nat.le_of_ble_eq_true rfl) (Nat.le_of_ble_eq_true rfl) (Nat.le_of_ble_eq_true rfl) (Nat.le_of_ble_eq_true rfl) hlocks
abbrev rm_X6_isSide : Room := { frames := 0, cells := 0, slots := 0, locals := 0 }
set_option maxHeartbeats 4000000 in
set_option maxRecDepth 100000 in
theorem c_X6_isSide (l : Launch) (G : va_G) (c3 : ClassId × ClassId × ClassId) (ws : va_W) (p0 : Int32) (r0 : Int32) (hf : f_X6_isSide p0 = some r0) : tk_Mi l yX6_isSide wsX6_isSide rm_X6_isSide G c3 [.int p0] ws ws r0 := by
  refine tk_ofi (cc := cX6_isSide) (maxL := 1) (ret := some .boolean) (by decide) rfl (Nat.le_of_ble_eq_true rfl) ?_
  intro p e s m below meth c A Q ls H locs hx hb hml hr hts hown hlocks hE hA hP hD hS hZ hQ hl
  have hl : lv_has ls 1 [(0, .int p0)] := hl
  have hown : s.vm.findClass RX6 = some m.cls := hown
  unfold f_X6_isSide at hf
  refine lv_iload_n hx hb dX6_isSide_0 rfl (lv_at hl 0 rfl) ?_
  refine lv_if_lt (tgt := 13) hx hb dX6_isSide_1 (by decide) (fun h1 => ?_) (fun h1 => ?_)
  · have hf := tk_pos hf h1
    refine lv_iconst (v := 0) hx hb dX6_isSide_13 (by decide) ?_
    exact tk_rz hQ (tk_s1 hf) rfl (by decide) hx hb hr hlocks hP hD hS dX6_isSide_14
  · have hf := tk_neg hf h1
    refine lv_iload_n hx hb dX6_isSide_4 rfl (lv_at hl 0 rfl) ?_
    refine lv_iconst (v := 2) hx hb dX6_isSide_5 (by decide) ?_
    refine lv_icmp_ge (tgt := 13) hx hb dX6_isSide_6 (by decide) (fun h2 => ?_) (fun h2 => ?_)
    · have hf := tk_pos hf h2
      refine lv_iconst (v := 0) hx hb dX6_isSide_13 (by decide) ?_
      exact tk_rz hQ (tk_s1 hf) rfl (by decide) hx hb hr hlocks hP hD hS dX6_isSide_14
    · have hf := tk_neg hf h2
      refine lv_iconst (v := 1) hx hb dX6_isSide_9 (by decide) ?_
      refine lv_goto (tgt := 14) hx hb dX6_isSide_10 (by decide) ?_
      exact tk_rz hQ (tk_s1 hf) rfl (by decide) hx hb hr hlocks hP hD hS dX6_isSide_14
abbrev rm_X6_thirds : Room := { frames := 6, cells := 1, slots := 6, locals := 90 }
set_option maxHeartbeats 4000000 in
set_option maxRecDepth 100000 in
theorem c_X6_thirds (l : Launch) (hlst : l.stackTraces = false) (G : va_G) (c3 : ClassId × ClassId × ClassId) (q : Nat → Nat) (S : tk_ST) (p0 : Int32) (k0 : Int32) (r0 : Int32) (hf : f_X6_thirds p0 S = some (k0, r0)) : tk_Xi l yX6_thirds wsX6_thirds rm_X6_thirds G c3 [.ref (q 0), .int p0] (tk_H c3 q S) (tk_H c3 q S) k0 r0 := by
  refine tk_ofXi (cc := cX6_thirds) (maxL := 2) (ret := some .int) (by decide) rfl (Nat.le_of_ble_eq_true rfl) ?_
  intro p e s m below meth c A Q ls H locs hx hb hml hr hts hown hlocks hE hA hP hD hS hZ hQ hl
  have hl : lv_has ls 2 [(0, .ref (q 0)), (1, .int p0)] := hl
  have hown : s.vm.findClass RX6 = some m.cls := hown
  unfold f_X6_thirds at hf
  refine lv_iload_n hx hb dX6_thirds_0 rfl (lv_at hl 1 rfl) ?_
  obtain ⟨r1, h2, hf⟩ := tk_b1s hf
  refine tk_ci (ws' := (tk_H c3 q S)) (va_runS (As := [.int p0]) (rest := []) ⟨hx, hb, hml, hown, hts⟩ (c_X6_isSide l G c3 (tk_H c3 q S) p0 r1 h2 H.size) (va_cwS 1 hts gX6_thirds_X6_isSide rfl rfl rfl hs_X6_isSide ⟨Nat.le_of_ble_eq_true rfl, Nat.le_of_ble_eq_true rfl⟩) (tk_pS hE hP hD) rfl rfl hl.1 rfl (lv_room (Nat.le_of_ble_eq_true rfl)) dX6_thirds_1 ⟨Nat.zero_le _, Nat.zero_le _⟩) hD hS hA (fun H locs hP hD hS => ?_)
  refine lv_if_ne (tgt := 18) hx hb dX6_thirds_4 (by decide) (fun h4 => ?_) (fun h4 => ?_)
  · have hf := tk_neg hf h4
    refine lv_aload_n hx hb dX6_thirds_18 rfl (lv_at hl 0 rfl) ?_
    refine va_get (D := G) (ci := 6) (v := .ref (q 15)) (C := RX6) (T := TX6) (N := 18) hx hb hts i_X6_thirds_X6 hown hE.1 hP 0 rfl rfl 5 (by decide) (hts _ m_X6_thirds_f46) (fun _ h9 => h9) rfl dX6_thirds_19 ?_
    refine lv_iload_n hx hb dX6_thirds_22 rfl (lv_at hl 1 rfl) ?_
    obtain ⟨r5, h6, hf⟩ := tk_b1s hf
    refine tk_cl (ws' := (tk_H c3 q S)) (va_runV (As := [.int p0]) (rest := []) ⟨hx, hb, hml, hown, hts⟩ (c_X3_at_p15 l G c3 q S p0 r5 h6 H.size) (cwV 1 hts gX6_thirds_X3_at rfl rfl rfl hv_X3_at ⟨Nat.le_of_ble_eq_true rfl, Nat.le_of_ble_eq_true rfl⟩) (tk_pV hE hP hD 15 rfl rfl) rfl rfl hl.1 rfl (lv_room (Nat.le_of_ble_eq_true rfl)) dX6_thirds_23 ⟨Nat.zero_le _, Nat.zero_le _⟩) hD hS hA (fun H locs hP hD hS => ?_)
    obtain ⟨r8, h9, hf⟩ := tk_b1s hf
    refine tk_ci (ws' := (tk_H c3 q S)) (va_runS (As := [.long r5]) (rest := []) ⟨hx, hb, hml, hown, hts⟩ (c_X6_thirdsOf l G c3 (tk_H c3 q S) r5 r8 h9 H.size) (va_cwS 1 hts gX6_thirds_X6_thirdsOf rfl rfl rfl hs_X6_thirdsOf ⟨Nat.le_of_ble_eq_true rfl, Nat.le_of_ble_eq_true rfl⟩) (tk_pS hE hP hD) rfl rfl hl.1 rfl (lv_room (Nat.le_of_ble_eq_true rfl)) dX6_thirds_26 ⟨Nat.zero_le _, Nat.zero_le _⟩) hD hS hA (fun H locs hP hD hS => ?_)
    exact tk_xri hQ (tk_s2 hf).1 (tk_s2 hf).2 rfl hx hb hr hlocks hP hD hS dX6_thirds_29
  · have hf := tk_pos hf h4
    exact tk_throwW (G := G) (c3 := c3) (cls := "java/lang/IndexOutOfBoundsException") (text := "no such side") (ik := 126) (is := 260) (ic := 130) hQ (tk_s2 hf).1 (by decide) ex_3 rfl hlst hx hb hown ft_3 (hts _ m_X6_thirds_cl126) (hts _ m_X6_thirds_ie3) hE st_260 (fun w h => hts w (h_X6_thirds_x130 w h)) ng_130 hE.2.1.2.2.2.2.2.2.2.2.2.2.2.2.1 gd_130 hZ.1 hP hD hS (hl.1.trans hml.symm) dX6_thirds_7 dX6_thirds_10 dX6_thirds_11 dX6_thirds_14 dX6_thirds_17 hZ.2 (Nat.le_of_ble_eq_true rfl) (Nat.le_of_ble_eq_true rfl) (Nat.le_of_ble_eq_true rfl) (Nat.le_of_ble_eq_true rfl) hlocks
abbrev rm_X6_packPointsOf : Room := { frames := 2, cells := 0, slots := 0, locals := 41 }
set_option maxHeartbeats 4000000 in
set_option maxRecDepth 100000 in
theorem c_X6_packPointsOf (l : Launch) (G : va_G) (c3 : ClassId × ClassId × ClassId) (ws : va_W) (p0 : Int64) (r0 : Int32) (hf : f_X6_packPointsOf p0 = some r0) : tk_Mi l yX6_packPointsOf wsX6_packPointsOf rm_X6_packPointsOf G c3 [.long p0] ws ws r0 := by
  refine tk_ofi (cc := cX6_packPointsOf) (maxL := 6) (ret := some .int) (by decide) rfl (Nat.le_of_ble_eq_true rfl) ?_
  intro p e s m below meth c A Q ls H locs hx hb hml hr hts hown hlocks hE hA hP hD hS hZ hQ hl
  have hl : lv_has ls 6 [(0, .long p0)] := hl
  have hown : s.vm.findClass RX6 = some m.cls := hown
  have J_10 : ∀ (n_10 : Nat), ∀ (x0_10 : Int64) (x2_10 : Int32) (x3_10 : Int32) (x4_10 : Int32) (x5_10 : Int32) (H : Heap) (locs : List Loc) (_ : va_P G vwCl ws H) (_ : va_D A ws) (_ : va_S A s.heap H locs) (ls : Array Slot) (_ : lv_has ls 6 [(0, .long x0_10), (2, .int x2_10), (3, .int x3_10), (4, .int x4_10), (5, .int x5_10)]) (_ : f_X6_packPointsOf_10 n_10 x0_10 x2_10 x3_10 x4_10 x5_10 = some r0), W p l e rm_X6_packPointsOf s m ([.long p0] : List Value).toArray below meth c H locs 0 0 Q (F0 m 10 ls []) := by
    intro n_10
    induction n_10 with
    | zero =>
      intro x0_10 x2_10 x3_10 x4_10 x5_10 H locs hP hD hS ls hl hf
      exact absurd hf (by intro h9; cases h9)
    | succ n_10 ih_10 =>
      have J_56 : ∀ (x0_56 : Int64) (x2_56 : Int32) (x3_56 : Int32) (x4_56 : Int32) (x5_56 : Int32) (H : Heap) (locs : List Loc) (_ : va_P G vwCl ws H) (_ : va_D A ws) (_ : va_S A s.heap H locs) (ls : Array Slot) (_ : lv_has ls 6 [(0, .long x0_56), (2, .int x2_56), (3, .int x3_56), (4, .int x4_56), (5, .int x5_56)]) (_ : f_X6_packPointsOf_56 (f_X6_packPointsOf_10 n_10) x0_56 x2_56 x3_56 x4_56 x5_56 = some r0), W p l e rm_X6_packPointsOf s m ([.long p0] : List Value).toArray below meth c H locs 0 0 Q (F0 m 56 ls []) := by
        intro x0_56 x2_56 x3_56 x4_56 x5_56 H locs hP hD hS ls hl hf
        unfold f_X6_packPointsOf_56 at hf
        refine lv_iinc (v := (x5_56 + (1 : Int32))) (lv' := [(5, .int (x5_56 + (1 : Int32))), (0, .long x0_56), (2, .int x2_56), (3, .int x3_56), (4, .int x4_56)]) hx hb dX6_packPointsOf_56 hl (k := 4) rfl rfl (by decide) rfl (fun ls hl => ?_)
        refine lv_goto (tgt := 10) hx hb dX6_packPointsOf_59 (by decide) ?_
        exact ih_10 x0_56 x2_56 x3_56 x4_56 (x5_56 + (1 : Int32)) H locs hP hD hS ls (lv_sub hl [1, 2, 3, 4, 0] rfl) hf
      have J_39 : ∀ (x0_39 : Int64) (x2_39 : Int32) (x3_39 : Int32) (x4_39 : Int32) (x5_39 : Int32) (H : Heap) (locs : List Loc) (_ : va_P G vwCl ws H) (_ : va_D A ws) (_ : va_S A s.heap H locs) (ls : Array Slot) (_ : lv_has ls 6 [(0, .long x0_39), (2, .int x2_39), (3, .int x3_39), (4, .int x4_39), (5, .int x5_39)]) (_ : f_X6_packPointsOf_39 (f_X6_packPointsOf_10 n_10) x0_39 x2_39 x3_39 x4_39 x5_39 = some r0), W p l e rm_X6_packPointsOf s m ([.long p0] : List Value).toArray below meth c H locs 0 0 Q (F0 m 39 ls []) := by
        intro x0_39 x2_39 x3_39 x4_39 x5_39 H locs hP hD hS ls hl hf
        unfold f_X6_packPointsOf_39 at hf
        refine lv_iload_n hx hb dX6_packPointsOf_39 rfl (lv_at hl 2 rfl) ?_
        refine lv_iconst (v := 3) hx hb dX6_packPointsOf_40 (by decide) ?_
        refine lv_icmp_ne (tgt := 56) hx hb dX6_packPointsOf_41 (by decide) (fun h1 => ?_) (fun h1 => ?_)
        · have hf := tk_neg hf h1
          exact J_56 x0_39 x2_39 x3_39 x4_39 x5_39 H locs hP hD hS ls (lv_sub hl [0, 1, 2, 3, 4] rfl) hf
        · have hf := tk_pos hf h1
          refine lv_iload_n hx hb dX6_packPointsOf_44 rfl (lv_at hl 1 rfl) ?_
          refine lv_iload hx hb dX6_packPointsOf_45 (lv_at hl 3 rfl) ?_
          refine lv_iconst (v := 2) hx hb dX6_packPointsOf_47 (by decide) ?_
          refine lv_isub hx hb dX6_packPointsOf_48 ?_
          refine lv_iadd hx hb dX6_packPointsOf_49 ?_
          refine lv_istore_n (lv' := [(2, .int (x2_39 + (x4_39 - (2 : Int32)))), (0, .long x0_39), (3, .int x3_39), (4, .int x4_39), (5, .int x5_39)]) hx hb dX6_packPointsOf_50 rfl hl (by decide) rfl (fun ls hl => ?_)
          refine lv_iconst (v := 0) hx hb dX6_packPointsOf_51 (by decide) ?_
          refine lv_istore_n (lv' := [(3, .int (0 : Int32)), (2, .int (x2_39 + (x4_39 - (2 : Int32)))), (0, .long x0_39), (4, .int x4_39), (5, .int x5_39)]) hx hb dX6_packPointsOf_52 rfl hl (by decide) rfl (fun ls hl => ?_)
          refine lv_iconst (v := 0) hx hb dX6_packPointsOf_53 (by decide) ?_
          refine lv_istore (lv' := [(4, .int (0 : Int32)), (3, .int (0 : Int32)), (2, .int (x2_39 + (x4_39 - (2 : Int32)))), (0, .long x0_39), (5, .int x5_39)]) hx hb dX6_packPointsOf_54 hl (by decide) rfl (fun ls hl => ?_)
          exact J_56 x0_39 (x2_39 + (x4_39 - (2 : Int32))) (0 : Int32) (0 : Int32) x5_39 H locs hP hD hS ls (lv_sub hl [3, 2, 1, 0, 4] rfl) hf
      intro x0_10 x2_10 x3_10 x4_10 x5_10 H locs hP hD hS ls hl hf
      rw [f_X6_packPointsOf_10_s] at hf
      refine lv_iload hx hb dX6_packPointsOf_10 (lv_at hl 4 rfl) ?_
      refine lv_bipush (v := 54) hx hb dX6_packPointsOf_12 (by decide) ?_
      refine lv_icmp_ge (tgt := 62) hx hb dX6_packPointsOf_14 (by decide) (fun h2 => ?_) (fun h2 => ?_)
      · have hf := tk_pos hf h2
        refine lv_iload_n hx hb dX6_packPointsOf_62 rfl (lv_at hl 1 rfl) ?_
        exact tk_ri hQ (tk_s1 hf) rfl hx hb hr hlocks hP hD hS dX6_packPointsOf_63
      · have hf := tk_neg hf h2
        refine lv_lload_n hx hb dX6_packPointsOf_17 rfl (lv_at hl 0 rfl) ?_
        refine lv_iload hx hb dX6_packPointsOf_18 (lv_at hl 4 rfl) ?_
        obtain ⟨r3, h4, hf⟩ := tk_b1s hf
        refine tk_ci (ws' := ws) (va_runS (As := [.long x0_10, .int x5_10]) (rest := []) ⟨hx, hb, hml, hown, hts⟩ (c_X6_holds l G c3 ws x0_10 x5_10 r3 h4 H.size) (va_cwS 2 hts gX6_packPointsOf_X6_holds rfl rfl rfl hs_X6_holds ⟨Nat.le_of_ble_eq_true rfl, Nat.le_of_ble_eq_true rfl⟩) (tk_pS hE hP hD) rfl rfl hl.1 rfl (lv_room (Nat.le_of_ble_eq_true rfl)) dX6_packPointsOf_20 ⟨Nat.zero_le _, Nat.zero_le _⟩) hD hS hA (fun H locs hP hD hS => ?_)
        refine lv_if_eq (tgt := 39) hx hb dX6_packPointsOf_23 (by decide) (fun h6 => ?_) (fun h6 => ?_)
        · have hf := tk_pos hf h6
          exact J_39 x0_10 x2_10 x3_10 x4_10 x5_10 H locs hP hD hS ls (lv_sub hl [0, 1, 2, 3, 4] rfl) hf
        · have hf := tk_neg hf h6
          refine lv_iload hx hb dX6_packPointsOf_26 (lv_at hl 3 rfl) ?_
          refine lv_iload hx hb dX6_packPointsOf_28 (lv_at hl 4 rfl) ?_
          obtain ⟨r7, h8, hf⟩ := tk_b1s hf
          refine tk_ci (ws' := ws) (va_runS (As := [.int x5_10]) (rest := [.int x4_10]) ⟨hx, hb, hml, hown, hts⟩ (c_X6_worth l G c3 ws x5_10 r7 h8 H.size) (va_cwS 1 hts gX6_packPointsOf_X6_worth rfl rfl rfl hs_X6_worth ⟨Nat.le_of_ble_eq_true rfl, Nat.le_of_ble_eq_true rfl⟩) (tk_pS hE hP hD) rfl rfl hl.1 rfl (lv_room (Nat.le_of_ble_eq_true rfl)) dX6_packPointsOf_30 ⟨Nat.zero_le _, Nat.zero_le _⟩) hD hS hA (fun H locs hP hD hS => ?_)
          refine lv_iadd hx hb dX6_packPointsOf_33 ?_
          refine lv_istore (lv' := [(4, .int (x4_10 + r7)), (0, .long x0_10), (2, .int x2_10), (3, .int x3_10), (5, .int x5_10)]) hx hb dX6_packPointsOf_34 hl (by decide) rfl (fun ls hl => ?_)
          refine lv_iinc (v := (x3_10 + (1 : Int32))) (lv' := [(3, .int (x3_10 + (1 : Int32))), (4, .int (x4_10 + r7)), (0, .long x0_10), (2, .int x2_10), (5, .int x5_10)]) hx hb dX6_packPointsOf_36 hl (k := 3) rfl rfl (by decide) rfl (fun ls hl => ?_)
          exact J_39 x0_10 x2_10 (x3_10 + (1 : Int32)) (x4_10 + r7) x5_10 H locs hP hD hS ls (lv_sub hl [2, 3, 0, 1, 4] rfl) hf
  unfold f_X6_packPointsOf at hf
  refine lv_iconst (v := 0) hx hb dX6_packPointsOf_0 (by decide) ?_
  refine lv_istore_n (lv' := [(2, .int (0 : Int32)), (0, .long p0)]) hx hb dX6_packPointsOf_1 rfl hl (by decide) rfl (fun ls hl => ?_)
  refine lv_iconst (v := 0) hx hb dX6_packPointsOf_2 (by decide) ?_
  refine lv_istore_n (lv' := [(3, .int (0 : Int32)), (2, .int (0 : Int32)), (0, .long p0)]) hx hb dX6_packPointsOf_3 rfl hl (by decide) rfl (fun ls hl => ?_)
  refine lv_iconst (v := 0) hx hb dX6_packPointsOf_4 (by decide) ?_
  refine lv_istore (lv' := [(4, .int (0 : Int32)), (3, .int (0 : Int32)), (2, .int (0 : Int32)), (0, .long p0)]) hx hb dX6_packPointsOf_5 hl (by decide) rfl (fun ls hl => ?_)
  refine lv_iconst (v := 0) hx hb dX6_packPointsOf_7 (by decide) ?_
  refine lv_istore (lv' := [(5, .int (0 : Int32)), (4, .int (0 : Int32)), (3, .int (0 : Int32)), (2, .int (0 : Int32)), (0, .long p0)]) hx hb dX6_packPointsOf_8 hl (by decide) rfl (fun ls hl => ?_)
  exact J_10 64 p0 (0 : Int32) (0 : Int32) (0 : Int32) (0 : Int32) H locs hP hD hS ls (lv_sub hl [4, 3, 2, 1, 0] rfl) hf
abbrev rm_X6_byPacks : Room := { frames := 6, cells := 1, slots := 6, locals := 90 }
set_option maxHeartbeats 4000000 in
set_option maxRecDepth 100000 in
theorem c_X6_byPacks (l : Launch) (hlst : l.stackTraces = false) (G : va_G) (c3 : ClassId × ClassId × ClassId) (q : Nat → Nat) (S : tk_ST) (p0 : Int32) (k0 : Int32) (r0 : Int32) (hf : f_X6_byPacks p0 S = some (k0, r0)) : tk_Xi l yX6_byPacks wsX6_byPacks rm_X6_byPacks G c3 [.ref (q 0), .int p0] (tk_H c3 q S) (tk_H c3 q S) k0 r0 := by
  refine tk_ofXi (cc := cX6_byPacks) (maxL := 2) (ret := some .int) (by decide) rfl (Nat.le_of_ble_eq_true rfl) ?_
  intro p e s m below meth c A Q ls H locs hx hb hml hr hts hown hlocks hE hA hP hD hS hZ hQ hl
  have hl : lv_has ls 2 [(0, .ref (q 0)), (1, .int p0)] := hl
  have hown : s.vm.findClass RX6 = some m.cls := hown
  unfold f_X6_byPacks at hf
  refine lv_iload_n hx hb dX6_byPacks_0 rfl (lv_at hl 1 rfl) ?_
  obtain ⟨r1, h2, hf⟩ := tk_b1s hf
  refine tk_ci (ws' := (tk_H c3 q S)) (va_runS (As := [.int p0]) (rest := []) ⟨hx, hb, hml, hown, hts⟩ (c_X6_isSide l G c3 (tk_H c3 q S) p0 r1 h2 H.size) (va_cwS 1 hts gX6_byPacks_X6_isSide rfl rfl rfl hs_X6_isSide ⟨Nat.le_of_ble_eq_true rfl, Nat.le_of_ble_eq_true rfl⟩) (tk_pS hE hP hD) rfl rfl hl.1 rfl (lv_room (Nat.le_of_ble_eq_true rfl)) dX6_byPacks_1 ⟨Nat.zero_le _, Nat.zero_le _⟩) hD hS hA (fun H locs hP hD hS => ?_)
  refine lv_if_ne (tgt := 18) hx hb dX6_byPacks_4 (by decide) (fun h4 => ?_) (fun h4 => ?_)
  · have hf := tk_neg hf h4
    refine lv_aload_n hx hb dX6_byPacks_18 rfl (lv_at hl 0 rfl) ?_
    refine va_get (D := G) (ci := 6) (v := .ref (q 15)) (C := RX6) (T := TX6) (N := 18) hx hb hts i_X6_byPacks_X6 hown hE.1 hP 0 rfl rfl 5 (by decide) (hts _ m_X6_byPacks_f46) (fun _ h9 => h9) rfl dX6_byPacks_19 ?_
    refine lv_iload_n hx hb dX6_byPacks_22 rfl (lv_at hl 1 rfl) ?_
    obtain ⟨r5, h6, hf⟩ := tk_b1s hf
    refine tk_cl (ws' := (tk_H c3 q S)) (va_runV (As := [.int p0]) (rest := []) ⟨hx, hb, hml, hown, hts⟩ (c_X3_at_p15 l G c3 q S p0 r5 h6 H.size) (cwV 1 hts gX6_byPacks_X3_at rfl rfl rfl hv_X3_at ⟨Nat.le_of_ble_eq_true rfl, Nat.le_of_ble_eq_true rfl⟩) (tk_pV hE hP hD 15 rfl rfl) rfl rfl hl.1 rfl (lv_room (Nat.le_of_ble_eq_true rfl)) dX6_byPacks_23 ⟨Nat.zero_le _, Nat.zero_le _⟩) hD hS hA (fun H locs hP hD hS => ?_)
    obtain ⟨r8, h9, hf⟩ := tk_b1s hf
    refine tk_ci (ws' := (tk_H c3 q S)) (va_runS (As := [.long r5]) (rest := []) ⟨hx, hb, hml, hown, hts⟩ (c_X6_packPointsOf l G c3 (tk_H c3 q S) r5 r8 h9 H.size) (va_cwS 1 hts gX6_byPacks_X6_packPointsOf rfl rfl rfl hs_X6_packPointsOf ⟨Nat.le_of_ble_eq_true rfl, Nat.le_of_ble_eq_true rfl⟩) (tk_pS hE hP hD) rfl rfl hl.1 rfl (lv_room (Nat.le_of_ble_eq_true rfl)) dX6_byPacks_26 ⟨Nat.zero_le _, Nat.zero_le _⟩) hD hS hA (fun H locs hP hD hS => ?_)
    exact tk_xri hQ (tk_s2 hf).1 (tk_s2 hf).2 rfl hx hb hr hlocks hP hD hS dX6_byPacks_29
  · have hf := tk_pos hf h4
    exact tk_throwW (G := G) (c3 := c3) (cls := "java/lang/IndexOutOfBoundsException") (text := "no such side") (ik := 126) (is := 260) (ic := 130) hQ (tk_s2 hf).1 (by decide) ex_3 rfl hlst hx hb hown ft_3 (hts _ m_X6_byPacks_cl126) (hts _ m_X6_byPacks_ie3) hE st_260 (fun w h => hts w (h_X6_byPacks_x130 w h)) ng_130 hE.2.1.2.2.2.2.2.2.2.2.2.2.2.2.1 gd_130 hZ.1 hP hD hS (hl.1.trans hml.symm) dX6_byPacks_7 dX6_byPacks_10 dX6_byPacks_11 dX6_byPacks_14 dX6_byPacks_17 hZ.2 (Nat.le_of_ble_eq_true rfl) (Nat.le_of_ble_eq_true rfl) (Nat.le_of_ble_eq_true rfl) (Nat.le_of_ble_eq_true rfl) hlocks
abbrev rm_X6_score : Room := { frames := 6, cells := 1, slots := 6, locals := 90 }
set_option maxHeartbeats 4000000 in
set_option maxRecDepth 100000 in
theorem c_X6_score (l : Launch) (hlst : l.stackTraces = false) (G : va_G) (c3 : ClassId × ClassId × ClassId) (q : Nat → Nat) (S : tk_ST) (p0 : Int32) (k0 : Int32) (r0 : Int32) (hf : f_X6_score p0 S = some (k0, r0)) : tk_Xi l yX6_score wsX6_score rm_X6_score G c3 [.ref (q 0), .int p0] (tk_H c3 q S) (tk_H c3 q S) k0 r0 := by
  refine tk_ofXi (cc := cX6_score) (maxL := 2) (ret := some .int) (by decide) rfl (Nat.le_of_ble_eq_true rfl) ?_
  intro p e s m below meth c A Q ls H locs hx hb hml hr hts hown hlocks hE hA hP hD hS hZ hQ hl
  have hl : lv_has ls 2 [(0, .ref (q 0)), (1, .int p0)] := hl
  have hown : s.vm.findClass RX6 = some m.cls := hown
  unfold f_X6_score at hf
  refine lv_iload_n hx hb dX6_score_0 rfl (lv_at hl 1 rfl) ?_
  obtain ⟨r1, h2, hf⟩ := tk_b1s hf
  refine tk_ci (ws' := (tk_H c3 q S)) (va_runS (As := [.int p0]) (rest := []) ⟨hx, hb, hml, hown, hts⟩ (c_X6_isPlayer l G c3 (tk_H c3 q S) p0 r1 h2 H.size) (va_cwS 1 hts gX6_score_X6_isPlayer rfl rfl rfl hs_X6_isPlayer ⟨Nat.le_of_ble_eq_true rfl, Nat.le_of_ble_eq_true rfl⟩) (tk_pS hE hP hD) rfl rfl hl.1 rfl (lv_room (Nat.le_of_ble_eq_true rfl)) dX6_score_1 ⟨Nat.zero_le _, Nat.zero_le _⟩) hD hS hA (fun H locs hP hD hS => ?_)
  refine lv_if_ne (tgt := 17) hx hb dX6_score_4 (by decide) (fun h4 => ?_) (fun h4 => ?_)
  · have hf := tk_neg hf h4
    refine lv_aload_n hx hb dX6_score_17 rfl (lv_at hl 0 rfl) ?_
    refine va_get (D := G) (ci := 6) (v := .ref (q 8)) (C := RX6) (T := TX6) (N := 18) hx hb hts i_X6_score_X6 hown hE.1 hP 0 rfl rfl 3 (by decide) (hts _ m_X6_score_f33) (fun _ h9 => h9) rfl dX6_score_18 ?_
    refine va_getN (D := G) (ci := 4) (v := .ref (q 9)) (C := RX4) (T := TX4) (N := 3) hx hb hts i_X6_score_X4 hown hE.1 hP 8 rfl rfl 0 (by decide) (va_Nw.use rfl hE.2.1.2.2.1) (fun _ h9 => h9) rfl dX6_score_21 ?_
    refine lv_iload_n hx hb dX6_score_24 rfl (lv_at hl 1 rfl) ?_
    obtain ⟨r5, h6, hf⟩ := tk_b1s hf
    refine tk_ci (ws' := (tk_H c3 q S)) (va_runV (As := [.int p0]) (rest := []) ⟨hx, hb, hml, hown, hts⟩ (c_X2_at_p9 l G c3 q S p0 r5 h6 H.size) (cwV 1 hts gX6_score_X2_at rfl rfl rfl hv_X2_at ⟨Nat.le_of_ble_eq_true rfl, Nat.le_of_ble_eq_true rfl⟩) (tk_pV hE hP hD 9 rfl rfl) rfl rfl hl.1 rfl (lv_room (Nat.le_of_ble_eq_true rfl)) dX6_score_25 ⟨Nat.zero_le _, Nat.zero_le _⟩) hD hS hA (fun H locs hP hD hS => ?_)
    exact tk_xri hQ (tk_s2 hf).1 (tk_s2 hf).2 rfl hx hb hr hlocks hP hD hS dX6_score_28
  · have hf := tk_pos hf h4
    exact tk_throw (G := G) (c3 := c3) (cls := "java/lang/IndexOutOfBoundsException") (text := "no such player") (ik := 126) (is := 242) (ic := 130) hQ (tk_s2 hf).1 (by decide) ex_3 rfl hlst hx hb hown ft_3 (hts _ m_X6_score_cl126) (hts _ m_X6_score_ie3) hE st_242 (fun w h => hts w (h_X6_score_x130 w h)) ng_130 hE.2.1.2.2.2.2.2.2.2.2.2.2.2.2.1 gd_130 hZ.1 hP hD hS (hl.1.trans hml.symm) dX6_score_7 dX6_score_10 dX6_score_11 dX6_score_13 dX6_score_16 hZ.2 (Nat.le_of_ble_eq_true rfl) (Nat.le_of_ble_eq_true rfl) (Nat.le_of_ble_eq_true rfl) (Nat.le_of_ble_eq_true rfl) hlocks
abbrev rm_X6_radli : Room := { frames := 6, cells := 1, slots := 6, locals := 90 }
set_option maxHeartbeats 4000000 in
set_option maxRecDepth 100000 in
theorem c_X6_radli (l : Launch) (hlst : l.stackTraces = false) (G : va_G) (c3 : ClassId × ClassId × ClassId) (q : Nat → Nat) (S : tk_ST) (p0 : Int32) (k0 : Int32) (r0 : Int32) (hf : f_X6_radli p0 S = some (k0, r0)) : tk_Xi l yX6_radli wsX6_radli rm_X6_radli G c3 [.ref (q 0), .int p0] (tk_H c3 q S) (tk_H c3 q S) k0 r0 := by
  refine tk_ofXi (cc := cX6_radli) (maxL := 2) (ret := some .int) (by decide) rfl (Nat.le_of_ble_eq_true rfl) ?_
  intro p e s m below meth c A Q ls H locs hx hb hml hr hts hown hlocks hE hA hP hD hS hZ hQ hl
  have hl : lv_has ls 2 [(0, .ref (q 0)), (1, .int p0)] := hl
  have hown : s.vm.findClass RX6 = some m.cls := hown
  unfold f_X6_radli at hf
  refine lv_iload_n hx hb dX6_radli_0 rfl (lv_at hl 1 rfl) ?_
  obtain ⟨r1, h2, hf⟩ := tk_b1s hf
  refine tk_ci (ws' := (tk_H c3 q S)) (va_runS (As := [.int p0]) (rest := []) ⟨hx, hb, hml, hown, hts⟩ (c_X6_isPlayer l G c3 (tk_H c3 q S) p0 r1 h2 H.size) (va_cwS 1 hts gX6_radli_X6_isPlayer rfl rfl rfl hs_X6_isPlayer ⟨Nat.le_of_ble_eq_true rfl, Nat.le_of_ble_eq_true rfl⟩) (tk_pS hE hP hD) rfl rfl hl.1 rfl (lv_room (Nat.le_of_ble_eq_true rfl)) dX6_radli_1 ⟨Nat.zero_le _, Nat.zero_le _⟩) hD hS hA (fun H locs hP hD hS => ?_)
  refine lv_if_ne (tgt := 17) hx hb dX6_radli_4 (by decide) (fun h4 => ?_) (fun h4 => ?_)
  · have hf := tk_neg hf h4
    refine lv_aload_n hx hb dX6_radli_17 rfl (lv_at hl 0 rfl) ?_
    refine va_get (D := G) (ci := 6) (v := .ref (q 8)) (C := RX6) (T := TX6) (N := 18) hx hb hts i_X6_radli_X6 hown hE.1 hP 0 rfl rfl 3 (by decide) (hts _ m_X6_radli_f33) (fun _ h9 => h9) rfl dX6_radli_18 ?_
    refine va_getN (D := G) (ci := 4) (v := .ref (q 11)) (C := RX4) (T := TX4) (N := 3) hx hb hts i_X6_radli_X4 hown hE.1 hP 8 rfl rfl 1 (by decide) (va_Nw.use rfl hE.2.1.2.2.2.1) (fun _ h9 => h9) rfl dX6_radli_21 ?_
    refine lv_iload_n hx hb dX6_radli_24 rfl (lv_at hl 1 rfl) ?_
    obtain ⟨r5, h6, hf⟩ := tk_b1s hf
    refine tk_ci (ws' := (tk_H c3 q S)) (va_runV (As := [.int p0]) (rest := []) ⟨hx, hb, hml, hown, hts⟩ (c_X2_at_p11 l G c3 q S p0 r5 h6 H.size) (cwV 1 hts gX6_radli_X2_at rfl rfl rfl hv_X2_at ⟨Nat.le_of_ble_eq_true rfl, Nat.le_of_ble_eq_true rfl⟩) (tk_pV hE hP hD 11 rfl rfl) rfl rfl hl.1 rfl (lv_room (Nat.le_of_ble_eq_true rfl)) dX6_radli_25 ⟨Nat.zero_le _, Nat.zero_le _⟩) hD hS hA (fun H locs hP hD hS => ?_)
    exact tk_xri hQ (tk_s2 hf).1 (tk_s2 hf).2 rfl hx hb hr hlocks hP hD hS dX6_radli_28
  · have hf := tk_pos hf h4
    exact tk_throw (G := G) (c3 := c3) (cls := "java/lang/IndexOutOfBoundsException") (text := "no such player") (ik := 126) (is := 242) (ic := 130) hQ (tk_s2 hf).1 (by decide) ex_3 rfl hlst hx hb hown ft_3 (hts _ m_X6_radli_cl126) (hts _ m_X6_radli_ie3) hE st_242 (fun w h => hts w (h_X6_radli_x130 w h)) ng_130 hE.2.1.2.2.2.2.2.2.2.2.2.2.2.2.1 gd_130 hZ.1 hP hD hS (hl.1.trans hml.symm) dX6_radli_7 dX6_radli_10 dX6_radli_11 dX6_radli_13 dX6_radli_16 hZ.2 (Nat.le_of_ble_eq_true rfl) (Nat.le_of_ble_eq_true rfl) (Nat.le_of_ble_eq_true rfl) (Nat.le_of_ble_eq_true rfl) hlocks
abbrev rm_X6_result : Room := { frames := 0, cells := 0, slots := 0, locals := 0 }
set_option maxHeartbeats 4000000 in
set_option maxRecDepth 100000 in
theorem c_X6_result (l : Launch) (G : va_G) (c3 : ClassId × ClassId × ClassId) (q : Nat → Nat) (S : tk_ST) (r0 : Int32) (hf : f_X6_result S = some r0) : tk_Mi l yX6_result wsX6_result rm_X6_result G c3 [.ref (q 0)] (tk_H c3 q S) (tk_H c3 q S) r0 := by
  refine tk_ofi (cc := cX6_result) (maxL := 1) (ret := some .int) (by decide) rfl (Nat.le_of_ble_eq_true rfl) ?_
  intro p e s m below meth c A Q ls H locs hx hb hml hr hts hown hlocks hE hA hP hD hS hZ hQ hl
  have hl : lv_has ls 1 [(0, .ref (q 0))] := hl
  have hown : s.vm.findClass RX6 = some m.cls := hown
  unfold f_X6_result at hf
  refine lv_aload_n hx hb dX6_result_0 rfl (lv_at hl 0 rfl) ?_
  refine va_get (D := G) (ci := 6) (v := .ref (q 8)) (C := RX6) (T := TX6) (N := 18) hx hb hts i_X6_result_X6 hown hE.1 hP 0 rfl rfl 3 (by decide) (hts _ m_X6_result_f33) (fun _ h9 => h9) rfl dX6_result_1 ?_
  refine va_getN (D := G) (ci := 4) (v := .int (S.1 15)) (C := RX4) (T := TX4) (N := 3) hx hb hts i_X6_result_X4 hown hE.1 hP 8 rfl rfl 2 (by decide) (va_Nw.use rfl hE.2.1.2.2.2.2.1) (fun _ h9 => h9) rfl dX6_result_4 ?_
  exact tk_ri hQ (tk_s1 hf) rfl hx hb hr hlocks hP hD hS dX6_result_7
abbrev rm_X6_sidesAreOpen : Room := { frames := 1, cells := 0, slots := 0, locals := 22 }
set_option maxHeartbeats 4000000 in
set_option maxRecDepth 100000 in
theorem c_X6_sidesAreOpen (l : Launch) (G : va_G) (c3 : ClassId × ClassId × ClassId) (q : Nat → Nat) (S : tk_ST) (r0 : Int32) (hf : f_X6_sidesAreOpen S = some r0) : tk_Mi l yX6_sidesAreOpen wsX6_sidesAreOpen rm_X6_sidesAreOpen G c3 [.ref (q 0)] (tk_H c3 q S) (tk_H c3 q S) r0 := by
  refine tk_ofi (cc := cX6_sidesAreOpen) (maxL := 1) (ret := some .boolean) (by decide) rfl (Nat.le_of_ble_eq_true rfl) ?_
  intro p e s m below meth c A Q ls H locs hx hb hml hr hts hown hlocks hE hA hP hD hS hZ hQ hl
  have hl : lv_has ls 1 [(0, .ref (q 0))] := hl
  have hown : s.vm.findClass RX6 = some m.cls := hown
  have J_37 : ∀ (H : Heap) (locs : List Loc) (_ : va_P G vwCl (tk_H c3 q S) H) (_ : va_D A (tk_H c3 q S)) (_ : va_S A s.heap H locs) (ls : Array Slot) (_ : lv_has ls 1 []) (_ : f_X6_sidesAreOpen_37 S = some r0), W p l e rm_X6_sidesAreOpen s m ([.ref (q 0)] : List Value).toArray below meth c H locs 0 0 Q (F0 m 37 ls []) := by
    intro  H locs hP hD hS ls hl hf
    unfold f_X6_sidesAreOpen_37 at hf
    refine lv_iconst (v := 1) hx hb dX6_sidesAreOpen_37 (by decide) ?_
    refine lv_goto (tgt := 42) hx hb dX6_sidesAreOpen_38 (by decide) ?_
    exact tk_rz hQ (tk_s1 hf) rfl (by decide) hx hb hr hlocks hP hD hS dX6_sidesAreOpen_42
  unfold f_X6_sidesAreOpen at hf
  refine lv_aload_n hx hb dX6_sidesAreOpen_0 rfl (lv_at hl 0 rfl) ?_
  refine va_get (D := G) (ci := 6) (v := .int (S.1 4)) (C := RX6) (T := TX6) (N := 18) hx hb hts i_X6_sidesAreOpen_X6 hown hE.1 hP 0 rfl rfl 10 (by decide) (hts _ m_X6_sidesAreOpen_f62) (fun _ h9 => h9) rfl dX6_sidesAreOpen_1 ?_
  refine lv_iconst (v := -1) hx hb dX6_sidesAreOpen_4 (by decide) ?_
  refine lv_icmp_eq (tgt := 37) hx hb dX6_sidesAreOpen_5 (by decide) (fun h1 => ?_) (fun h1 => ?_)
  · have hf := tk_pos hf h1
    exact J_37 H locs hP hD hS ls (lv_sub hl [] rfl) hf
  · have hf := tk_neg hf h1
    refine lv_aload_n hx hb dX6_sidesAreOpen_8 rfl (lv_at hl 0 rfl) ?_
    refine va_get (D := G) (ci := 6) (v := .int (S.1 5)) (C := RX6) (T := TX6) (N := 18) hx hb hts i_X6_sidesAreOpen_X6 hown hE.1 hP 0 rfl rfl 11 (by decide) (hts _ m_X6_sidesAreOpen_f65) (fun _ h9 => h9) rfl dX6_sidesAreOpen_9 ?_
    refine lv_iconst (v := -1) hx hb dX6_sidesAreOpen_12 (by decide) ?_
    refine lv_icmp_eq (tgt := 37) hx hb dX6_sidesAreOpen_13 (by decide) (fun h2 => ?_) (fun h2 => ?_)
    · have hf := tk_pos hf h2
      exact J_37 H locs hP hD hS ls (lv_sub hl [] rfl) hf
    · have hf := tk_neg hf h2
      refine lv_aload_n hx hb dX6_sidesAreOpen_16 rfl (lv_at hl 0 rfl) ?_
      refine va_get (D := G) (ci := 6) (v := .ref (q 13)) (C := RX6) (T := TX6) (N := 18) hx hb hts i_X6_sidesAreOpen_X6 hown hE.1 hP 0 rfl rfl 4 (by decide) (hts _ m_X6_sidesAreOpen_f42) (fun _ h9 => h9) rfl dX6_sidesAreOpen_17 ?_
      refine lv_aload_n hx hb dX6_sidesAreOpen_20 rfl (lv_at hl 0 rfl) ?_
      refine va_get (D := G) (ci := 6) (v := .int (S.1 5)) (C := RX6) (T := TX6) (N := 18) hx hb hts i_X6_sidesAreOpen_X6 hown hE.1 hP 0 rfl rfl 11 (by decide) (hts _ m_X6_sidesAreOpen_f65) (fun _ h9 => h9) rfl dX6_sidesAreOpen_21 ?_
      obtain ⟨r3, h4, hf⟩ := tk_b1s hf
      refine tk_cl (ws' := (tk_H c3 q S)) (va_runV (As := [.int (S.1 5)]) (rest := []) ⟨hx, hb, hml, hown, hts⟩ (c_X3_at_p13 l G c3 q S (S.1 5) r3 h4 H.size) (cwV 1 hts gX6_sidesAreOpen_X3_at rfl rfl rfl hv_X3_at ⟨Nat.le_of_ble_eq_true rfl, Nat.le_of_ble_eq_true rfl⟩) (tk_pV hE hP hD 13 rfl rfl) rfl rfl hl.1 rfl (lv_room (Nat.le_of_ble_eq_true rfl)) dX6_sidesAreOpen_24 ⟨Nat.zero_le _, Nat.zero_le _⟩) hD hS hA (fun H locs hP hD hS => ?_)
      refine lv_aload_n hx hb dX6_sidesAreOpen_27 rfl (lv_at hl 0 rfl) ?_
      obtain ⟨r6, h7, hf⟩ := tk_b1s hf
      refine tk_ci (ws' := (tk_H c3 q S)) (va_runV (As := []) (rest := [.long r3]) ⟨hx, hb, hml, hown, hts⟩ (c_X6_calledKing l G c3 q S r6 h7 H.size) (cwV 0 hts gX6_sidesAreOpen_X6_calledKing rfl rfl rfl hv_X6_calledKing ⟨Nat.le_of_ble_eq_true rfl, Nat.le_of_ble_eq_true rfl⟩) (tk_pV hE hP hD 0 rfl rfl) rfl rfl hl.1 rfl (lv_room (Nat.le_of_ble_eq_true rfl)) dX6_sidesAreOpen_28 ⟨Nat.zero_le _, Nat.zero_le _⟩) hD hS hA (fun H locs hP hD hS => ?_)
      obtain ⟨r9, h10, hf⟩ := tk_b1s hf
      refine tk_ci (ws' := (tk_H c3 q S)) (va_runS (As := [.long r3, .int r6]) (rest := []) ⟨hx, hb, hml, hown, hts⟩ (c_X6_holds l G c3 (tk_H c3 q S) r3 r6 r9 h10 H.size) (va_cwS 2 hts gX6_sidesAreOpen_X6_holds rfl rfl rfl hs_X6_holds ⟨Nat.le_of_ble_eq_true rfl, Nat.le_of_ble_eq_true rfl⟩) (tk_pS hE hP hD) rfl rfl hl.1 rfl (lv_room (Nat.le_of_ble_eq_true rfl)) dX6_sidesAreOpen_31 ⟨Nat.zero_le _, Nat.zero_le _⟩) hD hS hA (fun H locs hP hD hS => ?_)
      refine lv_if_ne (tgt := 41) hx hb dX6_sidesAreOpen_34 (by decide) (fun h12 => ?_) (fun h12 => ?_)
      · have hf := tk_neg hf h12
        refine lv_iconst (v := 0) hx hb dX6_sidesAreOpen_41 (by decide) ?_
        exact tk_rz hQ (tk_s1 hf) rfl (by decide) hx hb hr hlocks hP hD hS dX6_sidesAreOpen_42
      · have hf := tk_pos hf h12
        exact J_37 H locs hP hD hS ls (lv_sub hl [] rfl) hf
abbrev rm_X6_knows : Room := { frames := 6, cells := 1, slots := 6, locals := 90 }
set_option maxHeartbeats 4000000 in
set_option maxRecDepth 100000 in
theorem c_X6_knows (l : Launch) (hlst : l.stackTraces = false) (G : va_G) (c3 : ClassId × ClassId × ClassId) (q : Nat → Nat) (S : tk_ST) (p0 : Int32) (p1 : Int32) (k0 : Int32) (r0 : Int32) (hf : f_X6_knows p0 p1 S = some (k0, r0)) : tk_Xi l yX6_knows wsX6_knows rm_X6_knows G c3 [.ref (q 0), .int p0, .int p1] (tk_H c3 q S) (tk_H c3 q S) k0 r0 := by
  refine tk_ofXi (cc := cX6_knows) (maxL := 4) (ret := some .int) (by decide) rfl (Nat.le_of_ble_eq_true rfl) ?_
  intro p e s m below meth c A Q ls H locs hx hb hml hr hts hown hlocks hE hA hP hD hS hZ hQ hl
  have hl : lv_has ls 4 [(0, .ref (q 0)), (1, .int p0), (2, .int p1)] := hl
  have hown : s.vm.findClass RX6 = some m.cls := hown
  have J_14 : ∀ (H : Heap) (locs : List Loc) (_ : va_P G vwCl (tk_H c3 q S) H) (_ : va_D A (tk_H c3 q S)) (_ : va_S A s.heap H locs) (ls : Array Slot) (_ : lv_has ls 4 []) (_ : f_X6_knows_14 S = some (k0, r0)), W p l e rm_X6_knows s m ([.ref (q 0), .int p0, .int p1] : List Value).toArray below meth c H locs 0 0 Q (F0 m 14 ls []) := by
    intro  H locs hP hD hS ls hl hf
    unfold f_X6_knows_14 at hf
    exact tk_throw (G := G) (c3 := c3) (cls := "java/lang/IndexOutOfBoundsException") (text := "no such player") (ik := 126) (is := 242) (ic := 130) hQ (tk_s2 hf).1 (by decide) ex_3 rfl hlst hx hb hown ft_3 (hts _ m_X6_knows_cl126) (hts _ m_X6_knows_ie3) hE st_242 (fun w h => hts w (h_X6_knows_x130 w h)) ng_130 hE.2.1.2.2.2.2.2.2.2.2.2.2.2.2.1 gd_130 hZ.1 hP hD hS (hl.1.trans hml.symm) dX6_knows_14 dX6_knows_17 dX6_knows_18 dX6_knows_20 dX6_knows_23 hZ.2 (Nat.le_of_ble_eq_true rfl) (Nat.le_of_ble_eq_true rfl) (Nat.le_of_ble_eq_true rfl) (Nat.le_of_ble_eq_true rfl) hlocks
  have J_75 : ∀ (x2_75 : Int32) (k0_75 : Int32) (H : Heap) (locs : List Loc) (_ : va_P G vwCl (tk_H c3 q S) H) (_ : va_D A (tk_H c3 q S)) (_ : va_S A s.heap H locs) (ls : Array Slot) (_ : lv_has ls 4 [(0, .ref (q 0)), (2, .int x2_75)]) (_ : f_X6_knows_75 x2_75 k0_75 S = some (k0, r0)), W p l e rm_X6_knows s m ([.ref (q 0), .int p0, .int p1] : List Value).toArray below meth c H locs 0 0 Q (F0 m 75 ls [.int k0_75]) := by
    intro x2_75 k0_75 H locs hP hD hS ls hl hf
    unfold f_X6_knows_75 at hf
    refine lv_istore_n (lv' := [(3, .int k0_75), (0, .ref (q 0)), (2, .int x2_75)]) hx hb dX6_knows_75 rfl hl (by decide) rfl (fun ls hl => ?_)
    refine lv_iload_n hx hb dX6_knows_76 rfl (lv_at hl 0 rfl) ?_
    refine lv_if_eq (tgt := 88) hx hb dX6_knows_77 (by decide) (fun h1 => ?_) (fun h1 => ?_)
    · have hf := tk_pos hf h1
      refine lv_iconst (v := -1) hx hb dX6_knows_88 (by decide) ?_
      exact tk_xri hQ (tk_s2 hf).1 (tk_s2 hf).2 rfl hx hb hr hlocks hP hD hS dX6_knows_89
    · have hf := tk_neg hf h1
      refine lv_aload_n hx hb dX6_knows_80 rfl (lv_at hl 1 rfl) ?_
      refine lv_iload_n hx hb dX6_knows_81 rfl (lv_at hl 2 rfl) ?_
      obtain ⟨r2, h3, hf⟩ := tk_b1s hf
      refine tk_ci (ws' := (tk_H c3 q S)) (va_runV (As := [.int x2_75]) (rest := []) ⟨hx, hb, hml, hown, hts⟩ (c_X6_sideOf l G c3 q S x2_75 r2 h3 H.size) (cwV 1 hts gX6_knows_X6_sideOf rfl rfl rfl hv_X6_sideOf ⟨Nat.le_of_ble_eq_true rfl, Nat.le_of_ble_eq_true rfl⟩) (tk_pV hE hP hD 0 rfl rfl) rfl rfl hl.1 rfl (lv_room (Nat.le_of_ble_eq_true rfl)) dX6_knows_82 ⟨Nat.zero_le _, Nat.zero_le _⟩) hD hS hA (fun H locs hP hD hS => ?_)
      refine lv_goto (tgt := 89) hx hb dX6_knows_85 (by decide) ?_
      exact tk_xri hQ (tk_s2 hf).1 (tk_s2 hf).2 rfl hx hb hr hlocks hP hD hS dX6_knows_89
  have J_70 : ∀ (x2_70 : Int32) (H : Heap) (locs : List Loc) (_ : va_P G vwCl (tk_H c3 q S) H) (_ : va_D A (tk_H c3 q S)) (_ : va_S A s.heap H locs) (ls : Array Slot) (_ : lv_has ls 4 [(0, .ref (q 0)), (2, .int x2_70)]) (_ : f_X6_knows_70 x2_70 S = some (k0, r0)), W p l e rm_X6_knows s m ([.ref (q 0), .int p0, .int p1] : List Value).toArray below meth c H locs 0 0 Q (F0 m 70 ls []) := by
    intro x2_70 H locs hP hD hS ls hl hf
    unfold f_X6_knows_70 at hf
    refine lv_iconst (v := 1) hx hb dX6_knows_70 (by decide) ?_
    refine lv_goto (tgt := 75) hx hb dX6_knows_71 (by decide) ?_
    exact J_75 x2_70 (1 : Int32) H locs hP hD hS ls (lv_sub hl [0, 1] rfl) hf
  unfold f_X6_knows at hf
  refine lv_iload_n hx hb dX6_knows_0 rfl (lv_at hl 1 rfl) ?_
  obtain ⟨r5, h6, hf⟩ := tk_b1s hf
  refine tk_ci (ws' := (tk_H c3 q S)) (va_runS (As := [.int p0]) (rest := []) ⟨hx, hb, hml, hown, hts⟩ (c_X6_isPlayer l G c3 (tk_H c3 q S) p0 r5 h6 H.size) (va_cwS 1 hts gX6_knows_X6_isPlayer rfl rfl rfl hs_X6_isPlayer ⟨Nat.le_of_ble_eq_true rfl, Nat.le_of_ble_eq_true rfl⟩) (tk_pS hE hP hD) rfl rfl hl.1 rfl (lv_room (Nat.le_of_ble_eq_true rfl)) dX6_knows_1 ⟨Nat.zero_le _, Nat.zero_le _⟩) hD hS hA (fun H locs hP hD hS => ?_)
  refine lv_if_eq (tgt := 14) hx hb dX6_knows_4 (by decide) (fun h8 => ?_) (fun h8 => ?_)
  · have hf := tk_pos hf h8
    exact J_14 H locs hP hD hS ls (lv_sub hl [] rfl) hf
  · have hf := tk_neg hf h8
    refine lv_iload_n hx hb dX6_knows_7 rfl (lv_at hl 2 rfl) ?_
    obtain ⟨r9, h10, hf⟩ := tk_b1s hf
    refine tk_ci (ws' := (tk_H c3 q S)) (va_runS (As := [.int p1]) (rest := []) ⟨hx, hb, hml, hown, hts⟩ (c_X6_isPlayer l G c3 (tk_H c3 q S) p1 r9 h10 H.size) (va_cwS 1 hts gX6_knows_X6_isPlayer rfl rfl rfl hs_X6_isPlayer ⟨Nat.le_of_ble_eq_true rfl, Nat.le_of_ble_eq_true rfl⟩) (tk_pS hE hP hD) rfl rfl hl.1 rfl (lv_room (Nat.le_of_ble_eq_true rfl)) dX6_knows_8 ⟨Nat.zero_le _, Nat.zero_le _⟩) hD hS hA (fun H locs hP hD hS => ?_)
    refine lv_if_ne (tgt := 24) hx hb dX6_knows_11 (by decide) (fun h12 => ?_) (fun h12 => ?_)
    · have hf := tk_neg hf h12
      refine lv_aload_n hx hb dX6_knows_24 rfl (lv_at hl 0 rfl) ?_
      refine va_get (D := G) (ci := 6) (v := .int (S.1 3)) (C := RX6) (T := TX6) (N := 18) hx hb hts i_X6_knows_X6 hown hE.1 hP 0 rfl rfl 9 (by decide) (hts _ m_X6_knows_f59) (fun _ h9 => h9) rfl dX6_knows_25 ?_
      refine lv_iconst (v := -1) hx hb dX6_knows_28 (by decide) ?_
      refine lv_icmp_eq (tgt := 40) hx hb dX6_knows_29 (by decide) (fun h13 => ?_) (fun h13 => ?_)
      · have hf := tk_pos hf h13
        refine lv_iconst (v := -1) hx hb dX6_knows_40 (by decide) ?_
        exact tk_xri hQ (tk_s2 hf).1 (tk_s2 hf).2 rfl hx hb hr hlocks hP hD hS dX6_knows_41
      · have hf := tk_neg hf h13
        refine lv_aload_n hx hb dX6_knows_32 rfl (lv_at hl 0 rfl) ?_
        refine va_get (D := G) (ci := 6) (v := .int (S.1 1)) (C := RX6) (T := TX6) (N := 18) hx hb hts i_X6_knows_X6 hown hE.1 hP 0 rfl rfl 7 (by decide) (hts _ m_X6_knows_f53) (fun _ h9 => h9) rfl dX6_knows_33 ?_
        refine lv_iconst (v := 2) hx hb dX6_knows_36 (by decide) ?_
        refine lv_icmp_ne (tgt := 42) hx hb dX6_knows_37 (by decide) (fun h14 => ?_) (fun h14 => ?_)
        · have hf := tk_neg hf h14
          refine lv_iload_n hx hb dX6_knows_42 rfl (lv_at hl 2 rfl) ?_
          refine lv_aload_n hx hb dX6_knows_43 rfl (lv_at hl 0 rfl) ?_
          refine va_get (D := G) (ci := 6) (v := .int (S.1 3)) (C := RX6) (T := TX6) (N := 18) hx hb hts i_X6_knows_X6 hown hE.1 hP 0 rfl rfl 9 (by decide) (hts _ m_X6_knows_f59) (fun _ h9 => h9) rfl dX6_knows_44 ?_
          refine lv_icmp_eq (tgt := 70) hx hb dX6_knows_47 (by decide) (fun h15 => ?_) (fun h15 => ?_)
          · have hf := tk_pos hf h15
            exact J_70 p1 H locs hP hD hS ls (lv_sub hl [0, 2] rfl) hf
          · have hf := tk_neg hf h15
            refine lv_iload_n hx hb dX6_knows_50 rfl (lv_at hl 2 rfl) ?_
            refine lv_iload_n hx hb dX6_knows_51 rfl (lv_at hl 1 rfl) ?_
            refine lv_icmp_eq (tgt := 70) hx hb dX6_knows_52 (by decide) (fun h16 => ?_) (fun h16 => ?_)
            · have hf := tk_pos hf h16
              exact J_70 p1 H locs hP hD hS ls (lv_sub hl [0, 2] rfl) hf
            · have hf := tk_neg hf h16
              refine lv_iload_n hx hb dX6_knows_55 rfl (lv_at hl 1 rfl) ?_
              refine lv_aload_n hx hb dX6_knows_56 rfl (lv_at hl 0 rfl) ?_
              refine va_get (D := G) (ci := 6) (v := .int (S.1 5)) (C := RX6) (T := TX6) (N := 18) hx hb hts i_X6_knows_X6 hown hE.1 hP 0 rfl rfl 11 (by decide) (hts _ m_X6_knows_f65) (fun _ h9 => h9) rfl dX6_knows_57 ?_
              refine lv_icmp_eq (tgt := 70) hx hb dX6_knows_60 (by decide) (fun h17 => ?_) (fun h17 => ?_)
              · have hf := tk_pos hf h17
                exact J_70 p1 H locs hP hD hS ls (lv_sub hl [0, 2] rfl) hf
              · have hf := tk_neg hf h17
                refine lv_aload_n hx hb dX6_knows_63 rfl (lv_at hl 0 rfl) ?_
                obtain ⟨r18, h19, hf⟩ := tk_b1s hf
                refine tk_ci (ws' := (tk_H c3 q S)) (va_runV (As := []) (rest := []) ⟨hx, hb, hml, hown, hts⟩ (c_X6_sidesAreOpen l G c3 q S r18 h19 H.size) (cwV 0 hts gX6_knows_X6_sidesAreOpen rfl rfl rfl hv_X6_sidesAreOpen ⟨Nat.le_of_ble_eq_true rfl, Nat.le_of_ble_eq_true rfl⟩) (tk_pV hE hP hD 0 rfl rfl) rfl rfl hl.1 rfl (lv_room (Nat.le_of_ble_eq_true rfl)) dX6_knows_64 ⟨Nat.zero_le _, Nat.zero_le _⟩) hD hS hA (fun H locs hP hD hS => ?_)
                refine lv_if_eq (tgt := 74) hx hb dX6_knows_67 (by decide) (fun h21 => ?_) (fun h21 => ?_)
                · have hf := tk_pos hf h21
                  refine lv_iconst (v := 0) hx hb dX6_knows_74 (by decide) ?_
                  exact J_75 p1 (0 : Int32) H locs hP hD hS ls (lv_sub hl [0, 2] rfl) hf
                · have hf := tk_neg hf h21
                  exact J_70 p1 H locs hP hD hS ls (lv_sub hl [0, 2] rfl) hf
        · have hf := tk_pos hf h14
          refine lv_iconst (v := -1) hx hb dX6_knows_40 (by decide) ?_
          exact tk_xri hQ (tk_s2 hf).1 (tk_s2 hf).2 rfl hx hb hr hlocks hP hD hS dX6_knows_41
    · have hf := tk_pos hf h12
      exact J_14 H locs hP hD hS ls (lv_sub hl [] rfl) hf
