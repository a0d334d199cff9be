theorem tk_cHO {c3 : ClassId × ClassId × ClassId} {q : Nat → Nat} {S S1 : tk_ST} {o o1 : Nat → Int64} (h1 : S = S1) (h2 : o = o1) : tk_H c3 q S ++ tk_O c3 q o = tk_H c3 q S1 ++ tk_O c3 q o1 := by rw [h1, h2]
theorem tk_in01 : vp_in 0 1 := by show ¬ ((0 : Int32) < 0 ∨ 1 ≤ (0 : Int32).toNatClampNeg); decide
set_option maxRecDepth 20000 in
theorem hv_X6_deal : yX6_deal.cls = RX6 ∧ yX6_deal.cls ≠ "java/lang/invoke/MethodHandle" ∧ yX6_deal.cls ≠ "java/lang/invoke/VarHandle" ∧ (parseMethodDescriptor yX6_deal.desc).map (fun d => d.parameters.length) = some 1 := by decide +kernel
set_option maxRecDepth 20000 in
theorem m_L_deal_c13 : Cond.classLink RL 13 "java/lang/IllegalArgumentException" ∈ wsL_deal := by decide +kernel
set_option maxRecDepth 20000 in
theorem m_L_deal_c15 : Cond.classLink RL 15 "java/lang/IllegalStateException" ∈ wsL_deal := by decide +kernel
set_option maxRecDepth 20000 in
theorem hv_X6_bid : yX6_bid.cls = RX6 ∧ yX6_bid.cls ≠ "java/lang/invoke/MethodHandle" ∧ yX6_bid.cls ≠ "java/lang/invoke/VarHandle" ∧ (parseMethodDescriptor yX6_bid.desc).map (fun d => d.parameters.length) = some 1 := by decide +kernel
set_option maxRecDepth 20000 in
theorem m_L_bid_c13 : Cond.classLink RL 13 "java/lang/IllegalArgumentException" ∈ wsL_bid := by decide +kernel
set_option maxRecDepth 20000 in
theorem m_L_bid_c15 : Cond.classLink RL 15 "java/lang/IllegalStateException" ∈ wsL_bid := by decide +kernel
set_option maxRecDepth 20000 in
theorem hv_X6_call : yX6_call.cls = RX6 ∧ yX6_call.cls ≠ "java/lang/invoke/MethodHandle" ∧ yX6_call.cls ≠ "java/lang/invoke/VarHandle" ∧ (parseMethodDescriptor yX6_call.desc).map (fun d => d.parameters.length) = some 1 := by decide +kernel
set_option maxRecDepth 20000 in
theorem m_L_call_c23 : Cond.classLink RL 23 "java/lang/IndexOutOfBoundsException" ∈ wsL_call := by decide +kernel
set_option maxRecDepth 20000 in
theorem m_L_call_c15 : Cond.classLink RL 15 "java/lang/IllegalStateException" ∈ wsL_call := by decide +kernel
set_option maxRecDepth 20000 in
theorem hv_X6_take : yX6_take.cls = RX6 ∧ yX6_take.cls ≠ "java/lang/invoke/MethodHandle" ∧ yX6_take.cls ≠ "java/lang/invoke/VarHandle" ∧ (parseMethodDescriptor yX6_take.desc).map (fun d => d.parameters.length) = some 1 := by decide +kernel
set_option maxRecDepth 20000 in
theorem m_L_take_c23 : Cond.classLink RL 23 "java/lang/IndexOutOfBoundsException" ∈ wsL_take := by decide +kernel
set_option maxRecDepth 20000 in
theorem m_L_take_c15 : Cond.classLink RL 15 "java/lang/IllegalStateException" ∈ wsL_take := by decide +kernel
set_option maxRecDepth 20000 in
theorem hv_X6_discard : yX6_discard.cls = RX6 ∧ yX6_discard.cls ≠ "java/lang/invoke/MethodHandle" ∧ yX6_discard.cls ≠ "java/lang/invoke/VarHandle" ∧ (parseMethodDescriptor yX6_discard.desc).map (fun d => d.parameters.length) = some 1 := by decide +kernel
set_option maxRecDepth 20000 in
theorem m_L_discard_c23 : Cond.classLink RL 23 "java/lang/IndexOutOfBoundsException" ∈ wsL_discard := by decide +kernel
set_option maxRecDepth 20000 in
theorem m_L_discard_c15 : Cond.classLink RL 15 "java/lang/IllegalStateException" ∈ wsL_discard := by decide +kernel
set_option maxRecDepth 20000 in
theorem hv_X6_announce : yX6_announce.cls = RX6 ∧ yX6_announce.cls ≠ "java/lang/invoke/MethodHandle" ∧ yX6_announce.cls ≠ "java/lang/invoke/VarHandle" ∧ (parseMethodDescriptor yX6_announce.desc).map (fun d => d.parameters.length) = some 1 := by decide +kernel
set_option maxRecDepth 20000 in
theorem m_L_announce_c23 : Cond.classLink RL 23 "java/lang/IndexOutOfBoundsException" ∈ wsL_announce := by decide +kernel
set_option maxRecDepth 20000 in
theorem m_L_announce_c15 : Cond.classLink RL 15 "java/lang/IllegalStateException" ∈ wsL_announce := by decide +kernel
set_option maxRecDepth 20000 in
theorem hv_X6_play : yX6_play.cls = RX6 ∧ yX6_play.cls ≠ "java/lang/invoke/MethodHandle" ∧ yX6_play.cls ≠ "java/lang/invoke/VarHandle" ∧ (parseMethodDescriptor yX6_play.desc).map (fun d => d.parameters.length) = some 1 := by decide +kernel
set_option maxRecDepth 20000 in
theorem m_L_play_c23 : Cond.classLink RL 23 "java/lang/IndexOutOfBoundsException" ∈ wsL_play := by decide +kernel
set_option maxRecDepth 20000 in
theorem m_L_play_c15 : Cond.classLink RL 15 "java/lang/IllegalStateException" ∈ wsL_play := by decide +kernel
set_option maxRecDepth 20000 in
theorem hv_X6_playLowest : yX6_playLowest.cls = RX6 ∧ yX6_playLowest.cls ≠ "java/lang/invoke/MethodHandle" ∧ yX6_playLowest.cls ≠ "java/lang/invoke/VarHandle" ∧ (parseMethodDescriptor yX6_playLowest.desc).map (fun d => d.parameters.length) = some 1 := by decide +kernel
set_option maxRecDepth 20000 in
theorem m_L_playLowest_c13 : Cond.classLink RL 13 "java/lang/IllegalArgumentException" ∈ wsL_playLowest := by decide +kernel
set_option maxRecDepth 20000 in
theorem m_L_playLowest_c15 : Cond.classLink RL 15 "java/lang/IllegalStateException" ∈ wsL_playLowest := by decide +kernel
set_option maxRecDepth 20000 in
theorem hv_X6_hand : yX6_hand.cls = RX6 ∧ yX6_hand.cls ≠ "java/lang/invoke/MethodHandle" ∧ yX6_hand.cls ≠ "java/lang/invoke/VarHandle" ∧ (parseMethodDescriptor yX6_hand.desc).map (fun d => d.parameters.length) = some 1 := by decide +kernel
set_option maxRecDepth 20000 in
theorem m_L_hand_c23 : Cond.classLink RL 23 "java/lang/IndexOutOfBoundsException" ∈ wsL_hand := by decide +kernel
set_option maxRecDepth 20000 in
theorem hv_X6_talonAt : yX6_talonAt.cls = RX6 ∧ yX6_talonAt.cls ≠ "java/lang/invoke/MethodHandle" ∧ yX6_talonAt.cls ≠ "java/lang/invoke/VarHandle" ∧ (parseMethodDescriptor yX6_talonAt.desc).map (fun d => d.parameters.length) = some 1 := by decide +kernel
set_option maxRecDepth 20000 in
theorem m_L_talonAt_c23 : Cond.classLink RL 23 "java/lang/IndexOutOfBoundsException" ∈ wsL_talonAt := by decide +kernel
set_option maxRecDepth 20000 in
theorem m_L_talonAt_c15 : Cond.classLink RL 15 "java/lang/IllegalStateException" ∈ wsL_talonAt := by decide +kernel
set_option maxRecDepth 20000 in
theorem hv_X6_trickAt : yX6_trickAt.cls = RX6 ∧ yX6_trickAt.cls ≠ "java/lang/invoke/MethodHandle" ∧ yX6_trickAt.cls ≠ "java/lang/invoke/VarHandle" ∧ (parseMethodDescriptor yX6_trickAt.desc).map (fun d => d.parameters.length) = some 1 := by decide +kernel
set_option maxRecDepth 20000 in
theorem m_L_trickAt_c23 : Cond.classLink RL 23 "java/lang/IndexOutOfBoundsException" ∈ wsL_trickAt := by decide +kernel
set_option maxRecDepth 20000 in
theorem hv_X6_canPlay : yX6_canPlay.cls = RX6 ∧ yX6_canPlay.cls ≠ "java/lang/invoke/MethodHandle" ∧ yX6_canPlay.cls ≠ "java/lang/invoke/VarHandle" ∧ (parseMethodDescriptor yX6_canPlay.desc).map (fun d => d.parameters.length) = some 1 := by decide +kernel
set_option maxRecDepth 20000 in
theorem m_L_canPlay_c23 : Cond.classLink RL 23 "java/lang/IndexOutOfBoundsException" ∈ wsL_canPlay := by decide +kernel
set_option maxRecDepth 20000 in
theorem hv_X6_valueOf : yX6_valueOf.cls = RX6 ∧ yX6_valueOf.cls ≠ "java/lang/invoke/MethodHandle" ∧ yX6_valueOf.cls ≠ "java/lang/invoke/VarHandle" ∧ (parseMethodDescriptor yX6_valueOf.desc).map (fun d => d.parameters.length) = some 1 := by decide +kernel
set_option maxRecDepth 20000 in
theorem m_L_valueOf_c23 : Cond.classLink RL 23 "java/lang/IndexOutOfBoundsException" ∈ wsL_valueOf := by decide +kernel
set_option maxRecDepth 20000 in
theorem hv_X6_thirds : yX6_thirds.cls = RX6 ∧ yX6_thirds.cls ≠ "java/lang/invoke/MethodHandle" ∧ yX6_thirds.cls ≠ "java/lang/invoke/VarHandle" ∧ (parseMethodDescriptor yX6_thirds.desc).map (fun d => d.parameters.length) = some 1 := by decide +kernel
set_option maxRecDepth 20000 in
theorem m_L_thirds_c23 : Cond.classLink RL 23 "java/lang/IndexOutOfBoundsException" ∈ wsL_thirds := by decide +kernel
set_option maxRecDepth 20000 in
theorem hv_X6_byPacks : yX6_byPacks.cls = RX6 ∧ yX6_byPacks.cls ≠ "java/lang/invoke/MethodHandle" ∧ yX6_byPacks.cls ≠ "java/lang/invoke/VarHandle" ∧ (parseMethodDescriptor yX6_byPacks.desc).map (fun d => d.parameters.length) = some 1 := by decide +kernel
set_option maxRecDepth 20000 in
theorem m_L_byPacks_c23 : Cond.classLink RL 23 "java/lang/IndexOutOfBoundsException" ∈ wsL_byPacks := by decide +kernel
set_option maxRecDepth 20000 in
theorem hv_X6_score : yX6_score.cls = RX6 ∧ yX6_score.cls ≠ "java/lang/invoke/MethodHandle" ∧ yX6_score.cls ≠ "java/lang/invoke/VarHandle" ∧ (parseMethodDescriptor yX6_score.desc).map (fun d => d.parameters.length) = some 1 := by decide +kernel
set_option maxRecDepth 20000 in
theorem m_L_score_c23 : Cond.classLink RL 23 "java/lang/IndexOutOfBoundsException" ∈ wsL_score := by decide +kernel
set_option maxRecDepth 20000 in
theorem hv_X6_radli : yX6_radli.cls = RX6 ∧ yX6_radli.cls ≠ "java/lang/invoke/MethodHandle" ∧ yX6_radli.cls ≠ "java/lang/invoke/VarHandle" ∧ (parseMethodDescriptor yX6_radli.desc).map (fun d => d.parameters.length) = some 1 := by decide +kernel
set_option maxRecDepth 20000 in
theorem m_L_radli_c23 : Cond.classLink RL 23 "java/lang/IndexOutOfBoundsException" ∈ wsL_radli := by decide +kernel
set_option maxRecDepth 20000 in
theorem hv_X6_knows : yX6_knows.cls = RX6 ∧ yX6_knows.cls ≠ "java/lang/invoke/MethodHandle" ∧ yX6_knows.cls ≠ "java/lang/invoke/VarHandle" ∧ (parseMethodDescriptor yX6_knows.desc).map (fun d => d.parameters.length) = some 2 := by decide +kernel
set_option maxRecDepth 20000 in
theorem m_L_knows_c23 : Cond.classLink RL 23 "java/lang/IndexOutOfBoundsException" ∈ wsL_knows := by decide +kernel
def f_L_deal (p0 : Int32) (S : tk_ST) (o : Nat → Int64) : Option (Int32 × tk_ST × (Nat → Int64)) := tk_b3 (f_X6_deal p0 S) fun k r S1 => (if k = 0 then some ((0 : Int32), S1, (vp_updL o (0 : Int32).toNatClampNeg r.toInt64)) else (if k = (1 : Int32) then some ((1 : Int32), S1, o) else (if k = (2 : Int32) then some ((2 : Int32), S1, o) else none)))
def f_L_bid (p0 : Int32) (S : tk_ST) (o : Nat → Int64) : Option (Int32 × tk_ST × (Nat → Int64)) := tk_b3 (f_X6_bid p0 S) fun k r S1 => (if k = 0 then some ((0 : Int32), S1, (vp_updL o (0 : Int32).toNatClampNeg r.toInt64)) else (if k = (1 : Int32) then some ((1 : Int32), S1, o) else (if k = (2 : Int32) then some ((2 : Int32), S1, o) else none)))
def f_L_call (p0 : Int32) (S : tk_ST) (o : Nat → Int64) : Option (Int32 × tk_ST × (Nat → Int64)) := tk_b3 (f_X6_call p0 S) fun k r S1 => (if k = 0 then some ((0 : Int32), S1, (vp_updL o (0 : Int32).toNatClampNeg r.toInt64)) else (if k = (3 : Int32) then some ((1 : Int32), S1, o) else (if k = (2 : Int32) then some ((2 : Int32), S1, o) else none)))
def f_L_take (p0 : Int32) (S : tk_ST) (o : Nat → Int64) : Option (Int32 × tk_ST × (Nat → Int64)) := tk_b3 (f_X6_take p0 S) fun k r S1 => (if k = 0 then some ((0 : Int32), S1, (vp_updL o (0 : Int32).toNatClampNeg r.toInt64)) else (if k = (3 : Int32) then some ((1 : Int32), S1, o) else (if k = (2 : Int32) then some ((2 : Int32), S1, o) else none)))
def f_L_discard (p0 : Int32) (S : tk_ST) (o : Nat → Int64) : Option (Int32 × tk_ST × (Nat → Int64)) := tk_b3 (f_X6_discard p0 S) fun k r S1 => (if k = 0 then some ((0 : Int32), S1, (vp_updL o (0 : Int32).toNatClampNeg r.toInt64)) else (if k = (3 : Int32) then some ((1 : Int32), S1, o) else (if k = (2 : Int32) then some ((2 : Int32), S1, o) else none)))
def f_L_announce (p0 : Int32) (S : tk_ST) (o : Nat → Int64) : Option (Int32 × tk_ST × (Nat → Int64)) := tk_b3 (f_X6_announce p0 S) fun k r S1 => (if k = 0 then some ((0 : Int32), S1, (vp_updL o (0 : Int32).toNatClampNeg r.toInt64)) else (if k = (3 : Int32) then some ((1 : Int32), S1, o) else (if k = (2 : Int32) then some ((2 : Int32), S1, o) else none)))
def f_L_play (p0 : Int32) (S : tk_ST) (o : Nat → Int64) : Option (Int32 × tk_ST × (Nat → Int64)) := tk_b3 (f_X6_play p0 S) fun k r S1 => (if k = 0 then some ((0 : Int32), S1, (vp_updL o (0 : Int32).toNatClampNeg r.toInt64)) else (if k = (3 : Int32) then some ((1 : Int32), S1, o) else (if k = (2 : Int32) then some ((2 : Int32), S1, o) else none)))
def f_L_playLowest (p0 : Int32) (S : tk_ST) (o : Nat → Int64) : Option (Int32 × tk_ST × (Nat → Int64)) := tk_b3 (f_X6_playLowest p0 S) fun k r S1 => (if k = 0 then some ((0 : Int32), S1, (vp_updL o (0 : Int32).toNatClampNeg r.toInt64)) else (if k = (1 : Int32) then some ((1 : Int32), S1, o) else (if k = (2 : Int32) then some ((2 : Int32), S1, o) else none)))
def f_L_hand (p0 : Int32) (S : tk_ST) (o : Nat → Int64) : Option (Int32 × tk_ST × (Nat → Int64)) := tk_b2 (f_X6_hand p0 S) fun k r => (if k = 0 then some ((0 : Int32), S, (vp_updL o (0 : Int32).toNatClampNeg r)) else (if k = (3 : Int32) then some ((1 : Int32), S, o) else none))
def f_L_talonAt (p0 : Int32) (S : tk_ST) (o : Nat → Int64) : Option (Int32 × tk_ST × (Nat → Int64)) := tk_b2 (f_X6_talonAt p0 S) fun k r => (if k = 0 then some ((0 : Int32), S, (vp_updL o (0 : Int32).toNatClampNeg r.toInt64)) else (if k = (3 : Int32) then some ((1 : Int32), S, o) else (if k = (2 : Int32) then some ((2 : Int32), S, o) else none)))
def f_L_trickAt (p0 : Int32) (S : tk_ST) (o : Nat → Int64) : Option (Int32 × tk_ST × (Nat → Int64)) := tk_b2 (f_X6_trickAt p0 S) fun k r => (if k = 0 then some ((0 : Int32), S, (vp_updL o (0 : Int32).toNatClampNeg r.toInt64)) else (if k = (3 : Int32) then some ((1 : Int32), S, o) else none))
def f_L_canPlay (p0 : Int32) (S : tk_ST) (o : Nat → Int64) : Option (Int32 × tk_ST × (Nat → Int64)) := tk_b2 (f_X6_canPlay p0 S) fun k r => (if k = 0 then (if r = 0 then some ((0 : Int32), S, (vp_updL o (0 : Int32).toNatClampNeg (0 : Int64))) else some ((0 : Int32), S, (vp_updL o (0 : Int32).toNatClampNeg (1 : Int64)))) else (if k = (3 : Int32) then some ((1 : Int32), S, o) else none))
def f_L_valueOf (p0 : Int32) (S : tk_ST) (o : Nat → Int64) : Option (Int32 × tk_ST × (Nat → Int64)) := tk_b2 (f_X6_valueOf p0 S) fun k r => (if k = 0 then some ((0 : Int32), S, (vp_updL o (0 : Int32).toNatClampNeg r.toInt64)) else (if k = (3 : Int32) then some ((1 : Int32), S, o) else none))
def f_L_thirds (p0 : Int32) (S : tk_ST) (o : Nat → Int64) : Option (Int32 × tk_ST × (Nat → Int64)) := tk_b2 (f_X6_thirds p0 S) fun k r => (if k = 0 then some ((0 : Int32), S, (vp_updL o (0 : Int32).toNatClampNeg r.toInt64)) else (if k = (3 : Int32) then some ((1 : Int32), S, o) else none))
def f_L_byPacks (p0 : Int32) (S : tk_ST) (o : Nat → Int64) : Option (Int32 × tk_ST × (Nat → Int64)) := tk_b2 (f_X6_byPacks p0 S) fun k r => (if k = 0 then some ((0 : Int32), S, (vp_updL o (0 : Int32).toNatClampNeg r.toInt64)) else (if k = (3 : Int32) then some ((1 : Int32), S, o) else none))
def f_L_score (p0 : Int32) (S : tk_ST) (o : Nat → Int64) : Option (Int32 × tk_ST × (Nat → Int64)) := tk_b2 (f_X6_score p0 S) fun k r => (if k = 0 then some ((0 : Int32), S, (vp_updL o (0 : Int32).toNatClampNeg r.toInt64)) else (if k = (3 : Int32) then some ((1 : Int32), S, o) else none))
def f_L_radli (p0 : Int32) (S : tk_ST) (o : Nat → Int64) : Option (Int32 × tk_ST × (Nat → Int64)) := tk_b2 (f_X6_radli p0 S) fun k r => (if k = 0 then some ((0 : Int32), S, (vp_updL o (0 : Int32).toNatClampNeg r.toInt64)) else (if k = (3 : Int32) then some ((1 : Int32), S, o) else none))
def f_L_knows (p0 : Int32) (p1 : Int32) (S : tk_ST) (o : Nat → Int64) : Option (Int32 × tk_ST × (Nat → Int64)) := tk_b2 (f_X6_knows p0 p1 S) fun k r => (if k = 0 then some ((0 : Int32), S, (vp_updL o (0 : Int32).toNatClampNeg r.toInt64)) else (if k = (3 : Int32) then some ((1 : Int32), S, o) else none))
abbrev rm_L_deal : Room := { frames := 7, cells := 1, slots := 6, locals := 111 }
set_option maxHeartbeats 4000000 in
set_option maxRecDepth 100000 in
theorem c_L_deal (l : Launch) (hlst : l.stackTraces = false) (G : va_G) (c3 : ClassId × ClassId × ClassId) (q : Nat → Nat) (S : tk_ST) (o : Nat → Int64) (p0 : Int32) (r0 : Int32) (S0 : tk_ST) (o0 : Nat → Int64) (hf : f_L_deal p0 S o = some (r0, S0, o0)) : tk_Li l yL_deal wsL_deal rm_L_deal G c3 [.ref (q 0), .int p0, .ref (q 26)] (tk_H c3 q S ++ tk_O c3 q o) (tk_H c3 q S0 ++ tk_O c3 q o0) r0 := by
  refine tk_ofLi (cc := cL_deal) (maxL := 4) (ret := some .int) (hh := [(0, 9, 12, 13), (0, 9, 15, 15)]) (by decide) rfl (Nat.le_of_ble_eq_true rfl) ?_
  intro p e s m below meth c A Q ls H locs hx hb hml hr hts hown hlocks hE hA hP hD hS hZ hQ hl
  obtain ⟨hZ, hC, htab⟩ := hZ
  have hl : lv_has ls 4 [(0, .ref (q 0)), (1, .int p0), (2, .ref (q 26))] := hl
  have hown : s.vm.findClass RL = some m.cls := hown
  unfold f_L_deal at hf
  refine lv_aload_n hx hb dL_deal_0 rfl (lv_at hl 2 rfl) ?_
  refine lv_iconst (v := 0) hx hb dL_deal_1 (by decide) ?_
  refine lv_aload_n hx hb dL_deal_2 rfl (lv_at hl 0 rfl) ?_
  refine lv_iload_n hx hb dL_deal_3 rfl (lv_at hl 1 rfl) ?_
  obtain ⟨k, r, S1, h1, hf⟩ := tk_b3s hf
  refine tk_xiL (a := tk_H c3 q S) (a' := tk_H c3 q S1) (b := tk_O c3 q o) (vx_runV (As := [.int p0]) (rest := [.int 0, .ref (q 26)]) ⟨hx, hb, hml, hown, hts⟩ (c_X6_deal l hlst G c3 q S p0 k r S1 h1 H.size) (cwV 1 hts gL_deal_X6_deal rfl rfl rfl hv_X6_deal ⟨Nat.le_of_ble_eq_true rfl, Nat.le_of_ble_eq_true rfl⟩) (tk_pVX hE hZ (tk_Pl hP) (tk_Dl hD) hS hA 0 rfl rfl) rfl rfl hl.1 rfl (lv_room (Nat.le_of_ble_eq_true rfl)) dL_deal_4 ⟨Nat.le_of_ble_eq_true rfl, Nat.le_of_ble_eq_true rfl⟩) hP hD hS hA (fun hk ce q9 H locs hP hD hS hc1 hc2 hc3 => ?_) (fun hk H locs hP hD hS => ?_)
  · have hf := tk_neg hf hk
    by_cases g0 : k = (1 : Int32)
    · have hf := tk_pos hf g0
      have hc3 : s.vm.findClass "java/lang/IllegalArgumentException" = some ce.cls := by rw [ex_1, ← g0]; exact hc3
      refine vx_catch (name := "java/lang/IllegalArgumentException") hown [] ⟨0, 9, 12, 13⟩ [⟨0, 9, 15, 15⟩] (htab.trans rfl) (fun z hz => nomatch hz) (by decide) (by decide) (hts _ m_L_deal_c13) (va_Nw.use rfl hE.2.1.2.2.2.2.2.2.2.2.2.2.1) hc1 hc2 hc3 ?_
      refine lv_astore_n (lv' := [(3, .ref q9), (0, .ref (q 0)), (1, .int p0), (2, .ref (q 26))]) hx hb dL_deal_12 rfl hl (by decide) rfl (fun ls hl => ?_)
      refine lv_iconst (v := 1) hx hb dL_deal_13 (by decide) ?_
      exact tk_rL hQ (tk_s3 hf).1 (tk_cHO (tk_s3 hf).2.1 (tk_s3 hf).2.2) (by decide) (by decide) hx hb hr hlocks hP hD hS dL_deal_14
    have hf := tk_neg hf g0
    by_cases g1 : k = (2 : Int32)
    · have hf := tk_pos hf g1
      have hc3 : s.vm.findClass "java/lang/IllegalStateException" = some ce.cls := by rw [ex_2, ← g1]; exact hc3
      refine vx_catch (name := "java/lang/IllegalStateException") hown [⟨0, 9, 12, 13⟩] ⟨0, 9, 15, 15⟩ [] (htab.trans rfl) (fun z hz => by cases List.mem_singleton.mp hz; exact Or.inr ⟨by decide, "java/lang/IllegalArgumentException", (hts _ m_L_deal_c13), hC.1⟩) (by decide) (by decide) (hts _ m_L_deal_c15) (va_Nw.use rfl hE.2.1.2.2.2.2.2.2.2.2.2.2.2.1) hc1 hc2 hc3 ?_
      refine lv_astore_n (lv' := [(3, .ref q9), (0, .ref (q 0)), (1, .int p0), (2, .ref (q 26))]) hx hb dL_deal_15 rfl hl (by decide) rfl (fun ls hl => ?_)
      refine lv_iconst (v := 2) hx hb dL_deal_16 (by decide) ?_
      exact tk_rL hQ (tk_s3 hf).1 (tk_cHO (tk_s3 hf).2.1 (tk_s3 hf).2.2) (by decide) (by decide) hx hb hr hlocks hP hD hS dL_deal_17
    have hf := tk_neg hf g1
    exact nomatch hf
  · have hf := tk_pos hf hk
    refine lv_i2l (v := r.toInt64) hx hb dL_deal_7 rfl ?_
    refine va_last (f := o) hx hb hE.1 hP hD hS 17 1 rfl rfl tk_in01 dL_deal_8 (fun H locs hP hD hS => ?_)
    have hP : va_P G vwCl (tk_H c3 q S1 ++ tk_O c3 q (vp_updL o (0 : Int32).toNatClampNeg r.toInt64)) H := hP
    have hD : va_D A (tk_H c3 q S1 ++ tk_O c3 q (vp_updL o (0 : Int32).toNatClampNeg r.toInt64)) := hD
    refine lv_goto (tgt := 18) hx hb dL_deal_9 (by decide) ?_
    refine lv_iconst (v := 0) hx hb dL_deal_18 (by decide) ?_
    exact tk_rL hQ (tk_s3 hf).1 (tk_cHO (tk_s3 hf).2.1 (tk_s3 hf).2.2) (by decide) (by decide) hx hb hr hlocks hP hD hS dL_deal_19
abbrev rm_L_bid : Room := { frames := 7, cells := 1, slots := 6, locals := 111 }
set_option maxHeartbeats 4000000 in
set_option maxRecDepth 100000 in
theorem c_L_bid (l : Launch) (hlst : l.stackTraces = false) (G : va_G) (c3 : ClassId × ClassId × ClassId) (q : Nat → Nat) (S : tk_ST) (o : Nat → Int64) (p0 : Int32) (r0 : Int32) (S0 : tk_ST) (o0 : Nat → Int64) (hf : f_L_bid p0 S o = some (r0, S0, o0)) : tk_Li l yL_bid wsL_bid rm_L_bid G c3 [.ref (q 0), .int p0, .ref (q 26)] (tk_H c3 q S ++ tk_O c3 q o) (tk_H c3 q S0 ++ tk_O c3 q o0) r0 := by
  refine tk_ofLi (cc := cL_bid) (maxL := 4) (ret := some .int) (hh := [(0, 9, 12, 13), (0, 9, 15, 15)]) (by decide) rfl (Nat.le_of_ble_eq_true rfl) ?_
  intro p e s m below meth c A Q ls H locs hx hb hml hr hts hown hlocks hE hA hP hD hS hZ hQ hl
  obtain ⟨hZ, hC, htab⟩ := hZ
  have hl : lv_has ls 4 [(0, .ref (q 0)), (1, .int p0), (2, .ref (q 26))] := hl
  have hown : s.vm.findClass RL = some m.cls := hown
  unfold f_L_bid at hf
  refine lv_aload_n hx hb dL_bid_0 rfl (lv_at hl 2 rfl) ?_
  refine lv_iconst (v := 0) hx hb dL_bid_1 (by decide) ?_
  refine lv_aload_n hx hb dL_bid_2 rfl (lv_at hl 0 rfl) ?_
  refine lv_iload_n hx hb dL_bid_3 rfl (lv_at hl 1 rfl) ?_
  obtain ⟨k, r, S1, h1, hf⟩ := tk_b3s hf
  refine tk_xiL (a := tk_H c3 q S) (a' := tk_H c3 q S1) (b := tk_O c3 q o) (vx_runV (As := [.int p0]) (rest := [.int 0, .ref (q 26)]) ⟨hx, hb, hml, hown, hts⟩ (c_X6_bid l hlst G c3 q S p0 k r S1 h1 H.size) (cwV 1 hts gL_bid_X6_bid rfl rfl rfl hv_X6_bid ⟨Nat.le_of_ble_eq_true rfl, Nat.le_of_ble_eq_true rfl⟩) (tk_pVX hE hZ (tk_Pl hP) (tk_Dl hD) hS hA 0 rfl rfl) rfl rfl hl.1 rfl (lv_room (Nat.le_of_ble_eq_true rfl)) dL_bid_4 ⟨Nat.le_of_ble_eq_true rfl, Nat.le_of_ble_eq_true rfl⟩) hP hD hS hA (fun hk ce q9 H locs hP hD hS hc1 hc2 hc3 => ?_) (fun hk H locs hP hD hS => ?_)
  · have hf := tk_neg hf hk
    by_cases g0 : k = (1 : Int32)
    · have hf := tk_pos hf g0
      have hc3 : s.vm.findClass "java/lang/IllegalArgumentException" = some ce.cls := by rw [ex_1, ← g0]; exact hc3
      refine vx_catch (name := "java/lang/IllegalArgumentException") hown [] ⟨0, 9, 12, 13⟩ [⟨0, 9, 15, 15⟩] (htab.trans rfl) (fun z hz => nomatch hz) (by decide) (by decide) (hts _ m_L_bid_c13) (va_Nw.use rfl hE.2.1.2.2.2.2.2.2.2.2.2.2.1) hc1 hc2 hc3 ?_
      refine lv_astore_n (lv' := [(3, .ref q9), (0, .ref (q 0)), (1, .int p0), (2, .ref (q 26))]) hx hb dL_bid_12 rfl hl (by decide) rfl (fun ls hl => ?_)
      refine lv_iconst (v := 1) hx hb dL_bid_13 (by decide) ?_
      exact tk_rL hQ (tk_s3 hf).1 (tk_cHO (tk_s3 hf).2.1 (tk_s3 hf).2.2) (by decide) (by decide) hx hb hr hlocks hP hD hS dL_bid_14
    have hf := tk_neg hf g0
    by_cases g1 : k = (2 : Int32)
    · have hf := tk_pos hf g1
      have hc3 : s.vm.findClass "java/lang/IllegalStateException" = some ce.cls := by rw [ex_2, ← g1]; exact hc3
      refine vx_catch (name := "java/lang/IllegalStateException") hown [⟨0, 9, 12, 13⟩] ⟨0, 9, 15, 15⟩ [] (htab.trans rfl) (fun z hz => by cases List.mem_singleton.mp hz; exact Or.inr ⟨by decide, "java/lang/IllegalArgumentException", (hts _ m_L_bid_c13), hC.1⟩) (by decide) (by decide) (hts _ m_L_bid_c15) (va_Nw.use rfl hE.2.1.2.2.2.2.2.2.2.2.2.2.2.1) hc1 hc2 hc3 ?_
      refine lv_astore_n (lv' := [(3, .ref q9), (0, .ref (q 0)), (1, .int p0), (2, .ref (q 26))]) hx hb dL_bid_15 rfl hl (by decide) rfl (fun ls hl => ?_)
      refine lv_iconst (v := 2) hx hb dL_bid_16 (by decide) ?_
      exact tk_rL hQ (tk_s3 hf).1 (tk_cHO (tk_s3 hf).2.1 (tk_s3 hf).2.2) (by decide) (by decide) hx hb hr hlocks hP hD hS dL_bid_17
    have hf := tk_neg hf g1
    exact nomatch hf
  · have hf := tk_pos hf hk
    refine lv_i2l (v := r.toInt64) hx hb dL_bid_7 rfl ?_
    refine va_last (f := o) hx hb hE.1 hP hD hS 17 1 rfl rfl tk_in01 dL_bid_8 (fun H locs hP hD hS => ?_)
    have hP : va_P G vwCl (tk_H c3 q S1 ++ tk_O c3 q (vp_updL o (0 : Int32).toNatClampNeg r.toInt64)) H := hP
    have hD : va_D A (tk_H c3 q S1 ++ tk_O c3 q (vp_updL o (0 : Int32).toNatClampNeg r.toInt64)) := hD
    refine lv_goto (tgt := 18) hx hb dL_bid_9 (by decide) ?_
    refine lv_iconst (v := 0) hx hb dL_bid_18 (by decide) ?_
    exact tk_rL hQ (tk_s3 hf).1 (tk_cHO (tk_s3 hf).2.1 (tk_s3 hf).2.2) (by decide) (by decide) hx hb hr hlocks hP hD hS dL_bid_19
abbrev rm_L_call : Room := { frames := 7, cells := 1, slots := 6, locals := 111 }
set_option maxHeartbeats 4000000 in
set_option maxRecDepth 100000 in
theorem c_L_call (l : Launch) (hlst : l.stackTraces = false) (G : va_G) (c3 : ClassId × ClassId × ClassId) (q : Nat → Nat) (S : tk_ST) (o : Nat → Int64) (p0 : Int32) (r0 : Int32) (S0 : tk_ST) (o0 : Nat → Int64) (hf : f_L_call p0 S o = some (r0, S0, o0)) : tk_Li l yL_call wsL_call rm_L_call G c3 [.ref (q 0), .int p0, .ref (q 26)] (tk_H c3 q S ++ tk_O c3 q o) (tk_H c3 q S0 ++ tk_O c3 q o0) r0 := by
  refine tk_ofLi (cc := cL_call) (maxL := 4) (ret := some .int) (hh := [(0, 9, 12, 23), (0, 9, 15, 15)]) (by decide) rfl (Nat.le_of_ble_eq_true rfl) ?_
  intro p e s m below meth c A Q ls H locs hx hb hml hr hts hown hlocks hE hA hP hD hS hZ hQ hl
  obtain ⟨hZ, hC, htab⟩ := hZ
  have hl : lv_has ls 4 [(0, .ref (q 0)), (1, .int p0), (2, .ref (q 26))] := hl
  have hown : s.vm.findClass RL = some m.cls := hown
  unfold f_L_call at hf
  refine lv_aload_n hx hb dL_call_0 rfl (lv_at hl 2 rfl) ?_
  refine lv_iconst (v := 0) hx hb dL_call_1 (by decide) ?_
  refine lv_aload_n hx hb dL_call_2 rfl (lv_at hl 0 rfl) ?_
  refine lv_iload_n hx hb dL_call_3 rfl (lv_at hl 1 rfl) ?_
  obtain ⟨k, r, S1, h1, hf⟩ := tk_b3s hf
  refine tk_xiL (a := tk_H c3 q S) (a' := tk_H c3 q S1) (b := tk_O c3 q o) (vx_runV (As := [.int p0]) (rest := [.int 0, .ref (q 26)]) ⟨hx, hb, hml, hown, hts⟩ (c_X6_call l hlst G c3 q S p0 k r S1 h1 H.size) (cwV 1 hts gL_call_X6_call rfl rfl rfl hv_X6_call ⟨Nat.le_of_ble_eq_true rfl, Nat.le_of_ble_eq_true rfl⟩) (tk_pVX hE hZ (tk_Pl hP) (tk_Dl hD) hS hA 0 rfl rfl) rfl rfl hl.1 rfl (lv_room (Nat.le_of_ble_eq_true rfl)) dL_call_4 ⟨Nat.le_of_ble_eq_true rfl, Nat.le_of_ble_eq_true rfl⟩) hP hD hS hA (fun hk ce q9 H locs hP hD hS hc1 hc2 hc3 => ?_) (fun hk H locs hP hD hS => ?_)
  · have hf := tk_neg hf hk
    by_cases g0 : k = (3 : Int32)
    · have hf := tk_pos hf g0
      have hc3 : s.vm.findClass "java/lang/IndexOutOfBoundsException" = some ce.cls := by rw [ex_3, ← g0]; exact hc3
      refine vx_catch (name := "java/lang/IndexOutOfBoundsException") hown [] ⟨0, 9, 12, 23⟩ [⟨0, 9, 15, 15⟩] (htab.trans rfl) (fun z hz => nomatch hz) (by decide) (by decide) (hts _ m_L_call_c23) (va_Nw.use rfl hE.2.1.2.2.2.2.2.2.2.2.2.2.2.2.1) hc1 hc2 hc3 ?_
      refine lv_astore_n (lv' := [(3, .ref q9), (0, .ref (q 0)), (1, .int p0), (2, .ref (q 26))]) hx hb dL_call_12 rfl hl (by decide) rfl (fun ls hl => ?_)
      refine lv_iconst (v := 1) hx hb dL_call_13 (by decide) ?_
      exact tk_rL hQ (tk_s3 hf).1 (tk_cHO (tk_s3 hf).2.1 (tk_s3 hf).2.2) (by decide) (by decide) hx hb hr hlocks hP hD hS dL_call_14
    have hf := tk_neg hf g0
    by_cases g1 : k = (2 : Int32)
    · have hf := tk_pos hf g1
      have hc3 : s.vm.findClass "java/lang/IllegalStateException" = some ce.cls := by rw [ex_2, ← g1]; exact hc3
      refine vx_catch (name := "java/lang/IllegalStateException") hown [⟨0, 9, 12, 23⟩] ⟨0, 9, 15, 15⟩ [] (htab.trans rfl) (fun z hz => by cases List.mem_singleton.mp hz; exact Or.inr ⟨by decide, "java/lang/IndexOutOfBoundsException", (hts _ m_L_call_c23), hC.2⟩) (by decide) (by decide) (hts _ m_L_call_c15) (va_Nw.use rfl hE.2.1.2.2.2.2.2.2.2.2.2.2.2.1) hc1 hc2 hc3 ?_
      refine lv_astore_n (lv' := [(3, .ref q9), (0, .ref (q 0)), (1, .int p0), (2, .ref (q 26))]) hx hb dL_call_15 rfl hl (by decide) rfl (fun ls hl => ?_)
      refine lv_iconst (v := 2) hx hb dL_call_16 (by decide) ?_
      exact tk_rL hQ (tk_s3 hf).1 (tk_cHO (tk_s3 hf).2.1 (tk_s3 hf).2.2) (by decide) (by decide) hx hb hr hlocks hP hD hS dL_call_17
    have hf := tk_neg hf g1
    exact nomatch hf
  · have hf := tk_pos hf hk
    refine lv_i2l (v := r.toInt64) hx hb dL_call_7 rfl ?_
    refine va_last (f := o) hx hb hE.1 hP hD hS 17 1 rfl rfl tk_in01 dL_call_8 (fun H locs hP hD hS => ?_)
    have hP : va_P G vwCl (tk_H c3 q S1 ++ tk_O c3 q (vp_updL o (0 : Int32).toNatClampNeg r.toInt64)) H := hP
    have hD : va_D A (tk_H c3 q S1 ++ tk_O c3 q (vp_updL o (0 : Int32).toNatClampNeg r.toInt64)) := hD
    refine lv_goto (tgt := 18) hx hb dL_call_9 (by decide) ?_
    refine lv_iconst (v := 0) hx hb dL_call_18 (by decide) ?_
    exact tk_rL hQ (tk_s3 hf).1 (tk_cHO (tk_s3 hf).2.1 (tk_s3 hf).2.2) (by decide) (by decide) hx hb hr hlocks hP hD hS dL_call_19
abbrev rm_L_take : Room := { frames := 7, cells := 1, slots := 6, locals := 114 }
set_option maxHeartbeats 4000000 in
set_option maxRecDepth 100000 in
theorem c_L_take (l : Launch) (hlst : l.stackTraces = false) (G : va_G) (c3 : ClassId × ClassId × ClassId) (q : Nat → Nat) (S : tk_ST) (o : Nat → Int64) (p0 : Int32) (r0 : Int32) (S0 : tk_ST) (o0 : Nat → Int64) (hf : f_L_take p0 S o = some (r0, S0, o0)) : tk_Li l yL_take wsL_take rm_L_take G c3 [.ref (q 0), .int p0, .ref (q 26)] (tk_H c3 q S ++ tk_O c3 q o) (tk_H c3 q S0 ++ tk_O c3 q o0) r0 := by
  refine tk_ofLi (cc := cL_take) (maxL := 4) (ret := some .int) (hh := [(0, 9, 12, 23), (0, 9, 15, 15)]) (by decide) rfl (Nat.le_of_ble_eq_true rfl) ?_
  intro p e s m below meth c A Q ls H locs hx hb hml hr hts hown hlocks hE hA hP hD hS hZ hQ hl
  obtain ⟨hZ, hC, htab⟩ := hZ
  have hl : lv_has ls 4 [(0, .ref (q 0)), (1, .int p0), (2, .ref (q 26))] := hl
  have hown : s.vm.findClass RL = some m.cls := hown
  unfold f_L_take at hf
  refine lv_aload_n hx hb dL_take_0 rfl (lv_at hl 2 rfl) ?_
  refine lv_iconst (v := 0) hx hb dL_take_1 (by decide) ?_
  refine lv_aload_n hx hb dL_take_2 rfl (lv_at hl 0 rfl) ?_
  refine lv_iload_n hx hb dL_take_3 rfl (lv_at hl 1 rfl) ?_
  obtain ⟨k, r, S1, h1, hf⟩ := tk_b3s hf
  refine tk_xiL (a := tk_H c3 q S) (a' := tk_H c3 q S1) (b := tk_O c3 q o) (vx_runV (As := [.int p0]) (rest := [.int 0, .ref (q 26)]) ⟨hx, hb, hml, hown, hts⟩ (c_X6_take l hlst G c3 q S p0 k r S1 h1 H.size) (cwV 1 hts gL_take_X6_take rfl rfl rfl hv_X6_take ⟨Nat.le_of_ble_eq_true rfl, Nat.le_of_ble_eq_true rfl⟩) (tk_pVX hE hZ (tk_Pl hP) (tk_Dl hD) hS hA 0 rfl rfl) rfl rfl hl.1 rfl (lv_room (Nat.le_of_ble_eq_true rfl)) dL_take_4 ⟨Nat.le_of_ble_eq_true rfl, Nat.le_of_ble_eq_true rfl⟩) hP hD hS hA (fun hk ce q9 H locs hP hD hS hc1 hc2 hc3 => ?_) (fun hk H locs hP hD hS => ?_)
  · have hf := tk_neg hf hk
    by_cases g0 : k = (3 : Int32)
    · have hf := tk_pos hf g0
      have hc3 : s.vm.findClass "java/lang/IndexOutOfBoundsException" = some ce.cls := by rw [ex_3, ← g0]; exact hc3
      refine vx_catch (name := "java/lang/IndexOutOfBoundsException") hown [] ⟨0, 9, 12, 23⟩ [⟨0, 9, 15, 15⟩] (htab.trans rfl) (fun z hz => nomatch hz) (by decide) (by decide) (hts _ m_L_take_c23) (va_Nw.use rfl hE.2.1.2.2.2.2.2.2.2.2.2.2.2.2.1) hc1 hc2 hc3 ?_
      refine lv_astore_n (lv' := [(3, .ref q9), (0, .ref (q 0)), (1, .int p0), (2, .ref (q 26))]) hx hb dL_take_12 rfl hl (by decide) rfl (fun ls hl => ?_)
      refine lv_iconst (v := 1) hx hb dL_take_13 (by decide) ?_
      exact tk_rL hQ (tk_s3 hf).1 (tk_cHO (tk_s3 hf).2.1 (tk_s3 hf).2.2) (by decide) (by decide) hx hb hr hlocks hP hD hS dL_take_14
    have hf := tk_neg hf g0
    by_cases g1 : k = (2 : Int32)
    · have hf := tk_pos hf g1
      have hc3 : s.vm.findClass "java/lang/IllegalStateException" = some ce.cls := by rw [ex_2, ← g1]; exact hc3
      refine vx_catch (name := "java/lang/IllegalStateException") hown [⟨0, 9, 12, 23⟩] ⟨0, 9, 15, 15⟩ [] (htab.trans rfl) (fun z hz => by cases List.mem_singleton.mp hz; exact Or.inr ⟨by decide, "java/lang/IndexOutOfBoundsException", (hts _ m_L_take_c23), hC.2⟩) (by decide) (by decide) (hts _ m_L_take_c15) (va_Nw.use rfl hE.2.1.2.2.2.2.2.2.2.2.2.2.2.1) hc1 hc2 hc3 ?_
      refine lv_astore_n (lv' := [(3, .ref q9), (0, .ref (q 0)), (1, .int p0), (2, .ref (q 26))]) hx hb dL_take_15 rfl hl (by decide) rfl (fun ls hl => ?_)
      refine lv_iconst (v := 2) hx hb dL_take_16 (by decide) ?_
      exact tk_rL hQ (tk_s3 hf).1 (tk_cHO (tk_s3 hf).2.1 (tk_s3 hf).2.2) (by decide) (by decide) hx hb hr hlocks hP hD hS dL_take_17
    have hf := tk_neg hf g1
    exact nomatch hf
  · have hf := tk_pos hf hk
    refine lv_i2l (v := r.toInt64) hx hb dL_take_7 rfl ?_
    refine va_last (f := o) hx hb hE.1 hP hD hS 17 1 rfl rfl tk_in01 dL_take_8 (fun H locs hP hD hS => ?_)
    have hP : va_P G vwCl (tk_H c3 q S1 ++ tk_O c3 q (vp_updL o (0 : Int32).toNatClampNeg r.toInt64)) H := hP
    have hD : va_D A (tk_H c3 q S1 ++ tk_O c3 q (vp_updL o (0 : Int32).toNatClampNeg r.toInt64)) := hD
    refine lv_goto (tgt := 18) hx hb dL_take_9 (by decide) ?_
    refine lv_iconst (v := 0) hx hb dL_take_18 (by decide) ?_
    exact tk_rL hQ (tk_s3 hf).1 (tk_cHO (tk_s3 hf).2.1 (tk_s3 hf).2.2) (by decide) (by decide) hx hb hr hlocks hP hD hS dL_take_19
abbrev rm_L_discard : Room := { frames := 7, cells := 1, slots := 6, locals := 113 }
set_option maxHeartbeats 4000000 in
set_option maxRecDepth 100000 in
theorem c_L_discard (l : Launch) (hlst : l.stackTraces = false) (G : va_G) (c3 : ClassId × ClassId × ClassId) (q : Nat → Nat) (S : tk_ST) (o : Nat → Int64) (p0 : Int32) (r0 : Int32) (S0 : tk_ST) (o0 : Nat → Int64) (hf : f_L_discard p0 S o = some (r0, S0, o0)) : tk_Li l yL_discard wsL_discard rm_L_discard G c3 [.ref (q 0), .int p0, .ref (q 26)] (tk_H c3 q S ++ tk_O c3 q o) (tk_H c3 q S0 ++ tk_O c3 q o0) r0 := by
  refine tk_ofLi (cc := cL_discard) (maxL := 4) (ret := some .int) (hh := [(0, 9, 12, 23), (0, 9, 15, 15)]) (by decide) rfl (Nat.le_of_ble_eq_true rfl) ?_
  intro p e s m below meth c A Q ls H locs hx hb hml hr hts hown hlocks hE hA hP hD hS hZ hQ hl
  obtain ⟨hZ, hC, htab⟩ := hZ
  have hl : lv_has ls 4 [(0, .ref (q 0)), (1, .int p0), (2, .ref (q 26))] := hl
  have hown : s.vm.findClass RL = some m.cls := hown
  unfold f_L_discard at hf
  refine lv_aload_n hx hb dL_discard_0 rfl (lv_at hl 2 rfl) ?_
  refine lv_iconst (v := 0) hx hb dL_discard_1 (by decide) ?_
  refine lv_aload_n hx hb dL_discard_2 rfl (lv_at hl 0 rfl) ?_
  refine lv_iload_n hx hb dL_discard_3 rfl (lv_at hl 1 rfl) ?_
  obtain ⟨k, r, S1, h1, hf⟩ := tk_b3s hf
  refine tk_xiL (a := tk_H c3 q S) (a' := tk_H c3 q S1) (b := tk_O c3 q o) (vx_runV (As := [.int p0]) (rest := [.int 0, .ref (q 26)]) ⟨hx, hb, hml, hown, hts⟩ (c_X6_discard l hlst G c3 q S p0 k r S1 h1 H.size) (cwV 1 hts gL_discard_X6_discard rfl rfl rfl hv_X6_discard ⟨Nat.le_of_ble_eq_true rfl, Nat.le_of_ble_eq_true rfl⟩) (tk_pVX hE hZ (tk_Pl hP) (tk_Dl hD) hS hA 0 rfl rfl) rfl rfl hl.1 rfl (lv_room (Nat.le_of_ble_eq_true rfl)) dL_discard_4 ⟨Nat.le_of_ble_eq_true rfl, Nat.le_of_ble_eq_true rfl⟩) hP hD hS hA (fun hk ce q9 H locs hP hD hS hc1 hc2 hc3 => ?_) (fun hk H locs hP hD hS => ?_)
  · have hf := tk_neg hf hk
    by_cases g0 : k = (3 : Int32)
    · have hf := tk_pos hf g0
      have hc3 : s.vm.findClass "java/lang/IndexOutOfBoundsException" = some ce.cls := by rw [ex_3, ← g0]; exact hc3
      refine vx_catch (name := "java/lang/IndexOutOfBoundsException") hown [] ⟨0, 9, 12, 23⟩ [⟨0, 9, 15, 15⟩] (htab.trans rfl) (fun z hz => nomatch hz) (by decide) (by decide) (hts _ m_L_discard_c23) (va_Nw.use rfl hE.2.1.2.2.2.2.2.2.2.2.2.2.2.2.1) hc1 hc2 hc3 ?_
      refine lv_astore_n (lv' := [(3, .ref q9), (0, .ref (q 0)), (1, .int p0), (2, .ref (q 26))]) hx hb dL_discard_12 rfl hl (by decide) rfl (fun ls hl => ?_)
      refine lv_iconst (v := 1) hx hb dL_discard_13 (by decide) ?_
      exact tk_rL hQ (tk_s3 hf).1 (tk_cHO (tk_s3 hf).2.1 (tk_s3 hf).2.2) (by decide) (by decide) hx hb hr hlocks hP hD hS dL_discard_14
    have hf := tk_neg hf g0
    by_cases g1 : k = (2 : Int32)
    · have hf := tk_pos hf g1
      have hc3 : s.vm.findClass "java/lang/IllegalStateException" = some ce.cls := by rw [ex_2, ← g1]; exact hc3
      refine vx_catch (name := "java/lang/IllegalStateException") hown [⟨0, 9, 12, 23⟩] ⟨0, 9, 15, 15⟩ [] (htab.trans rfl) (fun z hz => by cases List.mem_singleton.mp hz; exact Or.inr ⟨by decide, "java/lang/IndexOutOfBoundsException", (hts _ m_L_discard_c23), hC.2⟩) (by decide) (by decide) (hts _ m_L_discard_c15) (va_Nw.use rfl hE.2.1.2.2.2.2.2.2.2.2.2.2.2.1) hc1 hc2 hc3 ?_
      refine lv_astore_n (lv' := [(3, .ref q9), (0, .ref (q 0)), (1, .int p0), (2, .ref (q 26))]) hx hb dL_discard_15 rfl hl (by decide) rfl (fun ls hl => ?_)
      refine lv_iconst (v := 2) hx hb dL_discard_16 (by decide) ?_
      exact tk_rL hQ (tk_s3 hf).1 (tk_cHO (tk_s3 hf).2.1 (tk_s3 hf).2.2) (by decide) (by decide) hx hb hr hlocks hP hD hS dL_discard_17
    have hf := tk_neg hf g1
    exact nomatch hf
  · have hf := tk_pos hf hk
    refine lv_i2l (v := r.toInt64) hx hb dL_discard_7 rfl ?_
    refine va_last (f := o) hx hb hE.1 hP hD hS 17 1 rfl rfl tk_in01 dL_discard_8 (fun H locs hP hD hS => ?_)
    have hP : va_P G vwCl (tk_H c3 q S1 ++ tk_O c3 q (vp_updL o (0 : Int32).toNatClampNeg r.toInt64)) H := hP
    have hD : va_D A (tk_H c3 q S1 ++ tk_O c3 q (vp_updL o (0 : Int32).toNatClampNeg r.toInt64)) := hD
    refine lv_goto (tgt := 18) hx hb dL_discard_9 (by decide) ?_
    refine lv_iconst (v := 0) hx hb dL_discard_18 (by decide) ?_
    exact tk_rL hQ (tk_s3 hf).1 (tk_cHO (tk_s3 hf).2.1 (tk_s3 hf).2.2) (by decide) (by decide) hx hb hr hlocks hP hD hS dL_discard_19
abbrev rm_L_announce : Room := { frames := 7, cells := 1, slots := 6, locals := 111 }
set_option maxHeartbeats 4000000 in
set_option maxRecDepth 100000 in
theorem c_L_announce (l : Launch) (hlst : l.stackTraces = false) (G : va_G) (c3 : ClassId × ClassId × ClassId) (q : Nat → Nat) (S : tk_ST) (o : Nat → Int64) (p0 : Int32) (r0 : Int32) (S0 : tk_ST) (o0 : Nat → Int64) (hf : f_L_announce p0 S o = some (r0, S0, o0)) : tk_Li l yL_announce wsL_announce rm_L_announce G c3 [.ref (q 0), .int p0, .ref (q 26)] (tk_H c3 q S ++ tk_O c3 q o) (tk_H c3 q S0 ++ tk_O c3 q o0) r0 := by
  refine tk_ofLi (cc := cL_announce) (maxL := 4) (ret := some .int) (hh := [(0, 9, 12, 23), (0, 9, 15, 15)]) (by decide) rfl (Nat.le_of_ble_eq_true rfl) ?_
  intro p e s m below meth c A Q ls H locs hx hb hml hr hts hown hlocks hE hA hP hD hS hZ hQ hl
  obtain ⟨hZ, hC, htab⟩ := hZ
  have hl : lv_has ls 4 [(0, .ref (q 0)), (1, .int p0), (2, .ref (q 26))] := hl
  have hown : s.vm.findClass RL = some m.cls := hown
  unfold f_L_announce at hf
  refine lv_aload_n hx hb dL_announce_0 rfl (lv_at hl 2 rfl) ?_
  refine lv_iconst (v := 0) hx hb dL_announce_1 (by decide) ?_
  refine lv_aload_n hx hb dL_announce_2 rfl (lv_at hl 0 rfl) ?_
  refine lv_iload_n hx hb dL_announce_3 rfl (lv_at hl 1 rfl) ?_
  obtain ⟨k, r, S1, h1, hf⟩ := tk_b3s hf
  refine tk_xiL (a := tk_H c3 q S) (a' := tk_H c3 q S1) (b := tk_O c3 q o) (vx_runV (As := [.int p0]) (rest := [.int 0, .ref (q 26)]) ⟨hx, hb, hml, hown, hts⟩ (c_X6_announce l hlst G c3 q S p0 k r S1 h1 H.size) (cwV 1 hts gL_announce_X6_announce rfl rfl rfl hv_X6_announce ⟨Nat.le_of_ble_eq_true rfl, Nat.le_of_ble_eq_true rfl⟩) (tk_pVX hE hZ (tk_Pl hP) (tk_Dl hD) hS hA 0 rfl rfl) rfl rfl hl.1 rfl (lv_room (Nat.le_of_ble_eq_true rfl)) dL_announce_4 ⟨Nat.le_of_ble_eq_true rfl, Nat.le_of_ble_eq_true rfl⟩) hP hD hS hA (fun hk ce q9 H locs hP hD hS hc1 hc2 hc3 => ?_) (fun hk H locs hP hD hS => ?_)
  · have hf := tk_neg hf hk
    by_cases g0 : k = (3 : Int32)
    · have hf := tk_pos hf g0
      have hc3 : s.vm.findClass "java/lang/IndexOutOfBoundsException" = some ce.cls := by rw [ex_3, ← g0]; exact hc3
      refine vx_catch (name := "java/lang/IndexOutOfBoundsException") hown [] ⟨0, 9, 12, 23⟩ [⟨0, 9, 15, 15⟩] (htab.trans rfl) (fun z hz => nomatch hz) (by decide) (by decide) (hts _ m_L_announce_c23) (va_Nw.use rfl hE.2.1.2.2.2.2.2.2.2.2.2.2.2.2.1) hc1 hc2 hc3 ?_
      refine lv_astore_n (lv' := [(3, .ref q9), (0, .ref (q 0)), (1, .int p0), (2, .ref (q 26))]) hx hb dL_announce_12 rfl hl (by decide) rfl (fun ls hl => ?_)
      refine lv_iconst (v := 1) hx hb dL_announce_13 (by decide) ?_
      exact tk_rL hQ (tk_s3 hf).1 (tk_cHO (tk_s3 hf).2.1 (tk_s3 hf).2.2) (by decide) (by decide) hx hb hr hlocks hP hD hS dL_announce_14
    have hf := tk_neg hf g0
    by_cases g1 : k = (2 : Int32)
    · have hf := tk_pos hf g1
      have hc3 : s.vm.findClass "java/lang/IllegalStateException" = some ce.cls := by rw [ex_2, ← g1]; exact hc3
      refine vx_catch (name := "java/lang/IllegalStateException") hown [⟨0, 9, 12, 23⟩] ⟨0, 9, 15, 15⟩ [] (htab.trans rfl) (fun z hz => by cases List.mem_singleton.mp hz; exact Or.inr ⟨by decide, "java/lang/IndexOutOfBoundsException", (hts _ m_L_announce_c23), hC.2⟩) (by decide) (by decide) (hts _ m_L_announce_c15) (va_Nw.use rfl hE.2.1.2.2.2.2.2.2.2.2.2.2.2.1) hc1 hc2 hc3 ?_
      refine lv_astore_n (lv' := [(3, .ref q9), (0, .ref (q 0)), (1, .int p0), (2, .ref (q 26))]) hx hb dL_announce_15 rfl hl (by decide) rfl (fun ls hl => ?_)
      refine lv_iconst (v := 2) hx hb dL_announce_16 (by decide) ?_
      exact tk_rL hQ (tk_s3 hf).1 (tk_cHO (tk_s3 hf).2.1 (tk_s3 hf).2.2) (by decide) (by decide) hx hb hr hlocks hP hD hS dL_announce_17
    have hf := tk_neg hf g1
    exact nomatch hf
  · have hf := tk_pos hf hk
    refine lv_i2l (v := r.toInt64) hx hb dL_announce_7 rfl ?_
    refine va_last (f := o) hx hb hE.1 hP hD hS 17 1 rfl rfl tk_in01 dL_announce_8 (fun H locs hP hD hS => ?_)
    have hP : va_P G vwCl (tk_H c3 q S1 ++ tk_O c3 q (vp_updL o (0 : Int32).toNatClampNeg r.toInt64)) H := hP
    have hD : va_D A (tk_H c3 q S1 ++ tk_O c3 q (vp_updL o (0 : Int32).toNatClampNeg r.toInt64)) := hD
    refine lv_goto (tgt := 18) hx hb dL_announce_9 (by decide) ?_
    refine lv_iconst (v := 0) hx hb dL_announce_18 (by decide) ?_
    exact tk_rL hQ (tk_s3 hf).1 (tk_cHO (tk_s3 hf).2.1 (tk_s3 hf).2.2) (by decide) (by decide) hx hb hr hlocks hP hD hS dL_announce_19
abbrev rm_L_play : Room := { frames := 7, cells := 1, slots := 6, locals := 157 }
set_option maxHeartbeats 4000000 in
set_option maxRecDepth 100000 in
theorem c_L_play (l : Launch) (hlst : l.stackTraces = false) (G : va_G) (c3 : ClassId × ClassId × ClassId) (q : Nat → Nat) (S : tk_ST) (o : Nat → Int64) (p0 : Int32) (r0 : Int32) (S0 : tk_ST) (o0 : Nat → Int64) (hf : f_L_play p0 S o = some (r0, S0, o0)) : tk_Li l yL_play wsL_play rm_L_play G c3 [.ref (q 0), .int p0, .ref (q 26)] (tk_H c3 q S ++ tk_O c3 q o) (tk_H c3 q S0 ++ tk_O c3 q o0) r0 := by
  refine tk_ofLi (cc := cL_play) (maxL := 4) (ret := some .int) (hh := [(0, 9, 12, 23), (0, 9, 15, 15)]) (by decide) rfl (Nat.le_of_ble_eq_true rfl) ?_
  intro p e s m below meth c A Q ls H locs hx hb hml hr hts hown hlocks hE hA hP hD hS hZ hQ hl
  obtain ⟨hZ, hC, htab⟩ := hZ
  have hl : lv_has ls 4 [(0, .ref (q 0)), (1, .int p0), (2, .ref (q 26))] := hl
  have hown : s.vm.findClass RL = some m.cls := hown
  unfold f_L_play at hf
  refine lv_aload_n hx hb dL_play_0 rfl (lv_at hl 2 rfl) ?_
  refine lv_iconst (v := 0) hx hb dL_play_1 (by decide) ?_
  refine lv_aload_n hx hb dL_play_2 rfl (lv_at hl 0 rfl) ?_
  refine lv_iload_n hx hb dL_play_3 rfl (lv_at hl 1 rfl) ?_
  obtain ⟨k, r, S1, h1, hf⟩ := tk_b3s hf
  refine tk_xiL (a := tk_H c3 q S) (a' := tk_H c3 q S1) (b := tk_O c3 q o) (vx_runV (As := [.int p0]) (rest := [.int 0, .ref (q 26)]) ⟨hx, hb, hml, hown, hts⟩ (c_X6_play l hlst G c3 q S p0 k r S1 h1 H.size) (cwV 1 hts gL_play_X6_play rfl rfl rfl hv_X6_play ⟨Nat.le_of_ble_eq_true rfl, Nat.le_of_ble_eq_true rfl⟩) (tk_pVX hE hZ (tk_Pl hP) (tk_Dl hD) hS hA 0 rfl rfl) rfl rfl hl.1 rfl (lv_room (Nat.le_of_ble_eq_true rfl)) dL_play_4 ⟨Nat.le_of_ble_eq_true rfl, Nat.le_of_ble_eq_true rfl⟩) hP hD hS hA (fun hk ce q9 H locs hP hD hS hc1 hc2 hc3 => ?_) (fun hk H locs hP hD hS => ?_)
  · have hf := tk_neg hf hk
    by_cases g0 : k = (3 : Int32)
    · have hf := tk_pos hf g0
      have hc3 : s.vm.findClass "java/lang/IndexOutOfBoundsException" = some ce.cls := by rw [ex_3, ← g0]; exact hc3
      refine vx_catch (name := "java/lang/IndexOutOfBoundsException") hown [] ⟨0, 9, 12, 23⟩ [⟨0, 9, 15, 15⟩] (htab.trans rfl) (fun z hz => nomatch hz) (by decide) (by decide) (hts _ m_L_play_c23) (va_Nw.use rfl hE.2.1.2.2.2.2.2.2.2.2.2.2.2.2.1) hc1 hc2 hc3 ?_
      refine lv_astore_n (lv' := [(3, .ref q9), (0, .ref (q 0)), (1, .int p0), (2, .ref (q 26))]) hx hb dL_play_12 rfl hl (by decide) rfl (fun ls hl => ?_)
      refine lv_iconst (v := 1) hx hb dL_play_13 (by decide) ?_
      exact tk_rL hQ (tk_s3 hf).1 (tk_cHO (tk_s3 hf).2.1 (tk_s3 hf).2.2) (by decide) (by decide) hx hb hr hlocks hP hD hS dL_play_14
    have hf := tk_neg hf g0
    by_cases g1 : k = (2 : Int32)
    · have hf := tk_pos hf g1
      have hc3 : s.vm.findClass "java/lang/IllegalStateException" = some ce.cls := by rw [ex_2, ← g1]; exact hc3
      refine vx_catch (name := "java/lang/IllegalStateException") hown [⟨0, 9, 12, 23⟩] ⟨0, 9, 15, 15⟩ [] (htab.trans rfl) (fun z hz => by cases List.mem_singleton.mp hz; exact Or.inr ⟨by decide, "java/lang/IndexOutOfBoundsException", (hts _ m_L_play_c23), hC.2⟩) (by decide) (by decide) (hts _ m_L_play_c15) (va_Nw.use rfl hE.2.1.2.2.2.2.2.2.2.2.2.2.2.1) hc1 hc2 hc3 ?_
      refine lv_astore_n (lv' := [(3, .ref q9), (0, .ref (q 0)), (1, .int p0), (2, .ref (q 26))]) hx hb dL_play_15 rfl hl (by decide) rfl (fun ls hl => ?_)
      refine lv_iconst (v := 2) hx hb dL_play_16 (by decide) ?_
      exact tk_rL hQ (tk_s3 hf).1 (tk_cHO (tk_s3 hf).2.1 (tk_s3 hf).2.2) (by decide) (by decide) hx hb hr hlocks hP hD hS dL_play_17
    have hf := tk_neg hf g1
    exact nomatch hf
  · have hf := tk_pos hf hk
    refine lv_i2l (v := r.toInt64) hx hb dL_play_7 rfl ?_
    refine va_last (f := o) hx hb hE.1 hP hD hS 17 1 rfl rfl tk_in01 dL_play_8 (fun H locs hP hD hS => ?_)
    have hP : va_P G vwCl (tk_H c3 q S1 ++ tk_O c3 q (vp_updL o (0 : Int32).toNatClampNeg r.toInt64)) H := hP
    have hD : va_D A (tk_H c3 q S1 ++ tk_O c3 q (vp_updL o (0 : Int32).toNatClampNeg r.toInt64)) := hD
    refine lv_goto (tgt := 18) hx hb dL_play_9 (by decide) ?_
    refine lv_iconst (v := 0) hx hb dL_play_18 (by decide) ?_
    exact tk_rL hQ (tk_s3 hf).1 (tk_cHO (tk_s3 hf).2.1 (tk_s3 hf).2.2) (by decide) (by decide) hx hb hr hlocks hP hD hS dL_play_19
abbrev rm_L_playLowest : Room := { frames := 7, cells := 1, slots := 6, locals := 159 }
set_option maxHeartbeats 4000000 in
set_option maxRecDepth 100000 in
theorem c_L_playLowest (l : Launch) (hlst : l.stackTraces = false) (G : va_G) (c3 : ClassId × ClassId × ClassId) (q : Nat → Nat) (S : tk_ST) (o : Nat → Int64) (p0 : Int32) (r0 : Int32) (S0 : tk_ST) (o0 : Nat → Int64) (hf : f_L_playLowest p0 S o = some (r0, S0, o0)) : tk_Li l yL_playLowest wsL_playLowest rm_L_playLowest G c3 [.ref (q 0), .int p0, .ref (q 26)] (tk_H c3 q S ++ tk_O c3 q o) (tk_H c3 q S0 ++ tk_O c3 q o0) r0 := by
  refine tk_ofLi (cc := cL_playLowest) (maxL := 4) (ret := some .int) (hh := [(0, 9, 12, 13), (0, 9, 15, 15)]) (by decide) rfl (Nat.le_of_ble_eq_true rfl) ?_
  intro p e s m below meth c A Q ls H locs hx hb hml hr hts hown hlocks hE hA hP hD hS hZ hQ hl
  obtain ⟨hZ, hC, htab⟩ := hZ
  have hl : lv_has ls 4 [(0, .ref (q 0)), (1, .int p0), (2, .ref (q 26))] := hl
  have hown : s.vm.findClass RL = some m.cls := hown
  unfold f_L_playLowest at hf
  refine lv_aload_n hx hb dL_playLowest_0 rfl (lv_at hl 2 rfl) ?_
  refine lv_iconst (v := 0) hx hb dL_playLowest_1 (by decide) ?_
  refine lv_aload_n hx hb dL_playLowest_2 rfl (lv_at hl 0 rfl) ?_
  refine lv_iload_n hx hb dL_playLowest_3 rfl (lv_at hl 1 rfl) ?_
  obtain ⟨k, r, S1, h1, hf⟩ := tk_b3s hf
  refine tk_xiL (a := tk_H c3 q S) (a' := tk_H c3 q S1) (b := tk_O c3 q o) (vx_runV (As := [.int p0]) (rest := [.int 0, .ref (q 26)]) ⟨hx, hb, hml, hown, hts⟩ (c_X6_playLowest l hlst G c3 q S p0 k r S1 h1 H.size) (cwV 1 hts gL_playLowest_X6_playLowest rfl rfl rfl hv_X6_playLowest ⟨Nat.le_of_ble_eq_true rfl, Nat.le_of_ble_eq_true rfl⟩) (tk_pVX hE hZ (tk_Pl hP) (tk_Dl hD) hS hA 0 rfl rfl) rfl rfl hl.1 rfl (lv_room (Nat.le_of_ble_eq_true rfl)) dL_playLowest_4 ⟨Nat.le_of_ble_eq_true rfl, Nat.le_of_ble_eq_true rfl⟩) hP hD hS hA (fun hk ce q9 H locs hP hD hS hc1 hc2 hc3 => ?_) (fun hk H locs hP hD hS => ?_)
  · have hf := tk_neg hf hk
    by_cases g0 : k = (1 : Int32)
    · have hf := tk_pos hf g0
      have hc3 : s.vm.findClass "java/lang/IllegalArgumentException" = some ce.cls := by rw [ex_1, ← g0]; exact hc3
      refine vx_catch (name := "java/lang/IllegalArgumentException") hown [] ⟨0, 9, 12, 13⟩ [⟨0, 9, 15, 15⟩] (htab.trans rfl) (fun z hz => nomatch hz) (by decide) (by decide) (hts _ m_L_playLowest_c13) (va_Nw.use rfl hE.2.1.2.2.2.2.2.2.2.2.2.2.1) hc1 hc2 hc3 ?_
      refine lv_astore_n (lv' := [(3, .ref q9), (0, .ref (q 0)), (1, .int p0), (2, .ref (q 26))]) hx hb dL_playLowest_12 rfl hl (by decide) rfl (fun ls hl => ?_)
      refine lv_iconst (v := 1) hx hb dL_playLowest_13 (by decide) ?_
      exact tk_rL hQ (tk_s3 hf).1 (tk_cHO (tk_s3 hf).2.1 (tk_s3 hf).2.2) (by decide) (by decide) hx hb hr hlocks hP hD hS dL_playLowest_14
    have hf := tk_neg hf g0
    by_cases g1 : k = (2 : Int32)
    · have hf := tk_pos hf g1
      have hc3 : s.vm.findClass "java/lang/IllegalStateException" = some ce.cls := by rw [ex_2, ← g1]; exact hc3
      refine vx_catch (name := "java/lang/IllegalStateException") hown [⟨0, 9, 12, 13⟩] ⟨0, 9, 15, 15⟩ [] (htab.trans rfl) (fun z hz => by cases List.mem_singleton.mp hz; exact Or.inr ⟨by decide, "java/lang/IllegalArgumentException", (hts _ m_L_playLowest_c13), hC.1⟩) (by decide) (by decide) (hts _ m_L_playLowest_c15) (va_Nw.use rfl hE.2.1.2.2.2.2.2.2.2.2.2.2.2.1) hc1 hc2 hc3 ?_
      refine lv_astore_n (lv' := [(3, .ref q9), (0, .ref (q 0)), (1, .int p0), (2, .ref (q 26))]) hx hb dL_playLowest_15 rfl hl (by decide) rfl (fun ls hl => ?_)
      refine lv_iconst (v := 2) hx hb dL_playLowest_16 (by decide) ?_
      exact tk_rL hQ (tk_s3 hf).1 (tk_cHO (tk_s3 hf).2.1 (tk_s3 hf).2.2) (by decide) (by decide) hx hb hr hlocks hP hD hS dL_playLowest_17
    have hf := tk_neg hf g1
    exact nomatch hf
  · have hf := tk_pos hf hk
    refine lv_i2l (v := r.toInt64) hx hb dL_playLowest_7 rfl ?_
    refine va_last (f := o) hx hb hE.1 hP hD hS 17 1 rfl rfl tk_in01 dL_playLowest_8 (fun H locs hP hD hS => ?_)
    have hP : va_P G vwCl (tk_H c3 q S1 ++ tk_O c3 q (vp_updL o (0 : Int32).toNatClampNeg r.toInt64)) H := hP
    have hD : va_D A (tk_H c3 q S1 ++ tk_O c3 q (vp_updL o (0 : Int32).toNatClampNeg r.toInt64)) := hD
    refine lv_goto (tgt := 18) hx hb dL_playLowest_9 (by decide) ?_
    refine lv_iconst (v := 0) hx hb dL_playLowest_18 (by decide) ?_
    exact tk_rL hQ (tk_s3 hf).1 (tk_cHO (tk_s3 hf).2.1 (tk_s3 hf).2.2) (by decide) (by decide) hx hb hr hlocks hP hD hS dL_playLowest_19
abbrev rm_L_hand : Room := { frames := 7, cells := 1, slots := 6, locals := 111 }
set_option maxHeartbeats 4000000 in
set_option maxRecDepth 100000 in
theorem c_L_hand (l : Launch) (hlst : l.stackTraces = false) (G : va_G) (c3 : ClassId × ClassId × ClassId) (q : Nat → Nat) (S : tk_ST) (o : Nat → Int64) (p0 : Int32) (r0 : Int32) (S0 : tk_ST) (o0 : Nat → Int64) (hf : f_L_hand p0 S o = some (r0, S0, o0)) : tk_Li l yL_hand wsL_hand rm_L_hand G c3 [.ref (q 0), .int p0, .ref (q 26)] (tk_H c3 q S ++ tk_O c3 q o) (tk_H c3 q S0 ++ tk_O c3 q o0) r0 := by
  refine tk_ofLi (cc := cL_hand) (maxL := 4) (ret := some .int) (hh := [(0, 8, 11, 23)]) (by decide) rfl (Nat.le_of_ble_eq_true rfl) ?_
  intro p e s m below meth c A Q ls H locs hx hb hml hr hts hown hlocks hE hA hP hD hS hZ hQ hl
  obtain ⟨hZ, hC, htab⟩ := hZ
  have hl : lv_has ls 4 [(0, .ref (q 0)), (1, .int p0), (2, .ref (q 26))] := hl
  have hown : s.vm.findClass RL = some m.cls := hown
  unfold f_L_hand at hf
  refine lv_aload_n hx hb dL_hand_0 rfl (lv_at hl 2 rfl) ?_
  refine lv_iconst (v := 0) hx hb dL_hand_1 (by decide) ?_
  refine lv_aload_n hx hb dL_hand_2 rfl (lv_at hl 0 rfl) ?_
  refine lv_iload_n hx hb dL_hand_3 rfl (lv_at hl 1 rfl) ?_
  obtain ⟨k, r, h1, hf⟩ := tk_b2s hf
  refine tk_xlL (a := tk_H c3 q S) (a' := tk_H c3 q S) (b := tk_O c3 q o) (vx_runV (As := [.int p0]) (rest := [.int 0, .ref (q 26)]) ⟨hx, hb, hml, hown, hts⟩ (c_X6_hand l hlst G c3 q S p0 k r h1 H.size) (cwV 1 hts gL_hand_X6_hand rfl rfl rfl hv_X6_hand ⟨Nat.le_of_ble_eq_true rfl, Nat.le_of_ble_eq_true rfl⟩) (tk_pVX hE hZ (tk_Pl hP) (tk_Dl hD) hS hA 0 rfl rfl) rfl rfl hl.1 rfl (lv_room (Nat.le_of_ble_eq_true rfl)) dL_hand_4 ⟨Nat.le_of_ble_eq_true rfl, Nat.le_of_ble_eq_true rfl⟩) hP hD hS hA (fun hk ce q9 H locs hP hD hS hc1 hc2 hc3 => ?_) (fun hk H locs hP hD hS => ?_)
  · have hf := tk_neg hf hk
    by_cases g0 : k = (3 : Int32)
    · have hf := tk_pos hf g0
      have hc3 : s.vm.findClass "java/lang/IndexOutOfBoundsException" = some ce.cls := by rw [ex_3, ← g0]; exact hc3
      refine vx_catch (name := "java/lang/IndexOutOfBoundsException") hown [] ⟨0, 8, 11, 23⟩ [] (htab.trans rfl) (fun z hz => nomatch hz) (by decide) (by decide) (hts _ m_L_hand_c23) (va_Nw.use rfl hE.2.1.2.2.2.2.2.2.2.2.2.2.2.2.1) hc1 hc2 hc3 ?_
      refine lv_astore_n (lv' := [(3, .ref q9), (0, .ref (q 0)), (1, .int p0), (2, .ref (q 26))]) hx hb dL_hand_11 rfl hl (by decide) rfl (fun ls hl => ?_)
      refine lv_iconst (v := 1) hx hb dL_hand_12 (by decide) ?_
      exact tk_rL hQ (tk_s3 hf).1 (tk_cHO (tk_s3 hf).2.1 (tk_s3 hf).2.2) (by decide) (by decide) hx hb hr hlocks hP hD hS dL_hand_13
    have hf := tk_neg hf g0
    exact nomatch hf
  · have hf := tk_pos hf hk
    refine va_last (f := o) hx hb hE.1 hP hD hS 17 1 rfl rfl tk_in01 dL_hand_7 (fun H locs hP hD hS => ?_)
    have hP : va_P G vwCl (tk_H c3 q S ++ tk_O c3 q (vp_updL o (0 : Int32).toNatClampNeg r)) H := hP
    have hD : va_D A (tk_H c3 q S ++ tk_O c3 q (vp_updL o (0 : Int32).toNatClampNeg r)) := hD
    refine lv_goto (tgt := 14) hx hb dL_hand_8 (by decide) ?_
    refine lv_iconst (v := 0) hx hb dL_hand_14 (by decide) ?_
    exact tk_rL hQ (tk_s3 hf).1 (tk_cHO (tk_s3 hf).2.1 (tk_s3 hf).2.2) (by decide) (by decide) hx hb hr hlocks hP hD hS dL_hand_15
abbrev rm_L_talonAt : Room := { frames := 7, cells := 1, slots := 6, locals := 111 }
set_option maxHeartbeats 4000000 in
set_option maxRecDepth 100000 in
theorem c_L_talonAt (l : Launch) (hlst : l.stackTraces = false) (G : va_G) (c3 : ClassId × ClassId × ClassId) (q : Nat → Nat) (S : tk_ST) (o : Nat → Int64) (p0 : Int32) (r0 : Int32) (S0 : tk_ST) (o0 : Nat → Int64) (hf : f_L_talonAt p0 S o = some (r0, S0, o0)) : tk_Li l yL_talonAt wsL_talonAt rm_L_talonAt G c3 [.ref (q 0), .int p0, .ref (q 26)] (tk_H c3 q S ++ tk_O c3 q o) (tk_H c3 q S0 ++ tk_O c3 q o0) r0 := by
  refine tk_ofLi (cc := cL_talonAt) (maxL := 4) (ret := some .int) (hh := [(0, 9, 12, 23), (0, 9, 15, 15)]) (by decide) rfl (Nat.le_of_ble_eq_true rfl) ?_
  intro p e s m below meth c A Q ls H locs hx hb hml hr hts hown hlocks hE hA hP hD hS hZ hQ hl
  obtain ⟨hZ, hC, htab⟩ := hZ
  have hl : lv_has ls 4 [(0, .ref (q 0)), (1, .int p0), (2, .ref (q 26))] := hl
  have hown : s.vm.findClass RL = some m.cls := hown
  unfold f_L_talonAt at hf
  refine lv_aload_n hx hb dL_talonAt_0 rfl (lv_at hl 2 rfl) ?_
  refine lv_iconst (v := 0) hx hb dL_talonAt_1 (by decide) ?_
  refine lv_aload_n hx hb dL_talonAt_2 rfl (lv_at hl 0 rfl) ?_
  refine lv_iload_n hx hb dL_talonAt_3 rfl (lv_at hl 1 rfl) ?_
  obtain ⟨k, r, h1, hf⟩ := tk_b2s hf
  refine tk_xiL (a := tk_H c3 q S) (a' := tk_H c3 q S) (b := tk_O c3 q o) (vx_runV (As := [.int p0]) (rest := [.int 0, .ref (q 26)]) ⟨hx, hb, hml, hown, hts⟩ (c_X6_talonAt l hlst G c3 q S p0 k r h1 H.size) (cwV 1 hts gL_talonAt_X6_talonAt rfl rfl rfl hv_X6_talonAt ⟨Nat.le_of_ble_eq_true rfl, Nat.le_of_ble_eq_true rfl⟩) (tk_pVX hE hZ (tk_Pl hP) (tk_Dl hD) hS hA 0 rfl rfl) rfl rfl hl.1 rfl (lv_room (Nat.le_of_ble_eq_true rfl)) dL_talonAt_4 ⟨Nat.le_of_ble_eq_true rfl, Nat.le_of_ble_eq_true rfl⟩) hP hD hS hA (fun hk ce q9 H locs hP hD hS hc1 hc2 hc3 => ?_) (fun hk H locs hP hD hS => ?_)
  · have hf := tk_neg hf hk
    by_cases g0 : k = (3 : Int32)
    · have hf := tk_pos hf g0
      have hc3 : s.vm.findClass "java/lang/IndexOutOfBoundsException" = some ce.cls := by rw [ex_3, ← g0]; exact hc3
      refine vx_catch (name := "java/lang/IndexOutOfBoundsException") hown [] ⟨0, 9, 12, 23⟩ [⟨0, 9, 15, 15⟩] (htab.trans rfl) (fun z hz => nomatch hz) (by decide) (by decide) (hts _ m_L_talonAt_c23) (va_Nw.use rfl hE.2.1.2.2.2.2.2.2.2.2.2.2.2.2.1) hc1 hc2 hc3 ?_
      refine lv_astore_n (lv' := [(3, .ref q9), (0, .ref (q 0)), (1, .int p0), (2, .ref (q 26))]) hx hb dL_talonAt_12 rfl hl (by decide) rfl (fun ls hl => ?_)
      refine lv_iconst (v := 1) hx hb dL_talonAt_13 (by decide) ?_
      exact tk_rL hQ (tk_s3 hf).1 (tk_cHO (tk_s3 hf).2.1 (tk_s3 hf).2.2) (by decide) (by decide) hx hb hr hlocks hP hD hS dL_talonAt_14
    have hf := tk_neg hf g0
    by_cases g1 : k = (2 : Int32)
    · have hf := tk_pos hf g1
      have hc3 : s.vm.findClass "java/lang/IllegalStateException" = some ce.cls := by rw [ex_2, ← g1]; exact hc3
      refine vx_catch (name := "java/lang/IllegalStateException") hown [⟨0, 9, 12, 23⟩] ⟨0, 9, 15, 15⟩ [] (htab.trans rfl) (fun z hz => by cases List.mem_singleton.mp hz; exact Or.inr ⟨by decide, "java/lang/IndexOutOfBoundsException", (hts _ m_L_talonAt_c23), hC.2⟩) (by decide) (by decide) (hts _ m_L_talonAt_c15) (va_Nw.use rfl hE.2.1.2.2.2.2.2.2.2.2.2.2.2.1) hc1 hc2 hc3 ?_
      refine lv_astore_n (lv' := [(3, .ref q9), (0, .ref (q 0)), (1, .int p0), (2, .ref (q 26))]) hx hb dL_talonAt_15 rfl hl (by decide) rfl (fun ls hl => ?_)
      refine lv_iconst (v := 2) hx hb dL_talonAt_16 (by decide) ?_
      exact tk_rL hQ (tk_s3 hf).1 (tk_cHO (tk_s3 hf).2.1 (tk_s3 hf).2.2) (by decide) (by decide) hx hb hr hlocks hP hD hS dL_talonAt_17
    have hf := tk_neg hf g1
    exact nomatch hf
  · have hf := tk_pos hf hk
    refine lv_i2l (v := r.toInt64) hx hb dL_talonAt_7 rfl ?_
    refine va_last (f := o) hx hb hE.1 hP hD hS 17 1 rfl rfl tk_in01 dL_talonAt_8 (fun H locs hP hD hS => ?_)
    have hP : va_P G vwCl (tk_H c3 q S ++ tk_O c3 q (vp_updL o (0 : Int32).toNatClampNeg r.toInt64)) H := hP
    have hD : va_D A (tk_H c3 q S ++ tk_O c3 q (vp_updL o (0 : Int32).toNatClampNeg r.toInt64)) := hD
    refine lv_goto (tgt := 18) hx hb dL_talonAt_9 (by decide) ?_
    refine lv_iconst (v := 0) hx hb dL_talonAt_18 (by decide) ?_
    exact tk_rL hQ (tk_s3 hf).1 (tk_cHO (tk_s3 hf).2.1 (tk_s3 hf).2.2) (by decide) (by decide) hx hb hr hlocks hP hD hS dL_talonAt_19
abbrev rm_L_trickAt : Room := { frames := 7, cells := 1, slots := 6, locals := 111 }
set_option maxHeartbeats 4000000 in
set_option maxRecDepth 100000 in
theorem c_L_trickAt (l : Launch) (hlst : l.stackTraces = false) (G : va_G) (c3 : ClassId × ClassId × ClassId) (q : Nat → Nat) (S : tk_ST) (o : Nat → Int64) (p0 : Int32) (r0 : Int32) (S0 : tk_ST) (o0 : Nat → Int64) (hf : f_L_trickAt p0 S o = some (r0, S0, o0)) : tk_Li l yL_trickAt wsL_trickAt rm_L_trickAt G c3 [.ref (q 0), .int p0, .ref (q 26)] (tk_H c3 q S ++ tk_O c3 q o) (tk_H c3 q S0 ++ tk_O c3 q o0) r0 := by
  refine tk_ofLi (cc := cL_trickAt) (maxL := 4) (ret := some .int) (hh := [(0, 9, 12, 23)]) (by decide) rfl (Nat.le_of_ble_eq_true rfl) ?_
  intro p e s m below meth c A Q ls H locs hx hb hml hr hts hown hlocks hE hA hP hD hS hZ hQ hl
  obtain ⟨hZ, hC, htab⟩ := hZ
  have hl : lv_has ls 4 [(0, .ref (q 0)), (1, .int p0), (2, .ref (q 26))] := hl
  have hown : s.vm.findClass RL = some m.cls := hown
  unfold f_L_trickAt at hf
  refine lv_aload_n hx hb dL_trickAt_0 rfl (lv_at hl 2 rfl) ?_
  refine lv_iconst (v := 0) hx hb dL_trickAt_1 (by decide) ?_
  refine lv_aload_n hx hb dL_trickAt_2 rfl (lv_at hl 0 rfl) ?_
  refine lv_iload_n hx hb dL_trickAt_3 rfl (lv_at hl 1 rfl) ?_
  obtain ⟨k, r, h1, hf⟩ := tk_b2s hf
  refine tk_xiL (a := tk_H c3 q S) (a' := tk_H c3 q S) (b := tk_O c3 q o) (vx_runV (As := [.int p0]) (rest := [.int 0, .ref (q 26)]) ⟨hx, hb, hml, hown, hts⟩ (c_X6_trickAt l hlst G c3 q S p0 k r h1 H.size) (cwV 1 hts gL_trickAt_X6_trickAt rfl rfl rfl hv_X6_trickAt ⟨Nat.le_of_ble_eq_true rfl, Nat.le_of_ble_eq_true rfl⟩) (tk_pVX hE hZ (tk_Pl hP) (tk_Dl hD) hS hA 0 rfl rfl) rfl rfl hl.1 rfl (lv_room (Nat.le_of_ble_eq_true rfl)) dL_trickAt_4 ⟨Nat.le_of_ble_eq_true rfl, Nat.le_of_ble_eq_true rfl⟩) hP hD hS hA (fun hk ce q9 H locs hP hD hS hc1 hc2 hc3 => ?_) (fun hk H locs hP hD hS => ?_)
  · have hf := tk_neg hf hk
    by_cases g0 : k = (3 : Int32)
    · have hf := tk_pos hf g0
      have hc3 : s.vm.findClass "java/lang/IndexOutOfBoundsException" = some ce.cls := by rw [ex_3, ← g0]; exact hc3
      refine vx_catch (name := "java/lang/IndexOutOfBoundsException") hown [] ⟨0, 9, 12, 23⟩ [] (htab.trans rfl) (fun z hz => nomatch hz) (by decide) (by decide) (hts _ m_L_trickAt_c23) (va_Nw.use rfl hE.2.1.2.2.2.2.2.2.2.2.2.2.2.2.1) hc1 hc2 hc3 ?_
      refine lv_astore_n (lv' := [(3, .ref q9), (0, .ref (q 0)), (1, .int p0), (2, .ref (q 26))]) hx hb dL_trickAt_12 rfl hl (by decide) rfl (fun ls hl => ?_)
      refine lv_iconst (v := 1) hx hb dL_trickAt_13 (by decide) ?_
      exact tk_rL hQ (tk_s3 hf).1 (tk_cHO (tk_s3 hf).2.1 (tk_s3 hf).2.2) (by decide) (by decide) hx hb hr hlocks hP hD hS dL_trickAt_14
    have hf := tk_neg hf g0
    exact nomatch hf
  · have hf := tk_pos hf hk
    refine lv_i2l (v := r.toInt64) hx hb dL_trickAt_7 rfl ?_
    refine va_last (f := o) hx hb hE.1 hP hD hS 17 1 rfl rfl tk_in01 dL_trickAt_8 (fun H locs hP hD hS => ?_)
    have hP : va_P G vwCl (tk_H c3 q S ++ tk_O c3 q (vp_updL o (0 : Int32).toNatClampNeg r.toInt64)) H := hP
    have hD : va_D A (tk_H c3 q S ++ tk_O c3 q (vp_updL o (0 : Int32).toNatClampNeg r.toInt64)) := hD
    refine lv_goto (tgt := 15) hx hb dL_trickAt_9 (by decide) ?_
    refine lv_iconst (v := 0) hx hb dL_trickAt_15 (by decide) ?_
    exact tk_rL hQ (tk_s3 hf).1 (tk_cHO (tk_s3 hf).2.1 (tk_s3 hf).2.2) (by decide) (by decide) hx hb hr hlocks hP hD hS dL_trickAt_16
abbrev rm_L_canPlay : Room := { frames := 7, cells := 1, slots := 6, locals := 111 }
set_option maxHeartbeats 4000000 in
set_option maxRecDepth 100000 in
theorem c_L_canPlay (l : Launch) (hlst : l.stackTraces = false) (G : va_G) (c3 : ClassId × ClassId × ClassId) (q : Nat → Nat) (S : tk_ST) (o : Nat → Int64) (p0 : Int32) (r0 : Int32) (S0 : tk_ST) (o0 : Nat → Int64) (hf : f_L_canPlay p0 S o = some (r0, S0, o0)) : tk_Li l yL_canPlay wsL_canPlay rm_L_canPlay G c3 [.ref (q 0), .int p0, .ref (q 26)] (tk_H c3 q S ++ tk_O c3 q o) (tk_H c3 q S0 ++ tk_O c3 q o0) r0 := by
  refine tk_ofLi (cc := cL_canPlay) (maxL := 4) (ret := some .int) (hh := [(0, 16, 19, 23)]) (by decide) rfl (Nat.le_of_ble_eq_true rfl) ?_
  intro p e s m below meth c A Q ls H locs hx hb hml hr hts hown hlocks hE hA hP hD hS hZ hQ hl
  obtain ⟨hZ, hC, htab⟩ := hZ
  have hl : lv_has ls 4 [(0, .ref (q 0)), (1, .int p0), (2, .ref (q 26))] := hl
  have hown : s.vm.findClass RL = some m.cls := hown
  unfold f_L_canPlay at hf
  refine lv_aload_n hx hb dL_canPlay_0 rfl (lv_at hl 2 rfl) ?_
  refine lv_iconst (v := 0) hx hb dL_canPlay_1 (by decide) ?_
  refine lv_aload_n hx hb dL_canPlay_2 rfl (lv_at hl 0 rfl) ?_
  refine lv_iload_n hx hb dL_canPlay_3 rfl (lv_at hl 1 rfl) ?_
  obtain ⟨k, r, h1, hf⟩ := tk_b2s hf
  refine tk_xiL (a := tk_H c3 q S) (a' := tk_H c3 q S) (b := tk_O c3 q o) (vx_runV (As := [.int p0]) (rest := [.int 0, .ref (q 26)]) ⟨hx, hb, hml, hown, hts⟩ (c_X6_canPlay l hlst G c3 q S p0 k r h1 H.size) (cwV 1 hts gL_canPlay_X6_canPlay rfl rfl rfl hv_X6_canPlay ⟨Nat.le_of_ble_eq_true rfl, Nat.le_of_ble_eq_true rfl⟩) (tk_pVX hE hZ (tk_Pl hP) (tk_Dl hD) hS hA 0 rfl rfl) rfl rfl hl.1 rfl (lv_room (Nat.le_of_ble_eq_true rfl)) dL_canPlay_4 ⟨Nat.le_of_ble_eq_true rfl, Nat.le_of_ble_eq_true rfl⟩) hP hD hS hA (fun hk ce q9 H locs hP hD hS hc1 hc2 hc3 => ?_) (fun hk H locs hP hD hS => ?_)
  · have hf := tk_neg hf hk
    by_cases g0 : k = (3 : Int32)
    · have hf := tk_pos hf g0
      have hc3 : s.vm.findClass "java/lang/IndexOutOfBoundsException" = some ce.cls := by rw [ex_3, ← g0]; exact hc3
      refine vx_catch (name := "java/lang/IndexOutOfBoundsException") hown [] ⟨0, 16, 19, 23⟩ [] (htab.trans rfl) (fun z hz => nomatch hz) (by decide) (by decide) (hts _ m_L_canPlay_c23) (va_Nw.use rfl hE.2.1.2.2.2.2.2.2.2.2.2.2.2.2.1) hc1 hc2 hc3 ?_
      refine lv_astore_n (lv' := [(3, .ref q9), (0, .ref (q 0)), (1, .int p0), (2, .ref (q 26))]) hx hb dL_canPlay_19 rfl hl (by decide) rfl (fun ls hl => ?_)
      refine lv_iconst (v := 1) hx hb dL_canPlay_20 (by decide) ?_
      exact tk_rL hQ (tk_s3 hf).1 (tk_cHO (tk_s3 hf).2.1 (tk_s3 hf).2.2) (by decide) (by decide) hx hb hr hlocks hP hD hS dL_canPlay_21
    have hf := tk_neg hf g0
    exact nomatch hf
  · have hf := tk_pos hf hk
    refine lv_if_eq (tgt := 14) hx hb dL_canPlay_7 (by decide) (fun h2 => ?_) (fun h2 => ?_)
    · have hf := tk_pos hf h2
      refine lv_lconst (v := 0) hx hb dL_canPlay_14 (by decide) ?_
      refine va_last (f := o) hx hb hE.1 hP hD hS 17 1 rfl rfl tk_in01 dL_canPlay_15 (fun H locs hP hD hS => ?_)
      have hP : va_P G vwCl (tk_H c3 q S ++ tk_O c3 q (vp_updL o (0 : Int32).toNatClampNeg (0 : Int64))) H := hP
      have hD : va_D A (tk_H c3 q S ++ tk_O c3 q (vp_updL o (0 : Int32).toNatClampNeg (0 : Int64))) := hD
      refine lv_goto (tgt := 22) hx hb dL_canPlay_16 (by decide) ?_
      refine lv_iconst (v := 0) hx hb dL_canPlay_22 (by decide) ?_
      exact tk_rL hQ (tk_s3 hf).1 (tk_cHO (tk_s3 hf).2.1 (tk_s3 hf).2.2) (by decide) (by decide) hx hb hr hlocks hP hD hS dL_canPlay_23
    · have hf := tk_neg hf h2
      refine lv_lconst (v := 1) hx hb dL_canPlay_10 (by decide) ?_
      refine lv_goto (tgt := 15) hx hb dL_canPlay_11 (by decide) ?_
      refine va_last (f := o) hx hb hE.1 hP hD hS 17 1 rfl rfl tk_in01 dL_canPlay_15 (fun H locs hP hD hS => ?_)
      have hP : va_P G vwCl (tk_H c3 q S ++ tk_O c3 q (vp_updL o (0 : Int32).toNatClampNeg (1 : Int64))) H := hP
      have hD : va_D A (tk_H c3 q S ++ tk_O c3 q (vp_updL o (0 : Int32).toNatClampNeg (1 : Int64))) := hD
      refine lv_goto (tgt := 22) hx hb dL_canPlay_16 (by decide) ?_
      refine lv_iconst (v := 0) hx hb dL_canPlay_22 (by decide) ?_
      exact tk_rL hQ (tk_s3 hf).1 (tk_cHO (tk_s3 hf).2.1 (tk_s3 hf).2.2) (by decide) (by decide) hx hb hr hlocks hP hD hS dL_canPlay_23
abbrev rm_L_valueOf : Room := { frames := 7, cells := 1, slots := 6, locals := 111 }
set_option maxHeartbeats 4000000 in
set_option maxRecDepth 100000 in
theorem c_L_valueOf (l : Launch) (hlst : l.stackTraces = false) (G : va_G) (c3 : ClassId × ClassId × ClassId) (q : Nat → Nat) (S : tk_ST) (o : Nat → Int64) (p0 : Int32) (r0 : Int32) (S0 : tk_ST) (o0 : Nat → Int64) (hf : f_L_valueOf p0 S o = some (r0, S0, o0)) : tk_Li l yL_valueOf wsL_valueOf rm_L_valueOf G c3 [.ref (q 0), .int p0, .ref (q 26)] (tk_H c3 q S ++ tk_O c3 q o) (tk_H c3 q S0 ++ tk_O c3 q o0) r0 := by
  refine tk_ofLi (cc := cL_valueOf) (maxL := 4) (ret := some .int) (hh := [(0, 9, 12, 23)]) (by decide) rfl (Nat.le_of_ble_eq_true rfl) ?_
  intro p e s m below meth c A Q ls H locs hx hb hml hr hts hown hlocks hE hA hP hD hS hZ hQ hl
  obtain ⟨hZ, hC, htab⟩ := hZ
  have hl : lv_has ls 4 [(0, .ref (q 0)), (1, .int p0), (2, .ref (q 26))] := hl
  have hown : s.vm.findClass RL = some m.cls := hown
  unfold f_L_valueOf at hf
  refine lv_aload_n hx hb dL_valueOf_0 rfl (lv_at hl 2 rfl) ?_
  refine lv_iconst (v := 0) hx hb dL_valueOf_1 (by decide) ?_
  refine lv_aload_n hx hb dL_valueOf_2 rfl (lv_at hl 0 rfl) ?_
  refine lv_iload_n hx hb dL_valueOf_3 rfl (lv_at hl 1 rfl) ?_
  obtain ⟨k, r, h1, hf⟩ := tk_b2s hf
  refine tk_xiL (a := tk_H c3 q S) (a' := tk_H c3 q S) (b := tk_O c3 q o) (vx_runV (As := [.int p0]) (rest := [.int 0, .ref (q 26)]) ⟨hx, hb, hml, hown, hts⟩ (c_X6_valueOf l hlst G c3 q S p0 k r h1 H.size) (cwV 1 hts gL_valueOf_X6_valueOf rfl rfl rfl hv_X6_valueOf ⟨Nat.le_of_ble_eq_true rfl, Nat.le_of_ble_eq_true rfl⟩) (tk_pVX hE hZ (tk_Pl hP) (tk_Dl hD) hS hA 0 rfl rfl) rfl rfl hl.1 rfl (lv_room (Nat.le_of_ble_eq_true rfl)) dL_valueOf_4 ⟨Nat.le_of_ble_eq_true rfl, Nat.le_of_ble_eq_true rfl⟩) hP hD hS hA (fun hk ce q9 H locs hP hD hS hc1 hc2 hc3 => ?_) (fun hk H locs hP hD hS => ?_)
  · have hf := tk_neg hf hk
    by_cases g0 : k = (3 : Int32)
    · have hf := tk_pos hf g0
      have hc3 : s.vm.findClass "java/lang/IndexOutOfBoundsException" = some ce.cls := by rw [ex_3, ← g0]; exact hc3
      refine vx_catch (name := "java/lang/IndexOutOfBoundsException") hown [] ⟨0, 9, 12, 23⟩ [] (htab.trans rfl) (fun z hz => nomatch hz) (by decide) (by decide) (hts _ m_L_valueOf_c23) (va_Nw.use rfl hE.2.1.2.2.2.2.2.2.2.2.2.2.2.2.1) hc1 hc2 hc3 ?_
      refine lv_astore_n (lv' := [(3, .ref q9), (0, .ref (q 0)), (1, .int p0), (2, .ref (q 26))]) hx hb dL_valueOf_12 rfl hl (by decide) rfl (fun ls hl => ?_)
      refine lv_iconst (v := 1) hx hb dL_valueOf_13 (by decide) ?_
      exact tk_rL hQ (tk_s3 hf).1 (tk_cHO (tk_s3 hf).2.1 (tk_s3 hf).2.2) (by decide) (by decide) hx hb hr hlocks hP hD hS dL_valueOf_14
    have hf := tk_neg hf g0
    exact nomatch hf
  · have hf := tk_pos hf hk
    refine lv_i2l (v := r.toInt64) hx hb dL_valueOf_7 rfl ?_
    refine va_last (f := o) hx hb hE.1 hP hD hS 17 1 rfl rfl tk_in01 dL_valueOf_8 (fun H locs hP hD hS => ?_)
    have hP : va_P G vwCl (tk_H c3 q S ++ tk_O c3 q (vp_updL o (0 : Int32).toNatClampNeg r.toInt64)) H := hP
    have hD : va_D A (tk_H c3 q S ++ tk_O c3 q (vp_updL o (0 : Int32).toNatClampNeg r.toInt64)) := hD
    refine lv_goto (tgt := 15) hx hb dL_valueOf_9 (by decide) ?_
    refine lv_iconst (v := 0) hx hb dL_valueOf_15 (by decide) ?_
    exact tk_rL hQ (tk_s3 hf).1 (tk_cHO (tk_s3 hf).2.1 (tk_s3 hf).2.2) (by decide) (by decide) hx hb hr hlocks hP hD hS dL_valueOf_16
abbrev rm_L_thirds : Room := { frames := 7, cells := 1, slots := 6, locals := 111 }
set_option maxHeartbeats 4000000 in
set_option maxRecDepth 100000 in
theorem c_L_thirds (l : Launch) (hlst : l.stackTraces = false) (G : va_G) (c3 : ClassId × ClassId × ClassId) (q : Nat → Nat) (S : tk_ST) (o : Nat → Int64) (p0 : Int32) (r0 : Int32) (S0 : tk_ST) (o0 : Nat → Int64) (hf : f_L_thirds p0 S o = some (r0, S0, o0)) : tk_Li l yL_thirds wsL_thirds rm_L_thirds G c3 [.ref (q 0), .int p0, .ref (q 26)] (tk_H c3 q S ++ tk_O c3 q o) (tk_H c3 q S0 ++ tk_O c3 q o0) r0 := by
  refine tk_ofLi (cc := cL_thirds) (maxL := 4) (ret := some .int) (hh := [(0, 9, 12, 23)]) (by decide) rfl (Nat.le_of_ble_eq_true rfl) ?_
  intro p e s m below meth c A Q ls H locs hx hb hml hr hts hown hlocks hE hA hP hD hS hZ hQ hl
  obtain ⟨hZ, hC, htab⟩ := hZ
  have hl : lv_has ls 4 [(0, .ref (q 0)), (1, .int p0), (2, .ref (q 26))] := hl
  have hown : s.vm.findClass RL = some m.cls := hown
  unfold f_L_thirds at hf
  refine lv_aload_n hx hb dL_thirds_0 rfl (lv_at hl 2 rfl) ?_
  refine lv_iconst (v := 0) hx hb dL_thirds_1 (by decide) ?_
  refine lv_aload_n hx hb dL_thirds_2 rfl (lv_at hl 0 rfl) ?_
  refine lv_iload_n hx hb dL_thirds_3 rfl (lv_at hl 1 rfl) ?_
  obtain ⟨k, r, h1, hf⟩ := tk_b2s hf
  refine tk_xiL (a := tk_H c3 q S) (a' := tk_H c3 q S) (b := tk_O c3 q o) (vx_runV (As := [.int p0]) (rest := [.int 0, .ref (q 26)]) ⟨hx, hb, hml, hown, hts⟩ (c_X6_thirds l hlst G c3 q S p0 k r h1 H.size) (cwV 1 hts gL_thirds_X6_thirds rfl rfl rfl hv_X6_thirds ⟨Nat.le_of_ble_eq_true rfl, Nat.le_of_ble_eq_true rfl⟩) (tk_pVX hE hZ (tk_Pl hP) (tk_Dl hD) hS hA 0 rfl rfl) rfl rfl hl.1 rfl (lv_room (Nat.le_of_ble_eq_true rfl)) dL_thirds_4 ⟨Nat.le_of_ble_eq_true rfl, Nat.le_of_ble_eq_true rfl⟩) hP hD hS hA (fun hk ce q9 H locs hP hD hS hc1 hc2 hc3 => ?_) (fun hk H locs hP hD hS => ?_)
  · have hf := tk_neg hf hk
    by_cases g0 : k = (3 : Int32)
    · have hf := tk_pos hf g0
      have hc3 : s.vm.findClass "java/lang/IndexOutOfBoundsException" = some ce.cls := by rw [ex_3, ← g0]; exact hc3
      refine vx_catch (name := "java/lang/IndexOutOfBoundsException") hown [] ⟨0, 9, 12, 23⟩ [] (htab.trans rfl) (fun z hz => nomatch hz) (by decide) (by decide) (hts _ m_L_thirds_c23) (va_Nw.use rfl hE.2.1.2.2.2.2.2.2.2.2.2.2.2.2.1) hc1 hc2 hc3 ?_
      refine lv_astore_n (lv' := [(3, .ref q9), (0, .ref (q 0)), (1, .int p0), (2, .ref (q 26))]) hx hb dL_thirds_12 rfl hl (by decide) rfl (fun ls hl => ?_)
      refine lv_iconst (v := 1) hx hb dL_thirds_13 (by decide) ?_
      exact tk_rL hQ (tk_s3 hf).1 (tk_cHO (tk_s3 hf).2.1 (tk_s3 hf).2.2) (by decide) (by decide) hx hb hr hlocks hP hD hS dL_thirds_14
    have hf := tk_neg hf g0
    exact nomatch hf
  · have hf := tk_pos hf hk
    refine lv_i2l (v := r.toInt64) hx hb dL_thirds_7 rfl ?_
    refine va_last (f := o) hx hb hE.1 hP hD hS 17 1 rfl rfl tk_in01 dL_thirds_8 (fun H locs hP hD hS => ?_)
    have hP : va_P G vwCl (tk_H c3 q S ++ tk_O c3 q (vp_updL o (0 : Int32).toNatClampNeg r.toInt64)) H := hP
    have hD : va_D A (tk_H c3 q S ++ tk_O c3 q (vp_updL o (0 : Int32).toNatClampNeg r.toInt64)) := hD
    refine lv_goto (tgt := 15) hx hb dL_thirds_9 (by decide) ?_
    refine lv_iconst (v := 0) hx hb dL_thirds_15 (by decide) ?_
    exact tk_rL hQ (tk_s3 hf).1 (tk_cHO (tk_s3 hf).2.1 (tk_s3 hf).2.2) (by decide) (by decide) hx hb hr hlocks hP hD hS dL_thirds_16
abbrev rm_L_byPacks : Room := { frames := 7, cells := 1, slots := 6, locals := 111 }
set_option maxHeartbeats 4000000 in
set_option maxRecDepth 100000 in
theorem c_L_byPacks (l : Launch) (hlst : l.stackTraces = false) (G : va_G) (c3 : ClassId × ClassId × ClassId) (q : Nat → Nat) (S : tk_ST) (o : Nat → Int64) (p0 : Int32) (r0 : Int32) (S0 : tk_ST) (o0 : Nat → Int64) (hf : f_L_byPacks p0 S o = some (r0, S0, o0)) : tk_Li l yL_byPacks wsL_byPacks rm_L_byPacks G c3 [.ref (q 0), .int p0, .ref (q 26)] (tk_H c3 q S ++ tk_O c3 q o) (tk_H c3 q S0 ++ tk_O c3 q o0) r0 := by
  refine tk_ofLi (cc := cL_byPacks) (maxL := 4) (ret := some .int) (hh := [(0, 9, 12, 23)]) (by decide) rfl (Nat.le_of_ble_eq_true rfl) ?_
  intro p e s m below meth c A Q ls H locs hx hb hml hr hts hown hlocks hE hA hP hD hS hZ hQ hl
  obtain ⟨hZ, hC, htab⟩ := hZ
  have hl : lv_has ls 4 [(0, .ref (q 0)), (1, .int p0), (2, .ref (q 26))] := hl
  have hown : s.vm.findClass RL = some m.cls := hown
  unfold f_L_byPacks at hf
  refine lv_aload_n hx hb dL_byPacks_0 rfl (lv_at hl 2 rfl) ?_
  refine lv_iconst (v := 0) hx hb dL_byPacks_1 (by decide) ?_
  refine lv_aload_n hx hb dL_byPacks_2 rfl (lv_at hl 0 rfl) ?_
  refine lv_iload_n hx hb dL_byPacks_3 rfl (lv_at hl 1 rfl) ?_
  obtain ⟨k, r, h1, hf⟩ := tk_b2s hf
  refine tk_xiL (a := tk_H c3 q S) (a' := tk_H c3 q S) (b := tk_O c3 q o) (vx_runV (As := [.int p0]) (rest := [.int 0, .ref (q 26)]) ⟨hx, hb, hml, hown, hts⟩ (c_X6_byPacks l hlst G c3 q S p0 k r h1 H.size) (cwV 1 hts gL_byPacks_X6_byPacks rfl rfl rfl hv_X6_byPacks ⟨Nat.le_of_ble_eq_true rfl, Nat.le_of_ble_eq_true rfl⟩) (tk_pVX hE hZ (tk_Pl hP) (tk_Dl hD) hS hA 0 rfl rfl) rfl rfl hl.1 rfl (lv_room (Nat.le_of_ble_eq_true rfl)) dL_byPacks_4 ⟨Nat.le_of_ble_eq_true rfl, Nat.le_of_ble_eq_true rfl⟩) hP hD hS hA (fun hk ce q9 H locs hP hD hS hc1 hc2 hc3 => ?_) (fun hk H locs hP hD hS => ?_)
  · have hf := tk_neg hf hk
    by_cases g0 : k = (3 : Int32)
    · have hf := tk_pos hf g0
      have hc3 : s.vm.findClass "java/lang/IndexOutOfBoundsException" = some ce.cls := by rw [ex_3, ← g0]; exact hc3
      refine vx_catch (name := "java/lang/IndexOutOfBoundsException") hown [] ⟨0, 9, 12, 23⟩ [] (htab.trans rfl) (fun z hz => nomatch hz) (by decide) (by decide) (hts _ m_L_byPacks_c23) (va_Nw.use rfl hE.2.1.2.2.2.2.2.2.2.2.2.2.2.2.1) hc1 hc2 hc3 ?_
      refine lv_astore_n (lv' := [(3, .ref q9), (0, .ref (q 0)), (1, .int p0), (2, .ref (q 26))]) hx hb dL_byPacks_12 rfl hl (by decide) rfl (fun ls hl => ?_)
      refine lv_iconst (v := 1) hx hb dL_byPacks_13 (by decide) ?_
      exact tk_rL hQ (tk_s3 hf).1 (tk_cHO (tk_s3 hf).2.1 (tk_s3 hf).2.2) (by decide) (by decide) hx hb hr hlocks hP hD hS dL_byPacks_14
    have hf := tk_neg hf g0
    exact nomatch hf
  · have hf := tk_pos hf hk
    refine lv_i2l (v := r.toInt64) hx hb dL_byPacks_7 rfl ?_
    refine va_last (f := o) hx hb hE.1 hP hD hS 17 1 rfl rfl tk_in01 dL_byPacks_8 (fun H locs hP hD hS => ?_)
    have hP : va_P G vwCl (tk_H c3 q S ++ tk_O c3 q (vp_updL o (0 : Int32).toNatClampNeg r.toInt64)) H := hP
    have hD : va_D A (tk_H c3 q S ++ tk_O c3 q (vp_updL o (0 : Int32).toNatClampNeg r.toInt64)) := hD
    refine lv_goto (tgt := 15) hx hb dL_byPacks_9 (by decide) ?_
    refine lv_iconst (v := 0) hx hb dL_byPacks_15 (by decide) ?_
    exact tk_rL hQ (tk_s3 hf).1 (tk_cHO (tk_s3 hf).2.1 (tk_s3 hf).2.2) (by decide) (by decide) hx hb hr hlocks hP hD hS dL_byPacks_16
abbrev rm_L_score : Room := { frames := 7, cells := 1, slots := 6, locals := 111 }
set_option maxHeartbeats 4000000 in
set_option maxRecDepth 100000 in
theorem c_L_score (l : Launch) (hlst : l.stackTraces = false) (G : va_G) (c3 : ClassId × ClassId × ClassId) (q : Nat → Nat) (S : tk_ST) (o : Nat → Int64) (p0 : Int32) (r0 : Int32) (S0 : tk_ST) (o0 : Nat → Int64) (hf : f_L_score p0 S o = some (r0, S0, o0)) : tk_Li l yL_score wsL_score rm_L_score G c3 [.ref (q 0), .int p0, .ref (q 26)] (tk_H c3 q S ++ tk_O c3 q o) (tk_H c3 q S0 ++ tk_O c3 q o0) r0 := by
  refine tk_ofLi (cc := cL_score) (maxL := 4) (ret := some .int) (hh := [(0, 9, 12, 23)]) (by decide) rfl (Nat.le_of_ble_eq_true rfl) ?_
  intro p e s m below meth c A Q ls H locs hx hb hml hr hts hown hlocks hE hA hP hD hS hZ hQ hl
  obtain ⟨hZ, hC, htab⟩ := hZ
  have hl : lv_has ls 4 [(0, .ref (q 0)), (1, .int p0), (2, .ref (q 26))] := hl
  have hown : s.vm.findClass RL = some m.cls := hown
  unfold f_L_score at hf
  refine lv_aload_n hx hb dL_score_0 rfl (lv_at hl 2 rfl) ?_
  refine lv_iconst (v := 0) hx hb dL_score_1 (by decide) ?_
  refine lv_aload_n hx hb dL_score_2 rfl (lv_at hl 0 rfl) ?_
  refine lv_iload_n hx hb dL_score_3 rfl (lv_at hl 1 rfl) ?_
  obtain ⟨k, r, h1, hf⟩ := tk_b2s hf
  refine tk_xiL (a := tk_H c3 q S) (a' := tk_H c3 q S) (b := tk_O c3 q o) (vx_runV (As := [.int p0]) (rest := [.int 0, .ref (q 26)]) ⟨hx, hb, hml, hown, hts⟩ (c_X6_score l hlst G c3 q S p0 k r h1 H.size) (cwV 1 hts gL_score_X6_score rfl rfl rfl hv_X6_score ⟨Nat.le_of_ble_eq_true rfl, Nat.le_of_ble_eq_true rfl⟩) (tk_pVX hE hZ (tk_Pl hP) (tk_Dl hD) hS hA 0 rfl rfl) rfl rfl hl.1 rfl (lv_room (Nat.le_of_ble_eq_true rfl)) dL_score_4 ⟨Nat.le_of_ble_eq_true rfl, Nat.le_of_ble_eq_true rfl⟩) hP hD hS hA (fun hk ce q9 H locs hP hD hS hc1 hc2 hc3 => ?_) (fun hk H locs hP hD hS => ?_)
  · have hf := tk_neg hf hk
    by_cases g0 : k = (3 : Int32)
    · have hf := tk_pos hf g0
      have hc3 : s.vm.findClass "java/lang/IndexOutOfBoundsException" = some ce.cls := by rw [ex_3, ← g0]; exact hc3
      refine vx_catch (name := "java/lang/IndexOutOfBoundsException") hown [] ⟨0, 9, 12, 23⟩ [] (htab.trans rfl) (fun z hz => nomatch hz) (by decide) (by decide) (hts _ m_L_score_c23) (va_Nw.use rfl hE.2.1.2.2.2.2.2.2.2.2.2.2.2.2.1) hc1 hc2 hc3 ?_
      refine lv_astore_n (lv' := [(3, .ref q9), (0, .ref (q 0)), (1, .int p0), (2, .ref (q 26))]) hx hb dL_score_12 rfl hl (by decide) rfl (fun ls hl => ?_)
      refine lv_iconst (v := 1) hx hb dL_score_13 (by decide) ?_
      exact tk_rL hQ (tk_s3 hf).1 (tk_cHO (tk_s3 hf).2.1 (tk_s3 hf).2.2) (by decide) (by decide) hx hb hr hlocks hP hD hS dL_score_14
    have hf := tk_neg hf g0
    exact nomatch hf
  · have hf := tk_pos hf hk
    refine lv_i2l (v := r.toInt64) hx hb dL_score_7 rfl ?_
    refine va_last (f := o) hx hb hE.1 hP hD hS 17 1 rfl rfl tk_in01 dL_score_8 (fun H locs hP hD hS => ?_)
    have hP : va_P G vwCl (tk_H c3 q S ++ tk_O c3 q (vp_updL o (0 : Int32).toNatClampNeg r.toInt64)) H := hP
    have hD : va_D A (tk_H c3 q S ++ tk_O c3 q (vp_updL o (0 : Int32).toNatClampNeg r.toInt64)) := hD
    refine lv_goto (tgt := 15) hx hb dL_score_9 (by decide) ?_
    refine lv_iconst (v := 0) hx hb dL_score_15 (by decide) ?_
    exact tk_rL hQ (tk_s3 hf).1 (tk_cHO (tk_s3 hf).2.1 (tk_s3 hf).2.2) (by decide) (by decide) hx hb hr hlocks hP hD hS dL_score_16
abbrev rm_L_radli : Room := { frames := 7, cells := 1, slots := 6, locals := 111 }
set_option maxHeartbeats 4000000 in
set_option maxRecDepth 100000 in
theorem c_L_radli (l : Launch) (hlst : l.stackTraces = false) (G : va_G) (c3 : ClassId × ClassId × ClassId) (q : Nat → Nat) (S : tk_ST) (o : Nat → Int64) (p0 : Int32) (r0 : Int32) (S0 : tk_ST) (o0 : Nat → Int64) (hf : f_L_radli p0 S o = some (r0, S0, o0)) : tk_Li l yL_radli wsL_radli rm_L_radli G c3 [.ref (q 0), .int p0, .ref (q 26)] (tk_H c3 q S ++ tk_O c3 q o) (tk_H c3 q S0 ++ tk_O c3 q o0) r0 := by
  refine tk_ofLi (cc := cL_radli) (maxL := 4) (ret := some .int) (hh := [(0, 9, 12, 23)]) (by decide) rfl (Nat.le_of_ble_eq_true rfl) ?_
  intro p e s m below meth c A Q ls H locs hx hb hml hr hts hown hlocks hE hA hP hD hS hZ hQ hl
  obtain ⟨hZ, hC, htab⟩ := hZ
  have hl : lv_has ls 4 [(0, .ref (q 0)), (1, .int p0), (2, .ref (q 26))] := hl
  have hown : s.vm.findClass RL = some m.cls := hown
  unfold f_L_radli at hf
  refine lv_aload_n hx hb dL_radli_0 rfl (lv_at hl 2 rfl) ?_
  refine lv_iconst (v := 0) hx hb dL_radli_1 (by decide) ?_
  refine lv_aload_n hx hb dL_radli_2 rfl (lv_at hl 0 rfl) ?_
  refine lv_iload_n hx hb dL_radli_3 rfl (lv_at hl 1 rfl) ?_
  obtain ⟨k, r, h1, hf⟩ := tk_b2s hf
  refine tk_xiL (a := tk_H c3 q S) (a' := tk_H c3 q S) (b := tk_O c3 q o) (vx_runV (As := [.int p0]) (rest := [.int 0, .ref (q 26)]) ⟨hx, hb, hml, hown, hts⟩ (c_X6_radli l hlst G c3 q S p0 k r h1 H.size) (cwV 1 hts gL_radli_X6_radli rfl rfl rfl hv_X6_radli ⟨Nat.le_of_ble_eq_true rfl, Nat.le_of_ble_eq_true rfl⟩) (tk_pVX hE hZ (tk_Pl hP) (tk_Dl hD) hS hA 0 rfl rfl) rfl rfl hl.1 rfl (lv_room (Nat.le_of_ble_eq_true rfl)) dL_radli_4 ⟨Nat.le_of_ble_eq_true rfl, Nat.le_of_ble_eq_true rfl⟩) hP hD hS hA (fun hk ce q9 H locs hP hD hS hc1 hc2 hc3 => ?_) (fun hk H locs hP hD hS => ?_)
  · have hf := tk_neg hf hk
    by_cases g0 : k = (3 : Int32)
    · have hf := tk_pos hf g0
      have hc3 : s.vm.findClass "java/lang/IndexOutOfBoundsException" = some ce.cls := by rw [ex_3, ← g0]; exact hc3
      refine vx_catch (name := "java/lang/IndexOutOfBoundsException") hown [] ⟨0, 9, 12, 23⟩ [] (htab.trans rfl) (fun z hz => nomatch hz) (by decide) (by decide) (hts _ m_L_radli_c23) (va_Nw.use rfl hE.2.1.2.2.2.2.2.2.2.2.2.2.2.2.1) hc1 hc2 hc3 ?_
      refine lv_astore_n (lv' := [(3, .ref q9), (0, .ref (q 0)), (1, .int p0), (2, .ref (q 26))]) hx hb dL_radli_12 rfl hl (by decide) rfl (fun ls hl => ?_)
      refine lv_iconst (v := 1) hx hb dL_radli_13 (by decide) ?_
      exact tk_rL hQ (tk_s3 hf).1 (tk_cHO (tk_s3 hf).2.1 (tk_s3 hf).2.2) (by decide) (by decide) hx hb hr hlocks hP hD hS dL_radli_14
    have hf := tk_neg hf g0
    exact nomatch hf
  · have hf := tk_pos hf hk
    refine lv_i2l (v := r.toInt64) hx hb dL_radli_7 rfl ?_
    refine va_last (f := o) hx hb hE.1 hP hD hS 17 1 rfl rfl tk_in01 dL_radli_8 (fun H locs hP hD hS => ?_)
    have hP : va_P G vwCl (tk_H c3 q S ++ tk_O c3 q (vp_updL o (0 : Int32).toNatClampNeg r.toInt64)) H := hP
    have hD : va_D A (tk_H c3 q S ++ tk_O c3 q (vp_updL o (0 : Int32).toNatClampNeg r.toInt64)) := hD
    refine lv_goto (tgt := 15) hx hb dL_radli_9 (by decide) ?_
    refine lv_iconst (v := 0) hx hb dL_radli_15 (by decide) ?_
    exact tk_rL hQ (tk_s3 hf).1 (tk_cHO (tk_s3 hf).2.1 (tk_s3 hf).2.2) (by decide) (by decide) hx hb hr hlocks hP hD hS dL_radli_16
abbrev rm_L_knows : Room := { frames := 7, cells := 1, slots := 6, locals := 113 }
set_option maxHeartbeats 4000000 in
set_option maxRecDepth 100000 in
theorem c_L_knows (l : Launch) (hlst : l.stackTraces = false) (G : va_G) (c3 : ClassId × ClassId × ClassId) (q : Nat → Nat) (S : tk_ST) (o : Nat → Int64) (p0 : Int32) (p1 : Int32) (r0 : Int32) (S0 : tk_ST) (o0 : Nat → Int64) (hf : f_L_knows p0 p1 S o = some (r0, S0, o0)) : tk_Li l yL_knows wsL_knows rm_L_knows G c3 [.ref (q 0), .int p0, .int p1, .ref (q 26)] (tk_H c3 q S ++ tk_O c3 q o) (tk_H c3 q S0 ++ tk_O c3 q o0) r0 := by
  refine tk_ofLi (cc := cL_knows) (maxL := 5) (ret := some .int) (hh := [(0, 10, 13, 23)]) (by decide) rfl (Nat.le_of_ble_eq_true rfl) ?_
  intro p e s m below meth c A Q ls H locs hx hb hml hr hts hown hlocks hE hA hP hD hS hZ hQ hl
  obtain ⟨hZ, hC, htab⟩ := hZ
  have hl : lv_has ls 5 [(0, .ref (q 0)), (1, .int p0), (2, .int p1), (3, .ref (q 26))] := hl
  have hown : s.vm.findClass RL = some m.cls := hown
  unfold f_L_knows at hf
  refine lv_aload_n hx hb dL_knows_0 rfl (lv_at hl 3 rfl) ?_
  refine lv_iconst (v := 0) hx hb dL_knows_1 (by decide) ?_
  refine lv_aload_n hx hb dL_knows_2 rfl (lv_at hl 0 rfl) ?_
  refine lv_iload_n hx hb dL_knows_3 rfl (lv_at hl 1 rfl) ?_
  refine lv_iload_n hx hb dL_knows_4 rfl (lv_at hl 2 rfl) ?_
  obtain ⟨k, r, h1, hf⟩ := tk_b2s hf
  refine tk_xiL (a := tk_H c3 q S) (a' := tk_H c3 q S) (b := tk_O c3 q o) (vx_runV (As := [.int p0, .int p1]) (rest := [.int 0, .ref (q 26)]) ⟨hx, hb, hml, hown, hts⟩ (c_X6_knows l hlst G c3 q S p0 p1 k r h1 H.size) (cwV 2 hts gL_knows_X6_knows rfl rfl rfl hv_X6_knows ⟨Nat.le_of_ble_eq_true rfl, Nat.le_of_ble_eq_true rfl⟩) (tk_pVX hE hZ (tk_Pl hP) (tk_Dl hD) hS hA 0 rfl rfl) rfl rfl hl.1 rfl (lv_room (Nat.le_of_ble_eq_true rfl)) dL_knows_5 ⟨Nat.le_of_ble_eq_true rfl, Nat.le_of_ble_eq_true rfl⟩) hP hD hS hA (fun hk ce q9 H locs hP hD hS hc1 hc2 hc3 => ?_) (fun hk H locs hP hD hS => ?_)
  · have hf := tk_neg hf hk
    by_cases g0 : k = (3 : Int32)
    · have hf := tk_pos hf g0
      have hc3 : s.vm.findClass "java/lang/IndexOutOfBoundsException" = some ce.cls := by rw [ex_3, ← g0]; exact hc3
      refine vx_catch (name := "java/lang/IndexOutOfBoundsException") hown [] ⟨0, 10, 13, 23⟩ [] (htab.trans rfl) (fun z hz => nomatch hz) (by decide) (by decide) (hts _ m_L_knows_c23) (va_Nw.use rfl hE.2.1.2.2.2.2.2.2.2.2.2.2.2.2.1) hc1 hc2 hc3 ?_
      refine lv_astore (lv' := [(4, .ref q9), (0, .ref (q 0)), (1, .int p0), (2, .int p1), (3, .ref (q 26))]) hx hb dL_knows_13 hl (by decide) rfl (fun ls hl => ?_)
      refine lv_iconst (v := 1) hx hb dL_knows_15 (by decide) ?_
      exact tk_rL hQ (tk_s3 hf).1 (tk_cHO (tk_s3 hf).2.1 (tk_s3 hf).2.2) (by decide) (by decide) hx hb hr hlocks hP hD hS dL_knows_16
    have hf := tk_neg hf g0
    exact nomatch hf
  · have hf := tk_pos hf hk
    refine lv_i2l (v := r.toInt64) hx hb dL_knows_8 rfl ?_
    refine va_last (f := o) hx hb hE.1 hP hD hS 17 1 rfl rfl tk_in01 dL_knows_9 (fun H locs hP hD hS => ?_)
    have hP : va_P G vwCl (tk_H c3 q S ++ tk_O c3 q (vp_updL o (0 : Int32).toNatClampNeg r.toInt64)) H := hP
    have hD : va_D A (tk_H c3 q S ++ tk_O c3 q (vp_updL o (0 : Int32).toNatClampNeg r.toInt64)) := hD
    refine lv_goto (tgt := 17) hx hb dL_knows_10 (by decide) ?_
    refine lv_iconst (v := 0) hx hb dL_knows_17 (by decide) ?_
    exact tk_rL hQ (tk_s3 hf).1 (tk_cHO (tk_s3 hf).2.1 (tk_s3 hf).2.2) (by decide) (by decide) hx hb hr hlocks hP hD hS dL_knows_18
