section TKM
variable {p : Program} {l : Launch} {e : Env} {R : Room} {s : State} {m : MethodId} {args : Array Value} {below : List Frame} {meth : Method} {c : Code} {H H1 : Heap} {locs : List Loc} {cells slots mc ms : Nat} {Q : State → Prop}
variable {cc : ByteArray} {pc : Nat} {ls : Array Slot} {rest st0 : List Value} {ar : Array Value} {A : Nat → Prop} {H0 : Heap} {G : va_G} {c3 : ClassId × ClassId × ClassId} {a a' ws' : va_W}
theorem tk_ciA {r : Int32} (hr : va_Run p l e R s m args below meth c H locs cells slots mc ms (F0 m pc ls st0) rest (va_Qi (fun (r1 : Int32) (_ : Unit) => r1 = r) (tk_post G (va_A a H.size) a') (va_A a H.size) ar) (va_A a H.size))
    (hP : va_P G vwCl a H) (hD : va_D A a) (hS : va_S A H0 H locs) (hA : ∀ q, H0.size ≤ q → A q)
    (kk : ∀ (H1 : Heap) (locs1 : List Loc), va_P G vwCl a' H1 → va_D A a' → va_S A H0 H1 locs1 → W p l e R s m args below meth c H1 locs1 (cells + mc) (slots + ms) Q (F0 m (pc + 3) ls (.int r :: rest))) : W p l e R s m args below meth c H locs cells slots Q (F0 m pc ls st0) := by
  refine tk_ciL (b := []) hr (by rw [List.append_nil]; exact hP) (by rw [List.append_nil]; exact hD) hS hA (fun H1 locs1 hP1 hD1 hS1 => ?_)
  rw [List.append_nil] at hP1 hD1
  exact kk H1 locs1 hP1 hD1 hS1
theorem tk_xi {k r : Int32} (hr : vx_Run p l e R s m args below meth c H locs cells slots mc ms (F0 m pc ls st0) rest (va_Qi (fun (r1 : Int32) (_ : Unit) => k = 0 ∧ r1 = r) (tk_post G (va_A a H.size) a') (va_A a H.size) ar) (tk_XC G (va_A a H.size) a' k) (va_A a H.size))
    (hP : va_P G vwCl a H) (hD : va_D A a) (hS : va_S A H0 H locs) (hA : ∀ q, H0.size ≤ q → A q)
    (kx : k ≠ 0 → ∀ (ce : Cell) (q9 : Addr) (H1 : Heap) (locs1 : List Loc), va_P G vwCl a' H1 → va_D A a' → va_S A H0 H1 locs1 → H1[q9]? = some ce → ce.vm = .none → s.vm.findClass (tk_ex k) = some ce.cls → vx_W p l e R s m args below meth c H1 locs1 (cells + mc) (slots + ms) Q (F0 m pc ls rest) q9)
    (kk : k = 0 → ∀ (H1 : Heap) (locs1 : List Loc), va_P G vwCl a' H1 → va_D A a' → va_S A H0 H1 locs1 → W p l e R s m args below meth c H1 locs1 (cells + mc) (slots + ms) Q (F0 m (pc + 3) ls (.int r :: rest))) : W p l e R s m args below meth c H locs cells slots Q (F0 m pc ls st0) := by
  refine tk_xiL (b := []) hr (by rw [List.append_nil]; exact hP) (by rw [List.append_nil]; exact hD) hS hA (fun hk ce q9 H1 locs1 hP1 hD1 hS1 h1 h2 h3 => ?_) (fun hk H1 locs1 hP1 hD1 hS1 => ?_)
  · rw [List.append_nil] at hP1 hD1
    exact kx hk ce q9 H1 locs1 hP1 hD1 hS1 h1 h2 h3
  · rw [List.append_nil] at hP1 hD1
    exact kk hk H1 locs1 hP1 hD1 hS1
theorem tk_rLz {r r0 : Int32} {wr : va_W} (hQ : Q = MQ below (va_Qi (fun (r1 : Int32) (_ : Unit) => r1 = r0) (tk_post G A ws') A) args s 1 6 A) (e1 : r = r0) (e2 : wr = ws') (hz : r = 0 ∨ r = 1) (hc : cells ≤ 1) (hs : slots ≤ 6)
    (hx : p.tables.exec = Jvm.exec) (hb : c.code = cc) (hr : meth.sig.returnType = some .boolean) (hlocks : meth.locks = false) (hP : va_P G vwCl wr H) (hD : va_D A wr) (hS : va_S A s.heap H locs) (d : decode cc pc = .ok (.ireturn, 1)) :
    W p l e R s m args below meth c H locs cells slots Q (F0 m pc ls [.int r]) := by
  subst hQ; subst e1; subst e2
  refine W.widen (k := 1) (n := 6) hc hs ?_
  exact W.zret (v := r) hx hb hr (tk_znar rfl hz) (fun t ht hW => ⟨⟨r, (), rfl, rfl, by rw [ht]; exact hP, hD⟩, hS.F ht⟩) hS.2.2 d
end TKM
theorem tk_r0 {α : Type} {x : Option (Int32 × α)} {r : α} (h : (tk_b2 x fun k r => if k = 0 then some r else none) = some r) : x = some (0, r) := by
  obtain ⟨k, r1, h1, h2⟩ := tk_b2s h
  obtain ⟨h3, h4⟩ := tk_yes h2
  rw [h1, h3, tk_s1 h4]
theorem tk_w0 {α β : Type} {x : Option (Int32 × α × β)} {r : α} {S : β} (h : (tk_b3 x fun k r S1 => if k = 0 then some (r, S1) else none) = some (r, S)) : x = some (0, r, S) := by
  obtain ⟨k, r1, S1, h1, h2⟩ := tk_b3s h
  obtain ⟨h3, h4⟩ := tk_yes h2
  rw [h1, h3, (tk_s2 h4).1, (tk_s2 h4).2]
section TKM2
variable {l : Launch} {y : MethodName} {ws ws' : List Cond} {rm : Room} {G : va_G} {c3 : ClassId × ClassId × ClassId} {av : List Value} {w0 w1 : va_W} {cc : ByteArray} {maxL : Nat} {ret : Option FieldType}
theorem tk_ofLj {r0 : Int32} (hy : plainName y.cls = true) (hw : ws = Cond.code y cc maxL ret :: ws') (hn : (lg_sl av).length ≤ maxL)
    (body : tk_B0 l ws rm y G c3 av w0 cc maxL ret (fun _ A s => tk_Z A s s.heap ∧ tk_C s) (fun below s A => MQ below (va_Qi (fun (r1 : Int32) (_ : Unit) => r1 = r0) (tk_post G A w1) A) av.toArray s 1 6 A)) : tk_Li l y ws rm G c3 av w0 w1 r0 := by
  intro sz
  refine Met.ofW (cc := cc) (maxL := maxL) (ret := ret) hy hw ?_
  intro p e s m args below meth c s₁ B hml hv
  obtain ⟨rfl, ⟨⟨hsz, hP, hE, hD0⟩, hZ⟩, hC⟩ := hv
  subst hsz
  have hD := hD0.self (sz := s.heap.size)
  have hl := lv_entry av (n := maxL) hn
  rw [lg_entry_eq]
  exact body p e s m below meth c _ _ _ _ _ B.exec B.bytes hml B.returns (atoms_spec (ws := ws) B.pre) (findClass_of_methodNamed B.named) B.notSynchronized hE (fun q h => Or.inr h) hP hD va_S.rf ⟨hZ, hC⟩ rfl hl
end TKM2
set_option maxRecDepth 20000 in
theorem hv_X6_bid : yX6_bid.cls = RX6 ∧ yX6_bid.cls ≠ "java/lang/invoke/MethodHandle" ∧ yX6_bid.cls ≠ "java/lang/invoke/VarHandle" ∧ (parseMethodDescriptor yX6_bid.desc).map (fun d => d.parameters.length) = some 1 := by decide +kernel
set_option maxRecDepth 20000 in
theorem m_L_bids_c13 : Cond.classLink RL 13 "java/lang/IllegalStateException" ∈ wsL_bids := by decide +kernel
set_option maxRecDepth 20000 in
theorem hv_X6_discard : yX6_discard.cls = RX6 ∧ yX6_discard.cls ≠ "java/lang/invoke/MethodHandle" ∧ yX6_discard.cls ≠ "java/lang/invoke/VarHandle" ∧ (parseMethodDescriptor yX6_discard.desc).map (fun d => d.parameters.length) = some 1 := by decide +kernel
set_option maxRecDepth 20000 in
theorem m_L_lays_c13 : Cond.classLink RL 13 "java/lang/IllegalStateException" ∈ wsL_lays := by decide +kernel
set_option maxRecDepth 20000 in
theorem hv_X6_announce : yX6_announce.cls = RX6 ∧ yX6_announce.cls ≠ "java/lang/invoke/MethodHandle" ∧ yX6_announce.cls ≠ "java/lang/invoke/VarHandle" ∧ (parseMethodDescriptor yX6_announce.desc).map (fun d => d.parameters.length) = some 1 := by decide +kernel
set_option maxRecDepth 20000 in
theorem m_L_announces_c13 : Cond.classLink RL 13 "java/lang/IllegalStateException" ∈ wsL_announces := by decide +kernel
set_option maxRecDepth 20000 in
theorem hv_X6_play : yX6_play.cls = RX6 ∧ yX6_play.cls ≠ "java/lang/invoke/MethodHandle" ∧ yX6_play.cls ≠ "java/lang/invoke/VarHandle" ∧ (parseMethodDescriptor yX6_play.desc).map (fun d => d.parameters.length) = some 1 := by decide +kernel
set_option maxRecDepth 20000 in
theorem m_L_plays_c13 : Cond.classLink RL 13 "java/lang/IllegalStateException" ∈ wsL_plays := by decide +kernel
set_option maxRecDepth 20000 in
theorem hv_X6_inTrick : yX6_inTrick.cls = RX6 ∧ yX6_inTrick.cls ≠ "java/lang/invoke/MethodHandle" ∧ yX6_inTrick.cls ≠ "java/lang/invoke/VarHandle" ∧ (parseMethodDescriptor yX6_inTrick.desc).map (fun d => d.parameters.length) = some 0 := by decide +kernel
set_option maxRecDepth 20000 in
theorem hv_X6_canPlay : yX6_canPlay.cls = RX6 ∧ yX6_canPlay.cls ≠ "java/lang/invoke/MethodHandle" ∧ yX6_canPlay.cls ≠ "java/lang/invoke/VarHandle" ∧ (parseMethodDescriptor yX6_canPlay.desc).map (fun d => d.parameters.length) = some 1 := by decide +kernel
set_option maxRecDepth 20000 in
theorem hv_X6_tricks : yX6_tricks.cls = RX6 ∧ yX6_tricks.cls ≠ "java/lang/invoke/MethodHandle" ∧ yX6_tricks.cls ≠ "java/lang/invoke/VarHandle" ∧ (parseMethodDescriptor yX6_tricks.desc).map (fun d => d.parameters.length) = some 0 := by decide +kernel
set_option maxRecDepth 20000 in
theorem hs_L_suit : yL_suit.cls ≠ "java/lang/invoke/MethodHandle" ∧ yL_suit.cls ≠ "java/lang/invoke/VarHandle" ∧ (parseMethodDescriptor yL_suit.desc).map (fun d => d.parameters.length) = some 1 := by decide +kernel
set_option maxRecDepth 20000 in
theorem hs_L_has : yL_has.cls ≠ "java/lang/invoke/MethodHandle" ∧ yL_has.cls ≠ "java/lang/invoke/VarHandle" ∧ (parseMethodDescriptor yL_has.desc).map (fun d => d.parameters.length) = some 2 := by decide +kernel
set_option maxRecDepth 20000 in
theorem hs_L_bits : yL_bits.cls ≠ "java/lang/invoke/MethodHandle" ∧ yL_bits.cls ≠ "java/lang/invoke/VarHandle" ∧ (parseMethodDescriptor yL_bits.desc).map (fun d => d.parameters.length) = some 1 := by decide +kernel
set_option maxRecDepth 20000 in
theorem hv_X6_phase : yX6_phase.cls = RX6 ∧ yX6_phase.cls ≠ "java/lang/invoke/MethodHandle" ∧ yX6_phase.cls ≠ "java/lang/invoke/VarHandle" ∧ (parseMethodDescriptor yX6_phase.desc).map (fun d => d.parameters.length) = some 0 := by decide +kernel
set_option maxRecDepth 20000 in
theorem hv_X6_turn : yX6_turn.cls = RX6 ∧ yX6_turn.cls ≠ "java/lang/invoke/MethodHandle" ∧ yX6_turn.cls ≠ "java/lang/invoke/VarHandle" ∧ (parseMethodDescriptor yX6_turn.desc).map (fun d => d.parameters.length) = some 0 := by decide +kernel
set_option maxRecDepth 20000 in
theorem hv_X6_hand : yX6_hand.cls = RX6 ∧ yX6_hand.cls ≠ "java/lang/invoke/MethodHandle" ∧ yX6_hand.cls ≠ "java/lang/invoke/VarHandle" ∧ (parseMethodDescriptor yX6_hand.desc).map (fun d => d.parameters.length) = some 1 := by decide +kernel
set_option maxRecDepth 20000 in
theorem hv_X6_trickAt : yX6_trickAt.cls = RX6 ∧ yX6_trickAt.cls ≠ "java/lang/invoke/MethodHandle" ∧ yX6_trickAt.cls ≠ "java/lang/invoke/VarHandle" ∧ (parseMethodDescriptor yX6_trickAt.desc).map (fun d => d.parameters.length) = some 1 := by decide +kernel
set_option maxRecDepth 20000 in
theorem hv_X6_called : yX6_called.cls = RX6 ∧ yX6_called.cls ≠ "java/lang/invoke/MethodHandle" ∧ yX6_called.cls ≠ "java/lang/invoke/VarHandle" ∧ (parseMethodDescriptor yX6_called.desc).map (fun d => d.parameters.length) = some 0 := by decide +kernel
set_option maxRecDepth 20000 in
theorem hv_X6_level : yX6_level.cls = RX6 ∧ yX6_level.cls ≠ "java/lang/invoke/MethodHandle" ∧ yX6_level.cls ≠ "java/lang/invoke/VarHandle" ∧ (parseMethodDescriptor yX6_level.desc).map (fun d => d.parameters.length) = some 0 := by decide +kernel
set_option maxRecDepth 20000 in
theorem hv_X6_declarer : yX6_declarer.cls = RX6 ∧ yX6_declarer.cls ≠ "java/lang/invoke/MethodHandle" ∧ yX6_declarer.cls ≠ "java/lang/invoke/VarHandle" ∧ (parseMethodDescriptor yX6_declarer.desc).map (fun d => d.parameters.length) = some 0 := by decide +kernel
set_option maxRecDepth 20000 in
theorem hv_X6_partner : yX6_partner.cls = RX6 ∧ yX6_partner.cls ≠ "java/lang/invoke/MethodHandle" ∧ yX6_partner.cls ≠ "java/lang/invoke/VarHandle" ∧ (parseMethodDescriptor yX6_partner.desc).map (fun d => d.parameters.length) = some 0 := by decide +kernel
set_option maxRecDepth 20000 in
theorem hv_X6_knows : yX6_knows.cls = RX6 ∧ yX6_knows.cls ≠ "java/lang/invoke/MethodHandle" ∧ yX6_knows.cls ≠ "java/lang/invoke/VarHandle" ∧ (parseMethodDescriptor yX6_knows.desc).map (fun d => d.parameters.length) = some 2 := by decide +kernel
set_option maxRecDepth 20000 in
theorem hv_X6_byPacks : yX6_byPacks.cls = RX6 ∧ yX6_byPacks.cls ≠ "java/lang/invoke/MethodHandle" ∧ yX6_byPacks.cls ≠ "java/lang/invoke/VarHandle" ∧ (parseMethodDescriptor yX6_byPacks.desc).map (fun d => d.parameters.length) = some 1 := by decide +kernel
set_option maxRecDepth 20000 in
theorem hv_X6_thirds : yX6_thirds.cls = RX6 ∧ yX6_thirds.cls ≠ "java/lang/invoke/MethodHandle" ∧ yX6_thirds.cls ≠ "java/lang/invoke/VarHandle" ∧ (parseMethodDescriptor yX6_thirds.desc).map (fun d => d.parameters.length) = some 1 := by decide +kernel
set_option maxRecDepth 20000 in
theorem hv_X6_radli : yX6_radli.cls = RX6 ∧ yX6_radli.cls ≠ "java/lang/invoke/MethodHandle" ∧ yX6_radli.cls ≠ "java/lang/invoke/VarHandle" ∧ (parseMethodDescriptor yX6_radli.desc).map (fun d => d.parameters.length) = some 1 := by decide +kernel
set_option maxRecDepth 20000 in
theorem hv_X6_score : yX6_score.cls = RX6 ∧ yX6_score.cls ≠ "java/lang/invoke/MethodHandle" ∧ yX6_score.cls ≠ "java/lang/invoke/VarHandle" ∧ (parseMethodDescriptor yX6_score.desc).map (fun d => d.parameters.length) = some 1 := by decide +kernel
set_option maxRecDepth 20000 in
theorem hv_X6_result : yX6_result.cls = RX6 ∧ yX6_result.cls ≠ "java/lang/invoke/MethodHandle" ∧ yX6_result.cls ≠ "java/lang/invoke/VarHandle" ∧ (parseMethodDescriptor yX6_result.desc).map (fun d => d.parameters.length) = some 0 := by decide +kernel
set_option maxRecDepth 20000 in
theorem hv_X6_valueOf : yX6_valueOf.cls = RX6 ∧ yX6_valueOf.cls ≠ "java/lang/invoke/MethodHandle" ∧ yX6_valueOf.cls ≠ "java/lang/invoke/VarHandle" ∧ (parseMethodDescriptor yX6_valueOf.desc).map (fun d => d.parameters.length) = some 1 := by decide +kernel
set_option maxRecDepth 20000 in
theorem hs_L_wins : yL_wins.cls ≠ "java/lang/invoke/MethodHandle" ∧ yL_wins.cls ≠ "java/lang/invoke/VarHandle" ∧ (parseMethodDescriptor yL_wins.desc).map (fun d => d.parameters.length) = some 4 := by decide +kernel
set_option maxRecDepth 20000 in
theorem hs_L_plays : yL_plays.cls ≠ "java/lang/invoke/MethodHandle" ∧ yL_plays.cls ≠ "java/lang/invoke/VarHandle" ∧ (parseMethodDescriptor yL_plays.desc).map (fun d => d.parameters.length) = some 2 := by decide +kernel
set_option maxRecDepth 20000 in
theorem hs_L_drawn : yL_drawn.cls ≠ "java/lang/invoke/MethodHandle" ∧ yL_drawn.cls ≠ "java/lang/invoke/VarHandle" ∧ (parseMethodDescriptor yL_drawn.desc).map (fun d => d.parameters.length) = some 2 := by decide +kernel
abbrev rm0_X6_hand : Room := { frames := 1, cells := 0, slots := 0, locals := 21 }
set_option maxHeartbeats 4000000 in
set_option maxRecDepth 100000 in
theorem c0_X6_hand (l : Launch) (G : va_G) (c3 : ClassId × ClassId × ClassId) (q : Nat → Nat) (S : tk_ST) (p0 : Int32) (r0 : Int64) (hf : f0_X6_hand p0 S = some r0) : tk_Ml l yX6_hand wsX6_hand rm0_X6_hand G c3 [.ref (q 0), .int p0] (tk_H c3 q S) (tk_H c3 q S) r0 := by
  have hf := tk_r0 hf
  refine tk_ofl (cc := cX6_hand) (maxL := 2) (ret := some .long) (by decide) rfl (Nat.le_of_ble_eq_true rfl) ?_
  intro p e s m below meth c A Q ls H locs hx hb hml hr hts hown hlocks hE hA hP hD hS hZ hQ hl
  have hl : lv_has ls 2 [(0, .ref (q 0)), (1, .int p0)] := hl
  have hown : s.vm.findClass RX6 = some m.cls := hown
  unfold f_X6_hand at hf
  refine lv_iload_n hx hb dX6_hand_0 rfl (lv_at hl 1 rfl) ?_
  obtain ⟨r1, h2, hf⟩ := tk_b1s hf
  refine tk_ci (ws' := (tk_H c3 q S)) (va_runS (As := [.int p0]) (rest := []) ⟨hx, hb, hml, hown, hts⟩ (c_X6_isPlayer l G c3 (tk_H c3 q S) p0 r1 h2 H.size) (va_cwS 1 hts gX6_hand_X6_isPlayer rfl rfl rfl hs_X6_isPlayer ⟨Nat.le_of_ble_eq_true rfl, Nat.le_of_ble_eq_true rfl⟩) (tk_pS hE hP hD) rfl rfl hl.1 rfl (lv_room (Nat.le_of_ble_eq_true rfl)) dX6_hand_1 ⟨Nat.zero_le _, Nat.zero_le _⟩) hD hS hA (fun H locs hP hD hS => ?_)
  refine lv_if_ne (tgt := 17) hx hb dX6_hand_4 (by decide) (fun h4 => ?_) (fun h4 => ?_)
  · have hf := tk_neg hf h4
    refine lv_aload_n hx hb dX6_hand_17 rfl (lv_at hl 0 rfl) ?_
    refine va_get (D := G) (ci := 6) (v := .ref (q 13)) (C := RX6) (T := TX6) (N := 18) hx hb hts i_X6_hand_X6 hown hE.1 hP 0 rfl rfl 4 (by decide) (hts _ m_X6_hand_f42) (fun _ h9 => h9) rfl dX6_hand_18 ?_
    refine lv_iload_n hx hb dX6_hand_21 rfl (lv_at hl 1 rfl) ?_
    obtain ⟨r5, h6, hf⟩ := tk_b1s hf
    refine tk_cl (ws' := (tk_H c3 q S)) (va_runV (As := [.int p0]) (rest := []) ⟨hx, hb, hml, hown, hts⟩ (c_X3_at_p13 l G c3 q S p0 r5 h6 H.size) (cwV 1 hts gX6_hand_X3_at rfl rfl rfl hv_X3_at ⟨Nat.le_of_ble_eq_true rfl, Nat.le_of_ble_eq_true rfl⟩) (tk_pV hE hP hD 13 rfl rfl) rfl rfl hl.1 rfl (lv_room (Nat.le_of_ble_eq_true rfl)) dX6_hand_22 ⟨Nat.zero_le _, Nat.zero_le _⟩) hD hS hA (fun H locs hP hD hS => ?_)
    exact tk_rl hQ (tk_s2 hf).2 rfl hx hb hr hlocks hP hD hS dX6_hand_25
  · have hf := tk_pos hf h4
    exact absurd (tk_s2 hf).1 (by decide)
abbrev rm0_X6_canPlay : Room := { frames := 3, cells := 0, slots := 0, locals := 70 }
set_option maxHeartbeats 4000000 in
set_option maxRecDepth 100000 in
theorem c0_X6_canPlay (l : Launch) (G : va_G) (c3 : ClassId × ClassId × ClassId) (q : Nat → Nat) (S : tk_ST) (p0 : Int32) (r0 : Int32) (hf : f0_X6_canPlay p0 S = some r0) : tk_Mi l yX6_canPlay wsX6_canPlay rm0_X6_canPlay G c3 [.ref (q 0), .int p0] (tk_H c3 q S) (tk_H c3 q S) r0 := by
  have hf := tk_r0 hf
  refine tk_ofi (cc := cX6_canPlay) (maxL := 2) (ret := some .boolean) (by decide) rfl (Nat.le_of_ble_eq_true rfl) ?_
  intro p e s m below meth c A Q ls H locs hx hb hml hr hts hown hlocks hE hA hP hD hS hZ hQ hl
  have hl : lv_has ls 2 [(0, .ref (q 0)), (1, .int p0)] := hl
  have hown : s.vm.findClass RX6 = some m.cls := hown
  unfold f_X6_canPlay at hf
  refine lv_iload_n hx hb dX6_canPlay_0 rfl (lv_at hl 1 rfl) ?_
  obtain ⟨r1, h2, hf⟩ := tk_b1s hf
  refine tk_ci (ws' := (tk_H c3 q S)) (va_runS (As := [.int p0]) (rest := []) ⟨hx, hb, hml, hown, hts⟩ (c_X6_isCard l G c3 (tk_H c3 q S) p0 r1 h2 H.size) (va_cwS 1 hts gX6_canPlay_X6_isCard rfl rfl rfl hs_X6_isCard ⟨Nat.le_of_ble_eq_true rfl, Nat.le_of_ble_eq_true rfl⟩) (tk_pS hE hP hD) rfl rfl hl.1 rfl (lv_room (Nat.le_of_ble_eq_true rfl)) dX6_canPlay_1 ⟨Nat.zero_le _, Nat.zero_le _⟩) hD hS hA (fun H locs hP hD hS => ?_)
  refine lv_if_ne (tgt := 17) hx hb dX6_canPlay_4 (by decide) (fun h4 => ?_) (fun h4 => ?_)
  · have hf := tk_neg hf h4
    refine lv_aload_n hx hb dX6_canPlay_17 rfl (lv_at hl 0 rfl) ?_
    obtain ⟨r5, h6, hf⟩ := tk_b1s hf
    refine tk_cl (ws' := (tk_H c3 q S)) (va_runV (As := []) (rest := []) ⟨hx, hb, hml, hown, hts⟩ (c_X6_playableNow l G c3 q S r5 h6 H.size) (cwV 0 hts gX6_canPlay_X6_playableNow rfl rfl rfl hv_X6_playableNow ⟨Nat.le_of_ble_eq_true rfl, Nat.le_of_ble_eq_true rfl⟩) (tk_pV hE hP hD 0 rfl rfl) rfl rfl hl.1 rfl (lv_room (Nat.le_of_ble_eq_true rfl)) dX6_canPlay_18 ⟨Nat.zero_le _, Nat.zero_le _⟩) hD hS hA (fun H locs hP hD hS => ?_)
    refine lv_iload_n hx hb dX6_canPlay_21 rfl (lv_at hl 1 rfl) ?_
    obtain ⟨r8, h9, hf⟩ := tk_b1s hf
    refine tk_ci (ws' := (tk_H c3 q S)) (va_runS (As := [.long r5, .int p0]) (rest := []) ⟨hx, hb, hml, hown, hts⟩ (c_X6_holds l G c3 (tk_H c3 q S) r5 p0 r8 h9 H.size) (va_cwS 2 hts gX6_canPlay_X6_holds rfl rfl rfl hs_X6_holds ⟨Nat.le_of_ble_eq_true rfl, Nat.le_of_ble_eq_true rfl⟩) (tk_pS hE hP hD) rfl rfl hl.1 rfl (lv_room (Nat.le_of_ble_eq_true rfl)) dX6_canPlay_22 ⟨Nat.zero_le _, Nat.zero_le _⟩) hD hS hA (fun H locs hP hD hS => ?_)
    obtain ⟨h11, hf⟩ := tk_yes hf
    exact tk_rz hQ (tk_s2 hf).2 rfl h11 hx hb hr hlocks hP hD hS dX6_canPlay_25
  · have hf := tk_pos hf h4
    exact absurd (tk_s2 hf).1 (by decide)
abbrev rm0_X6_trickAt : Room := { frames := 2, cells := 0, slots := 0, locals := 42 }
set_option maxHeartbeats 4000000 in
set_option maxRecDepth 100000 in
theorem c0_X6_trickAt (l : Launch) (G : va_G) (c3 : ClassId × ClassId × ClassId) (q : Nat → Nat) (S : tk_ST) (p0 : Int32) (r0 : Int32) (hf : f0_X6_trickAt p0 S = some r0) : tk_Mi l yX6_trickAt wsX6_trickAt rm0_X6_trickAt G c3 [.ref (q 0), .int p0] (tk_H c3 q S) (tk_H c3 q S) r0 := by
  have hf := tk_r0 hf
  refine tk_ofi (cc := cX6_trickAt) (maxL := 2) (ret := some .int) (by decide) rfl (Nat.le_of_ble_eq_true rfl) ?_
  intro p e s m below meth c A Q ls H locs hx hb hml hr hts hown hlocks hE hA hP hD hS hZ hQ hl
  have hl : lv_has ls 2 [(0, .ref (q 0)), (1, .int p0)] := hl
  have hown : s.vm.findClass RX6 = some m.cls := hown
  have J_15 : ∀ (H : Heap) (locs : List Loc) (_ : va_P G vwCl (tk_H c3 q S) H) (_ : va_D A (tk_H c3 q S)) (_ : va_S A s.heap H locs) (ls : Array Slot) (_ : lv_has ls 2 []) (_ : f_X6_trickAt_15 S = some ((0 : Int32), r0)), W p l e rm0_X6_trickAt s m ([.ref (q 0), .int p0] : List Value).toArray below meth c H locs 0 0 Q (F0 m 15 ls []) := by
    intro  H locs hP hD hS ls hl hf
    unfold f_X6_trickAt_15 at hf
    exact absurd (tk_s2 hf).1 (by decide)
  unfold f_X6_trickAt at hf
  refine lv_iload_n hx hb dX6_trickAt_0 rfl (lv_at hl 1 rfl) ?_
  refine lv_if_lt (tgt := 15) hx hb dX6_trickAt_1 (by decide) (fun h1 => ?_) (fun h1 => ?_)
  · have hf := tk_pos hf h1
    exact J_15 H locs hP hD hS ls (lv_sub hl [] rfl) hf
  · have hf := tk_neg hf h1
    refine lv_iload_n hx hb dX6_trickAt_4 rfl (lv_at hl 1 rfl) ?_
    refine lv_aload_n hx hb dX6_trickAt_5 rfl (lv_at hl 0 rfl) ?_
    refine va_get (D := G) (ci := 6) (v := .ref (q 5)) (C := RX6) (T := TX6) (N := 18) hx hb hts i_X6_trickAt_X6 hown hE.1 hP 0 rfl rfl 2 (by decide) (hts _ m_X6_trickAt_f26) (fun _ h9 => h9) rfl dX6_trickAt_6 ?_
    refine va_getN (D := G) (ci := 5) (v := .int (S.1 14)) (C := RX5) (T := TX5) (N := 3) hx hb hts i_X6_trickAt_X5 hown hE.1 hP 5 rfl rfl 2 (by decide) (va_Nw.use rfl hE.2.1.2.1) (fun _ h9 => h9) rfl dX6_trickAt_9 ?_
    refine lv_icmp_lt (tgt := 25) hx hb dX6_trickAt_12 (by decide) (fun h2 => ?_) (fun h2 => ?_)
    · have hf := tk_pos hf h2
      refine lv_aload_n hx hb dX6_trickAt_25 rfl (lv_at hl 0 rfl) ?_
      refine va_get (D := G) (ci := 6) (v := .ref (q 5)) (C := RX6) (T := TX6) (N := 18) hx hb hts i_X6_trickAt_X6 hown hE.1 hP 0 rfl rfl 2 (by decide) (hts _ m_X6_trickAt_f26) (fun _ h9 => h9) rfl dX6_trickAt_26 ?_
      refine lv_iload_n hx hb dX6_trickAt_29 rfl (lv_at hl 1 rfl) ?_
      obtain ⟨r3, h4, hf⟩ := tk_b1s hf
      refine tk_ci (ws' := (tk_H c3 q S)) (va_runV (As := [.int p0]) (rest := []) ⟨hx, hb, hml, hown, hts⟩ (c_X5_cardAt l G c3 q S p0 r3 h4 H.size) (cwV 1 hts gX6_trickAt_X5_cardAt rfl rfl rfl hv_X5_cardAt ⟨Nat.le_of_ble_eq_true rfl, Nat.le_of_ble_eq_true rfl⟩) (tk_pV hE hP hD 5 rfl rfl) rfl rfl hl.1 rfl (lv_room (Nat.le_of_ble_eq_true rfl)) dX6_trickAt_30 ⟨Nat.zero_le _, Nat.zero_le _⟩) hD hS hA (fun H locs hP hD hS => ?_)
      exact tk_ri hQ (tk_s2 hf).2 rfl hx hb hr hlocks hP hD hS dX6_trickAt_33
    · have hf := tk_neg hf h2
      exact J_15 H locs hP hD hS ls (lv_sub hl [] rfl) hf
abbrev rm0_X6_thirds : Room := { frames := 3, cells := 0, slots := 0, locals := 64 }
set_option maxHeartbeats 4000000 in
set_option maxRecDepth 100000 in
theorem c0_X6_thirds (l : Launch) (G : va_G) (c3 : ClassId × ClassId × ClassId) (q : Nat → Nat) (S : tk_ST) (p0 : Int32) (r0 : Int32) (hf : f0_X6_thirds p0 S = some r0) : tk_Mi l yX6_thirds wsX6_thirds rm0_X6_thirds G c3 [.ref (q 0), .int p0] (tk_H c3 q S) (tk_H c3 q S) r0 := by
  have hf := tk_r0 hf
  refine tk_ofi (cc := cX6_thirds) (maxL := 2) (ret := some .int) (by decide) rfl (Nat.le_of_ble_eq_true rfl) ?_
  intro p e s m below meth c A Q ls H locs hx hb hml hr hts hown hlocks hE hA hP hD hS hZ hQ hl
  have hl : lv_has ls 2 [(0, .ref (q 0)), (1, .int p0)] := hl
  have hown : s.vm.findClass RX6 = some m.cls := hown
  unfold f_X6_thirds at hf
  refine lv_iload_n hx hb dX6_thirds_0 rfl (lv_at hl 1 rfl) ?_
  obtain ⟨r1, h2, hf⟩ := tk_b1s hf
  refine tk_ci (ws' := (tk_H c3 q S)) (va_runS (As := [.int p0]) (rest := []) ⟨hx, hb, hml, hown, hts⟩ (c_X6_isSide l G c3 (tk_H c3 q S) p0 r1 h2 H.size) (va_cwS 1 hts gX6_thirds_X6_isSide rfl rfl rfl hs_X6_isSide ⟨Nat.le_of_ble_eq_true rfl, Nat.le_of_ble_eq_true rfl⟩) (tk_pS hE hP hD) rfl rfl hl.1 rfl (lv_room (Nat.le_of_ble_eq_true rfl)) dX6_thirds_1 ⟨Nat.zero_le _, Nat.zero_le _⟩) hD hS hA (fun H locs hP hD hS => ?_)
  refine lv_if_ne (tgt := 18) hx hb dX6_thirds_4 (by decide) (fun h4 => ?_) (fun h4 => ?_)
  · have hf := tk_neg hf h4
    refine lv_aload_n hx hb dX6_thirds_18 rfl (lv_at hl 0 rfl) ?_
    refine va_get (D := G) (ci := 6) (v := .ref (q 15)) (C := RX6) (T := TX6) (N := 18) hx hb hts i_X6_thirds_X6 hown hE.1 hP 0 rfl rfl 5 (by decide) (hts _ m_X6_thirds_f46) (fun _ h9 => h9) rfl dX6_thirds_19 ?_
    refine lv_iload_n hx hb dX6_thirds_22 rfl (lv_at hl 1 rfl) ?_
    obtain ⟨r5, h6, hf⟩ := tk_b1s hf
    refine tk_cl (ws' := (tk_H c3 q S)) (va_runV (As := [.int p0]) (rest := []) ⟨hx, hb, hml, hown, hts⟩ (c_X3_at_p15 l G c3 q S p0 r5 h6 H.size) (cwV 1 hts gX6_thirds_X3_at rfl rfl rfl hv_X3_at ⟨Nat.le_of_ble_eq_true rfl, Nat.le_of_ble_eq_true rfl⟩) (tk_pV hE hP hD 15 rfl rfl) rfl rfl hl.1 rfl (lv_room (Nat.le_of_ble_eq_true rfl)) dX6_thirds_23 ⟨Nat.zero_le _, Nat.zero_le _⟩) hD hS hA (fun H locs hP hD hS => ?_)
    obtain ⟨r8, h9, hf⟩ := tk_b1s hf
    refine tk_ci (ws' := (tk_H c3 q S)) (va_runS (As := [.long r5]) (rest := []) ⟨hx, hb, hml, hown, hts⟩ (c_X6_thirdsOf l G c3 (tk_H c3 q S) r5 r8 h9 H.size) (va_cwS 1 hts gX6_thirds_X6_thirdsOf rfl rfl rfl hs_X6_thirdsOf ⟨Nat.le_of_ble_eq_true rfl, Nat.le_of_ble_eq_true rfl⟩) (tk_pS hE hP hD) rfl rfl hl.1 rfl (lv_room (Nat.le_of_ble_eq_true rfl)) dX6_thirds_26 ⟨Nat.zero_le _, Nat.zero_le _⟩) hD hS hA (fun H locs hP hD hS => ?_)
    exact tk_ri hQ (tk_s2 hf).2 rfl hx hb hr hlocks hP hD hS dX6_thirds_29
  · have hf := tk_pos hf h4
    exact absurd (tk_s2 hf).1 (by decide)
abbrev rm0_X6_byPacks : Room := { frames := 3, cells := 0, slots := 0, locals := 66 }
set_option maxHeartbeats 4000000 in
set_option maxRecDepth 100000 in
theorem c0_X6_byPacks (l : Launch) (G : va_G) (c3 : ClassId × ClassId × ClassId) (q : Nat → Nat) (S : tk_ST) (p0 : Int32) (r0 : Int32) (hf : f0_X6_byPacks p0 S = some r0) : tk_Mi l yX6_byPacks wsX6_byPacks rm0_X6_byPacks G c3 [.ref (q 0), .int p0] (tk_H c3 q S) (tk_H c3 q S) r0 := by
  have hf := tk_r0 hf
  refine tk_ofi (cc := cX6_byPacks) (maxL := 2) (ret := some .int) (by decide) rfl (Nat.le_of_ble_eq_true rfl) ?_
  intro p e s m below meth c A Q ls H locs hx hb hml hr hts hown hlocks hE hA hP hD hS hZ hQ hl
  have hl : lv_has ls 2 [(0, .ref (q 0)), (1, .int p0)] := hl
  have hown : s.vm.findClass RX6 = some m.cls := hown
  unfold f_X6_byPacks at hf
  refine lv_iload_n hx hb dX6_byPacks_0 rfl (lv_at hl 1 rfl) ?_
  obtain ⟨r1, h2, hf⟩ := tk_b1s hf
  refine tk_ci (ws' := (tk_H c3 q S)) (va_runS (As := [.int p0]) (rest := []) ⟨hx, hb, hml, hown, hts⟩ (c_X6_isSide l G c3 (tk_H c3 q S) p0 r1 h2 H.size) (va_cwS 1 hts gX6_byPacks_X6_isSide rfl rfl rfl hs_X6_isSide ⟨Nat.le_of_ble_eq_true rfl, Nat.le_of_ble_eq_true rfl⟩) (tk_pS hE hP hD) rfl rfl hl.1 rfl (lv_room (Nat.le_of_ble_eq_true rfl)) dX6_byPacks_1 ⟨Nat.zero_le _, Nat.zero_le _⟩) hD hS hA (fun H locs hP hD hS => ?_)
  refine lv_if_ne (tgt := 18) hx hb dX6_byPacks_4 (by decide) (fun h4 => ?_) (fun h4 => ?_)
  · have hf := tk_neg hf h4
    refine lv_aload_n hx hb dX6_byPacks_18 rfl (lv_at hl 0 rfl) ?_
    refine va_get (D := G) (ci := 6) (v := .ref (q 15)) (C := RX6) (T := TX6) (N := 18) hx hb hts i_X6_byPacks_X6 hown hE.1 hP 0 rfl rfl 5 (by decide) (hts _ m_X6_byPacks_f46) (fun _ h9 => h9) rfl dX6_byPacks_19 ?_
    refine lv_iload_n hx hb dX6_byPacks_22 rfl (lv_at hl 1 rfl) ?_
    obtain ⟨r5, h6, hf⟩ := tk_b1s hf
    refine tk_cl (ws' := (tk_H c3 q S)) (va_runV (As := [.int p0]) (rest := []) ⟨hx, hb, hml, hown, hts⟩ (c_X3_at_p15 l G c3 q S p0 r5 h6 H.size) (cwV 1 hts gX6_byPacks_X3_at rfl rfl rfl hv_X3_at ⟨Nat.le_of_ble_eq_true rfl, Nat.le_of_ble_eq_true rfl⟩) (tk_pV hE hP hD 15 rfl rfl) rfl rfl hl.1 rfl (lv_room (Nat.le_of_ble_eq_true rfl)) dX6_byPacks_23 ⟨Nat.zero_le _, Nat.zero_le _⟩) hD hS hA (fun H locs hP hD hS => ?_)
    obtain ⟨r8, h9, hf⟩ := tk_b1s hf
    refine tk_ci (ws' := (tk_H c3 q S)) (va_runS (As := [.long r5]) (rest := []) ⟨hx, hb, hml, hown, hts⟩ (c_X6_packPointsOf l G c3 (tk_H c3 q S) r5 r8 h9 H.size) (va_cwS 1 hts gX6_byPacks_X6_packPointsOf rfl rfl rfl hs_X6_packPointsOf ⟨Nat.le_of_ble_eq_true rfl, Nat.le_of_ble_eq_true rfl⟩) (tk_pS hE hP hD) rfl rfl hl.1 rfl (lv_room (Nat.le_of_ble_eq_true rfl)) dX6_byPacks_26 ⟨Nat.zero_le _, Nat.zero_le _⟩) hD hS hA (fun H locs hP hD hS => ?_)
    exact tk_ri hQ (tk_s2 hf).2 rfl hx hb hr hlocks hP hD hS dX6_byPacks_29
  · have hf := tk_pos hf h4
    exact absurd (tk_s2 hf).1 (by decide)
abbrev rm0_X6_knows : Room := { frames := 2, cells := 0, slots := 0, locals := 42 }
set_option maxHeartbeats 4000000 in
set_option maxRecDepth 100000 in
theorem c0_X6_knows (l : Launch) (G : va_G) (c3 : ClassId × ClassId × ClassId) (q : Nat → Nat) (S : tk_ST) (p0 : Int32) (p1 : Int32) (r0 : Int32) (hf : f0_X6_knows p0 p1 S = some r0) : tk_Mi l yX6_knows wsX6_knows rm0_X6_knows G c3 [.ref (q 0), .int p0, .int p1] (tk_H c3 q S) (tk_H c3 q S) r0 := by
  have hf := tk_r0 hf
  refine tk_ofi (cc := cX6_knows) (maxL := 4) (ret := some .int) (by decide) rfl (Nat.le_of_ble_eq_true rfl) ?_
  intro p e s m below meth c A Q ls H locs hx hb hml hr hts hown hlocks hE hA hP hD hS hZ hQ hl
  have hl : lv_has ls 4 [(0, .ref (q 0)), (1, .int p0), (2, .int p1)] := hl
  have hown : s.vm.findClass RX6 = some m.cls := hown
  have J_14 : ∀ (H : Heap) (locs : List Loc) (_ : va_P G vwCl (tk_H c3 q S) H) (_ : va_D A (tk_H c3 q S)) (_ : va_S A s.heap H locs) (ls : Array Slot) (_ : lv_has ls 4 []) (_ : f_X6_knows_14 S = some ((0 : Int32), r0)), W p l e rm0_X6_knows s m ([.ref (q 0), .int p0, .int p1] : List Value).toArray below meth c H locs 0 0 Q (F0 m 14 ls []) := by
    intro  H locs hP hD hS ls hl hf
    unfold f_X6_knows_14 at hf
    exact absurd (tk_s2 hf).1 (by decide)
  have J_75 : ∀ (x2_75 : Int32) (k0_75 : Int32) (H : Heap) (locs : List Loc) (_ : va_P G vwCl (tk_H c3 q S) H) (_ : va_D A (tk_H c3 q S)) (_ : va_S A s.heap H locs) (ls : Array Slot) (_ : lv_has ls 4 [(0, .ref (q 0)), (2, .int x2_75)]) (_ : f_X6_knows_75 x2_75 k0_75 S = some ((0 : Int32), r0)), W p l e rm0_X6_knows s m ([.ref (q 0), .int p0, .int p1] : List Value).toArray below meth c H locs 0 0 Q (F0 m 75 ls [.int k0_75]) := by
    intro x2_75 k0_75 H locs hP hD hS ls hl hf
    unfold f_X6_knows_75 at hf
    refine lv_istore_n (lv' := [(3, .int k0_75), (0, .ref (q 0)), (2, .int x2_75)]) hx hb dX6_knows_75 rfl hl (by decide) rfl (fun ls hl => ?_)
    refine lv_iload_n hx hb dX6_knows_76 rfl (lv_at hl 0 rfl) ?_
    refine lv_if_eq (tgt := 88) hx hb dX6_knows_77 (by decide) (fun h1 => ?_) (fun h1 => ?_)
    · have hf := tk_pos hf h1
      refine lv_iconst (v := -1) hx hb dX6_knows_88 (by decide) ?_
      exact tk_ri hQ (tk_s2 hf).2 rfl hx hb hr hlocks hP hD hS dX6_knows_89
    · have hf := tk_neg hf h1
      refine lv_aload_n hx hb dX6_knows_80 rfl (lv_at hl 1 rfl) ?_
      refine lv_iload_n hx hb dX6_knows_81 rfl (lv_at hl 2 rfl) ?_
      obtain ⟨r2, h3, hf⟩ := tk_b1s hf
      refine tk_ci (ws' := (tk_H c3 q S)) (va_runV (As := [.int x2_75]) (rest := []) ⟨hx, hb, hml, hown, hts⟩ (c_X6_sideOf l G c3 q S x2_75 r2 h3 H.size) (cwV 1 hts gX6_knows_X6_sideOf rfl rfl rfl hv_X6_sideOf ⟨Nat.le_of_ble_eq_true rfl, Nat.le_of_ble_eq_true rfl⟩) (tk_pV hE hP hD 0 rfl rfl) rfl rfl hl.1 rfl (lv_room (Nat.le_of_ble_eq_true rfl)) dX6_knows_82 ⟨Nat.zero_le _, Nat.zero_le _⟩) hD hS hA (fun H locs hP hD hS => ?_)
      refine lv_goto (tgt := 89) hx hb dX6_knows_85 (by decide) ?_
      exact tk_ri hQ (tk_s2 hf).2 rfl hx hb hr hlocks hP hD hS dX6_knows_89
  have J_70 : ∀ (x2_70 : Int32) (H : Heap) (locs : List Loc) (_ : va_P G vwCl (tk_H c3 q S) H) (_ : va_D A (tk_H c3 q S)) (_ : va_S A s.heap H locs) (ls : Array Slot) (_ : lv_has ls 4 [(0, .ref (q 0)), (2, .int x2_70)]) (_ : f_X6_knows_70 x2_70 S = some ((0 : Int32), r0)), W p l e rm0_X6_knows s m ([.ref (q 0), .int p0, .int p1] : List Value).toArray below meth c H locs 0 0 Q (F0 m 70 ls []) := by
    intro x2_70 H locs hP hD hS ls hl hf
    unfold f_X6_knows_70 at hf
    refine lv_iconst (v := 1) hx hb dX6_knows_70 (by decide) ?_
    refine lv_goto (tgt := 75) hx hb dX6_knows_71 (by decide) ?_
    exact J_75 x2_70 (1 : Int32) H locs hP hD hS ls (lv_sub hl [0, 1] rfl) hf
  unfold f_X6_knows at hf
  refine lv_iload_n hx hb dX6_knows_0 rfl (lv_at hl 1 rfl) ?_
  obtain ⟨r5, h6, hf⟩ := tk_b1s hf
  refine tk_ci (ws' := (tk_H c3 q S)) (va_runS (As := [.int p0]) (rest := []) ⟨hx, hb, hml, hown, hts⟩ (c_X6_isPlayer l G c3 (tk_H c3 q S) p0 r5 h6 H.size) (va_cwS 1 hts gX6_knows_X6_isPlayer rfl rfl rfl hs_X6_isPlayer ⟨Nat.le_of_ble_eq_true rfl, Nat.le_of_ble_eq_true rfl⟩) (tk_pS hE hP hD) rfl rfl hl.1 rfl (lv_room (Nat.le_of_ble_eq_true rfl)) dX6_knows_1 ⟨Nat.zero_le _, Nat.zero_le _⟩) hD hS hA (fun H locs hP hD hS => ?_)
  refine lv_if_eq (tgt := 14) hx hb dX6_knows_4 (by decide) (fun h8 => ?_) (fun h8 => ?_)
  · have hf := tk_pos hf h8
    exact J_14 H locs hP hD hS ls (lv_sub hl [] rfl) hf
  · have hf := tk_neg hf h8
    refine lv_iload_n hx hb dX6_knows_7 rfl (lv_at hl 2 rfl) ?_
    obtain ⟨r9, h10, hf⟩ := tk_b1s hf
    refine tk_ci (ws' := (tk_H c3 q S)) (va_runS (As := [.int p1]) (rest := []) ⟨hx, hb, hml, hown, hts⟩ (c_X6_isPlayer l G c3 (tk_H c3 q S) p1 r9 h10 H.size) (va_cwS 1 hts gX6_knows_X6_isPlayer rfl rfl rfl hs_X6_isPlayer ⟨Nat.le_of_ble_eq_true rfl, Nat.le_of_ble_eq_true rfl⟩) (tk_pS hE hP hD) rfl rfl hl.1 rfl (lv_room (Nat.le_of_ble_eq_true rfl)) dX6_knows_8 ⟨Nat.zero_le _, Nat.zero_le _⟩) hD hS hA (fun H locs hP hD hS => ?_)
    refine lv_if_ne (tgt := 24) hx hb dX6_knows_11 (by decide) (fun h12 => ?_) (fun h12 => ?_)
    · have hf := tk_neg hf h12
      refine lv_aload_n hx hb dX6_knows_24 rfl (lv_at hl 0 rfl) ?_
      refine va_get (D := G) (ci := 6) (v := .int (S.1 3)) (C := RX6) (T := TX6) (N := 18) hx hb hts i_X6_knows_X6 hown hE.1 hP 0 rfl rfl 9 (by decide) (hts _ m_X6_knows_f59) (fun _ h9 => h9) rfl dX6_knows_25 ?_
      refine lv_iconst (v := -1) hx hb dX6_knows_28 (by decide) ?_
      refine lv_icmp_eq (tgt := 40) hx hb dX6_knows_29 (by decide) (fun h13 => ?_) (fun h13 => ?_)
      · have hf := tk_pos hf h13
        refine lv_iconst (v := -1) hx hb dX6_knows_40 (by decide) ?_
        exact tk_ri hQ (tk_s2 hf).2 rfl hx hb hr hlocks hP hD hS dX6_knows_41
      · have hf := tk_neg hf h13
        refine lv_aload_n hx hb dX6_knows_32 rfl (lv_at hl 0 rfl) ?_
        refine va_get (D := G) (ci := 6) (v := .int (S.1 1)) (C := RX6) (T := TX6) (N := 18) hx hb hts i_X6_knows_X6 hown hE.1 hP 0 rfl rfl 7 (by decide) (hts _ m_X6_knows_f53) (fun _ h9 => h9) rfl dX6_knows_33 ?_
        refine lv_iconst (v := 2) hx hb dX6_knows_36 (by decide) ?_
        refine lv_icmp_ne (tgt := 42) hx hb dX6_knows_37 (by decide) (fun h14 => ?_) (fun h14 => ?_)
        · have hf := tk_neg hf h14
          refine lv_iload_n hx hb dX6_knows_42 rfl (lv_at hl 2 rfl) ?_
          refine lv_aload_n hx hb dX6_knows_43 rfl (lv_at hl 0 rfl) ?_
          refine va_get (D := G) (ci := 6) (v := .int (S.1 3)) (C := RX6) (T := TX6) (N := 18) hx hb hts i_X6_knows_X6 hown hE.1 hP 0 rfl rfl 9 (by decide) (hts _ m_X6_knows_f59) (fun _ h9 => h9) rfl dX6_knows_44 ?_
          refine lv_icmp_eq (tgt := 70) hx hb dX6_knows_47 (by decide) (fun h15 => ?_) (fun h15 => ?_)
          · have hf := tk_pos hf h15
            exact J_70 p1 H locs hP hD hS ls (lv_sub hl [0, 2] rfl) hf
          · have hf := tk_neg hf h15
            refine lv_iload_n hx hb dX6_knows_50 rfl (lv_at hl 2 rfl) ?_
            refine lv_iload_n hx hb dX6_knows_51 rfl (lv_at hl 1 rfl) ?_
            refine lv_icmp_eq (tgt := 70) hx hb dX6_knows_52 (by decide) (fun h16 => ?_) (fun h16 => ?_)
            · have hf := tk_pos hf h16
              exact J_70 p1 H locs hP hD hS ls (lv_sub hl [0, 2] rfl) hf
            · have hf := tk_neg hf h16
              refine lv_iload_n hx hb dX6_knows_55 rfl (lv_at hl 1 rfl) ?_
              refine lv_aload_n hx hb dX6_knows_56 rfl (lv_at hl 0 rfl) ?_
              refine va_get (D := G) (ci := 6) (v := .int (S.1 5)) (C := RX6) (T := TX6) (N := 18) hx hb hts i_X6_knows_X6 hown hE.1 hP 0 rfl rfl 11 (by decide) (hts _ m_X6_knows_f65) (fun _ h9 => h9) rfl dX6_knows_57 ?_
              refine lv_icmp_eq (tgt := 70) hx hb dX6_knows_60 (by decide) (fun h17 => ?_) (fun h17 => ?_)
              · have hf := tk_pos hf h17
                exact J_70 p1 H locs hP hD hS ls (lv_sub hl [0, 2] rfl) hf
              · have hf := tk_neg hf h17
                refine lv_aload_n hx hb dX6_knows_63 rfl (lv_at hl 0 rfl) ?_
                obtain ⟨r18, h19, hf⟩ := tk_b1s hf
                refine tk_ci (ws' := (tk_H c3 q S)) (va_runV (As := []) (rest := []) ⟨hx, hb, hml, hown, hts⟩ (c_X6_sidesAreOpen l G c3 q S r18 h19 H.size) (cwV 0 hts gX6_knows_X6_sidesAreOpen rfl rfl rfl hv_X6_sidesAreOpen ⟨Nat.le_of_ble_eq_true rfl, Nat.le_of_ble_eq_true rfl⟩) (tk_pV hE hP hD 0 rfl rfl) rfl rfl hl.1 rfl (lv_room (Nat.le_of_ble_eq_true rfl)) dX6_knows_64 ⟨Nat.zero_le _, Nat.zero_le _⟩) hD hS hA (fun H locs hP hD hS => ?_)
                refine lv_if_eq (tgt := 74) hx hb dX6_knows_67 (by decide) (fun h21 => ?_) (fun h21 => ?_)
                · have hf := tk_pos hf h21
                  refine lv_iconst (v := 0) hx hb dX6_knows_74 (by decide) ?_
                  exact J_75 p1 (0 : Int32) H locs hP hD hS ls (lv_sub hl [0, 2] rfl) hf
                · have hf := tk_neg hf h21
                  exact J_70 p1 H locs hP hD hS ls (lv_sub hl [0, 2] rfl) hf
        · have hf := tk_pos hf h14
          refine lv_iconst (v := -1) hx hb dX6_knows_40 (by decide) ?_
          exact tk_ri hQ (tk_s2 hf).2 rfl hx hb hr hlocks hP hD hS dX6_knows_41
    · have hf := tk_pos hf h12
      exact J_14 H locs hP hD hS ls (lv_sub hl [] rfl) hf
abbrev rm0_X6_valueOf : Room := { frames := 2, cells := 0, slots := 0, locals := 41 }
set_option maxHeartbeats 4000000 in
set_option maxRecDepth 100000 in
theorem c0_X6_valueOf (l : Launch) (G : va_G) (c3 : ClassId × ClassId × ClassId) (q : Nat → Nat) (S : tk_ST) (p0 : Int32) (r0 : Int32) (hf : f0_X6_valueOf p0 S = some r0) : tk_Mi l yX6_valueOf wsX6_valueOf rm0_X6_valueOf G c3 [.ref (q 0), .int p0] (tk_H c3 q S) (tk_H c3 q S) r0 := by
  have hf := tk_r0 hf
  refine tk_ofi (cc := cX6_valueOf) (maxL := 2) (ret := some .int) (by decide) rfl (Nat.le_of_ble_eq_true rfl) ?_
  intro p e s m below meth c A Q ls H locs hx hb hml hr hts hown hlocks hE hA hP hD hS hZ hQ hl
  have hl : lv_has ls 2 [(0, .ref (q 0)), (1, .int p0)] := hl
  have hown : s.vm.findClass RX6 = some m.cls := hown
  unfold f_X6_valueOf at hf
  refine lv_iload_n hx hb dX6_valueOf_0 rfl (lv_at hl 1 rfl) ?_
  obtain ⟨r1, h2, hf⟩ := tk_b1s hf
  refine tk_ci (ws' := (tk_H c3 q S)) (va_runS (As := [.int p0]) (rest := []) ⟨hx, hb, hml, hown, hts⟩ (c_X6_isCard l G c3 (tk_H c3 q S) p0 r1 h2 H.size) (va_cwS 1 hts gX6_valueOf_X6_isCard rfl rfl rfl hs_X6_isCard ⟨Nat.le_of_ble_eq_true rfl, Nat.le_of_ble_eq_true rfl⟩) (tk_pS hE hP hD) rfl rfl hl.1 rfl (lv_room (Nat.le_of_ble_eq_true rfl)) dX6_valueOf_1 ⟨Nat.zero_le _, Nat.zero_le _⟩) hD hS hA (fun H locs hP hD hS => ?_)
  refine lv_if_ne (tgt := 17) hx hb dX6_valueOf_4 (by decide) (fun h4 => ?_) (fun h4 => ?_)
  · have hf := tk_neg hf h4
    refine lv_iload_n hx hb dX6_valueOf_17 rfl (lv_at hl 1 rfl) ?_
    obtain ⟨r5, h6, hf⟩ := tk_b1s hf
    refine tk_ci (ws' := (tk_H c3 q S)) (va_runS (As := [.int p0]) (rest := []) ⟨hx, hb, hml, hown, hts⟩ (c_X6_worth l G c3 (tk_H c3 q S) p0 r5 h6 H.size) (va_cwS 1 hts gX6_valueOf_X6_worth rfl rfl rfl hs_X6_worth ⟨Nat.le_of_ble_eq_true rfl, Nat.le_of_ble_eq_true rfl⟩) (tk_pS hE hP hD) rfl rfl hl.1 rfl (lv_room (Nat.le_of_ble_eq_true rfl)) dX6_valueOf_18 ⟨Nat.zero_le _, Nat.zero_le _⟩) hD hS hA (fun H locs hP hD hS => ?_)
    exact tk_ri hQ (tk_s2 hf).2 rfl hx hb hr hlocks hP hD hS dX6_valueOf_21
  · have hf := tk_pos hf h4
    exact absurd (tk_s2 hf).1 (by decide)
abbrev rm0_X6_score : Room := { frames := 1, cells := 0, slots := 0, locals := 21 }
set_option maxHeartbeats 4000000 in
set_option maxRecDepth 100000 in
theorem c0_X6_score (l : Launch) (G : va_G) (c3 : ClassId × ClassId × ClassId) (q : Nat → Nat) (S : tk_ST) (p0 : Int32) (r0 : Int32) (hf : f0_X6_score p0 S = some r0) : tk_Mi l yX6_score wsX6_score rm0_X6_score G c3 [.ref (q 0), .int p0] (tk_H c3 q S) (tk_H c3 q S) r0 := by
  have hf := tk_r0 hf
  refine tk_ofi (cc := cX6_score) (maxL := 2) (ret := some .int) (by decide) rfl (Nat.le_of_ble_eq_true rfl) ?_
  intro p e s m below meth c A Q ls H locs hx hb hml hr hts hown hlocks hE hA hP hD hS hZ hQ hl
  have hl : lv_has ls 2 [(0, .ref (q 0)), (1, .int p0)] := hl
  have hown : s.vm.findClass RX6 = some m.cls := hown
  unfold f_X6_score at hf
  refine lv_iload_n hx hb dX6_score_0 rfl (lv_at hl 1 rfl) ?_
  obtain ⟨r1, h2, hf⟩ := tk_b1s hf
  refine tk_ci (ws' := (tk_H c3 q S)) (va_runS (As := [.int p0]) (rest := []) ⟨hx, hb, hml, hown, hts⟩ (c_X6_isPlayer l G c3 (tk_H c3 q S) p0 r1 h2 H.size) (va_cwS 1 hts gX6_score_X6_isPlayer rfl rfl rfl hs_X6_isPlayer ⟨Nat.le_of_ble_eq_true rfl, Nat.le_of_ble_eq_true rfl⟩) (tk_pS hE hP hD) rfl rfl hl.1 rfl (lv_room (Nat.le_of_ble_eq_true rfl)) dX6_score_1 ⟨Nat.zero_le _, Nat.zero_le _⟩) hD hS hA (fun H locs hP hD hS => ?_)
  refine lv_if_ne (tgt := 17) hx hb dX6_score_4 (by decide) (fun h4 => ?_) (fun h4 => ?_)
  · have hf := tk_neg hf h4
    refine lv_aload_n hx hb dX6_score_17 rfl (lv_at hl 0 rfl) ?_
    refine va_get (D := G) (ci := 6) (v := .ref (q 8)) (C := RX6) (T := TX6) (N := 18) hx hb hts i_X6_score_X6 hown hE.1 hP 0 rfl rfl 3 (by decide) (hts _ m_X6_score_f33) (fun _ h9 => h9) rfl dX6_score_18 ?_
    refine va_getN (D := G) (ci := 4) (v := .ref (q 9)) (C := RX4) (T := TX4) (N := 3) hx hb hts i_X6_score_X4 hown hE.1 hP 8 rfl rfl 0 (by decide) (va_Nw.use rfl hE.2.1.2.2.1) (fun _ h9 => h9) rfl dX6_score_21 ?_
    refine lv_iload_n hx hb dX6_score_24 rfl (lv_at hl 1 rfl) ?_
    obtain ⟨r5, h6, hf⟩ := tk_b1s hf
    refine tk_ci (ws' := (tk_H c3 q S)) (va_runV (As := [.int p0]) (rest := []) ⟨hx, hb, hml, hown, hts⟩ (c_X2_at_p9 l G c3 q S p0 r5 h6 H.size) (cwV 1 hts gX6_score_X2_at rfl rfl rfl hv_X2_at ⟨Nat.le_of_ble_eq_true rfl, Nat.le_of_ble_eq_true rfl⟩) (tk_pV hE hP hD 9 rfl rfl) rfl rfl hl.1 rfl (lv_room (Nat.le_of_ble_eq_true rfl)) dX6_score_25 ⟨Nat.zero_le _, Nat.zero_le _⟩) hD hS hA (fun H locs hP hD hS => ?_)
    exact tk_ri hQ (tk_s2 hf).2 rfl hx hb hr hlocks hP hD hS dX6_score_28
  · have hf := tk_pos hf h4
    exact absurd (tk_s2 hf).1 (by decide)
abbrev rm0_X6_radli : Room := { frames := 1, cells := 0, slots := 0, locals := 21 }
set_option maxHeartbeats 4000000 in
set_option maxRecDepth 100000 in
theorem c0_X6_radli (l : Launch) (G : va_G) (c3 : ClassId × ClassId × ClassId) (q : Nat → Nat) (S : tk_ST) (p0 : Int32) (r0 : Int32) (hf : f0_X6_radli p0 S = some r0) : tk_Mi l yX6_radli wsX6_radli rm0_X6_radli G c3 [.ref (q 0), .int p0] (tk_H c3 q S) (tk_H c3 q S) r0 := by
  have hf := tk_r0 hf
  refine tk_ofi (cc := cX6_radli) (maxL := 2) (ret := some .int) (by decide) rfl (Nat.le_of_ble_eq_true rfl) ?_
  intro p e s m below meth c A Q ls H locs hx hb hml hr hts hown hlocks hE hA hP hD hS hZ hQ hl
  have hl : lv_has ls 2 [(0, .ref (q 0)), (1, .int p0)] := hl
  have hown : s.vm.findClass RX6 = some m.cls := hown
  unfold f_X6_radli at hf
  refine lv_iload_n hx hb dX6_radli_0 rfl (lv_at hl 1 rfl) ?_
  obtain ⟨r1, h2, hf⟩ := tk_b1s hf
  refine tk_ci (ws' := (tk_H c3 q S)) (va_runS (As := [.int p0]) (rest := []) ⟨hx, hb, hml, hown, hts⟩ (c_X6_isPlayer l G c3 (tk_H c3 q S) p0 r1 h2 H.size) (va_cwS 1 hts gX6_radli_X6_isPlayer rfl rfl rfl hs_X6_isPlayer ⟨Nat.le_of_ble_eq_true rfl, Nat.le_of_ble_eq_true rfl⟩) (tk_pS hE hP hD) rfl rfl hl.1 rfl (lv_room (Nat.le_of_ble_eq_true rfl)) dX6_radli_1 ⟨Nat.zero_le _, Nat.zero_le _⟩) hD hS hA (fun H locs hP hD hS => ?_)
  refine lv_if_ne (tgt := 17) hx hb dX6_radli_4 (by decide) (fun h4 => ?_) (fun h4 => ?_)
  · have hf := tk_neg hf h4
    refine lv_aload_n hx hb dX6_radli_17 rfl (lv_at hl 0 rfl) ?_
    refine va_get (D := G) (ci := 6) (v := .ref (q 8)) (C := RX6) (T := TX6) (N := 18) hx hb hts i_X6_radli_X6 hown hE.1 hP 0 rfl rfl 3 (by decide) (hts _ m_X6_radli_f33) (fun _ h9 => h9) rfl dX6_radli_18 ?_
    refine va_getN (D := G) (ci := 4) (v := .ref (q 11)) (C := RX4) (T := TX4) (N := 3) hx hb hts i_X6_radli_X4 hown hE.1 hP 8 rfl rfl 1 (by decide) (va_Nw.use rfl hE.2.1.2.2.2.1) (fun _ h9 => h9) rfl dX6_radli_21 ?_
    refine lv_iload_n hx hb dX6_radli_24 rfl (lv_at hl 1 rfl) ?_
    obtain ⟨r5, h6, hf⟩ := tk_b1s hf
    refine tk_ci (ws' := (tk_H c3 q S)) (va_runV (As := [.int p0]) (rest := []) ⟨hx, hb, hml, hown, hts⟩ (c_X2_at_p11 l G c3 q S p0 r5 h6 H.size) (cwV 1 hts gX6_radli_X2_at rfl rfl rfl hv_X2_at ⟨Nat.le_of_ble_eq_true rfl, Nat.le_of_ble_eq_true rfl⟩) (tk_pV hE hP hD 11 rfl rfl) rfl rfl hl.1 rfl (lv_room (Nat.le_of_ble_eq_true rfl)) dX6_radli_25 ⟨Nat.zero_le _, Nat.zero_le _⟩) hD hS hA (fun H locs hP hD hS => ?_)
    exact tk_ri hQ (tk_s2 hf).2 rfl hx hb hr hlocks hP hD hS dX6_radli_28
  · have hf := tk_pos hf h4
    exact absurd (tk_s2 hf).1 (by decide)
abbrev rm0_X6_deal : Room := { frames := 3, cells := 0, slots := 0, locals := 68 }
set_option maxHeartbeats 4000000 in
set_option maxRecDepth 100000 in
theorem c0_X6_deal (l : Launch) (G : va_G) (c3 : ClassId × ClassId × ClassId) (q : Nat → Nat) (S : tk_ST) (p0 : Int32) (r0 : Int32) (S0 : tk_ST) (hf : f0_X6_deal p0 S = some (r0, S0)) : tk_Mi l yX6_deal wsX6_deal rm0_X6_deal G c3 [.ref (q 0), .int p0] (tk_H c3 q S) (tk_H c3 q S0) r0 := by
  have hf := tk_w0 hf
  refine tk_ofi (cc := cX6_deal) (maxL := 2) (ret := some .int) (by decide) rfl (Nat.le_of_ble_eq_true rfl) ?_
  intro p e s m below meth c A Q ls H locs hx hb hml hr hts hown hlocks hE hA hP hD hS hZ hQ hl
  have hl : lv_has ls 2 [(0, .ref (q 0)), (1, .int p0)] := hl
  have hown : s.vm.findClass RX6 = some m.cls := hown
  have J_10 : ∀ (S_10 : tk_ST) (H : Heap) (locs : List Loc) (_ : va_P G vwCl (tk_H c3 q S_10) H) (_ : va_D A (tk_H c3 q S_10)) (_ : va_S A s.heap H locs) (ls : Array Slot) (_ : lv_has ls 2 []) (_ : f_X6_deal_10 S_10 = some ((0 : Int32), r0, S0)), W p l e rm0_X6_deal s m ([.ref (q 0), .int p0] : List Value).toArray below meth c H locs 0 0 Q (F0 m 10 ls []) := by
    intro S_10 H locs hP hD hS ls hl hf
    unfold f_X6_deal_10 at hf
    exact absurd (tk_s3 hf).1 (by decide)
  unfold f_X6_deal at hf
  refine lv_iload_n hx hb dX6_deal_0 rfl (lv_at hl 1 rfl) ?_
  refine lv_if_lt (tgt := 10) hx hb dX6_deal_1 (by decide) (fun h1 => ?_) (fun h1 => ?_)
  · have hf := tk_pos hf h1
    exact J_10 S H locs hP hD hS ls (lv_sub hl [] rfl) hf
  · have hf := tk_neg hf h1
    refine lv_iload_n hx hb dX6_deal_4 rfl (lv_at hl 1 rfl) ?_
    refine lv_ldc (v := 65536) hx hb hown (hts _ m_X6_deal_k71) dX6_deal_5 ?_
    refine lv_icmp_lt (tgt := 20) hx hb dX6_deal_7 (by decide) (fun h2 => ?_) (fun h2 => ?_)
    · have hf := tk_pos hf h2
      refine lv_aload_n hx hb dX6_deal_20 rfl (lv_at hl 0 rfl) ?_
      refine va_get (D := G) (ci := 6) (v := .int (S.1 1)) (C := RX6) (T := TX6) (N := 18) hx hb hts i_X6_deal_X6 hown hE.1 hP 0 rfl rfl 7 (by decide) (hts _ m_X6_deal_f53) (fun _ h9 => h9) rfl dX6_deal_21 ?_
      refine lv_if_eq (tgt := 37) hx hb dX6_deal_24 (by decide) (fun h3 => ?_) (fun h3 => ?_)
      · have hf := tk_pos hf h3
        refine lv_aload_n hx hb dX6_deal_37 rfl (lv_at hl 0 rfl) ?_
        refine lv_aload_n hx hb dX6_deal_38 rfl (lv_at hl 0 rfl) ?_
        refine va_get (D := G) (ci := 6) (v := .int (S.1 0)) (C := RX6) (T := TX6) (N := 18) hx hb hts i_X6_deal_X6 hown hE.1 hP 0 rfl rfl 6 (by decide) (hts _ m_X6_deal_f49) (fun _ h9 => h9) rfl dX6_deal_39 ?_
        obtain ⟨r4, h5, hf⟩ := tk_b1s hf
        refine tk_ci (ws' := (tk_H c3 q S)) (va_runS (As := [.int (S.1 0)]) (rest := [.ref (q 0)]) ⟨hx, hb, hml, hown, hts⟩ (c_X6_behind l G c3 (tk_H c3 q S) (S.1 0) r4 h5 H.size) (va_cwS 1 hts gX6_deal_X6_behind rfl rfl rfl hs_X6_behind ⟨Nat.le_of_ble_eq_true rfl, Nat.le_of_ble_eq_true rfl⟩) (tk_pS hE hP hD) rfl rfl hl.1 rfl (lv_room (Nat.le_of_ble_eq_true rfl)) dX6_deal_42 ⟨Nat.zero_le _, Nat.zero_le _⟩) hD hS hA (fun H locs hP hD hS => ?_)
        refine va_put (D := G) (ci := 6) (v := .int r4) (ty := .int) (C := RX6) (T := TX6) (N := 18) hx hb hts i_X6_deal_X6 tyX6 tyX6_ok nmX6 hown hE.1 hP hD hS 0 rfl rfl 6 (by decide) (hts _ m_X6_deal_f49) (fun _ h9 => h9) rfl (by decide +kernel) rfl rfl (Nat.le_of_ble_eq_true rfl) dX6_deal_45 (fun H locs hP hD hS => ?_)
        have hP : va_P G vwCl (tk_H c3 q (tk_I S 0 r4)) H := hP
        have hD : va_D A (tk_H c3 q (tk_I S 0 r4)) := hD
        refine lv_aload_n hx hb dX6_deal_48 rfl (lv_at hl 0 rfl) ?_
        obtain ⟨S9, h8, hf⟩ := tk_b1s hf
        refine tk_cv (ws' := (tk_H c3 q S9)) (va_runV (As := []) (rest := []) ⟨hx, hb, hml, hown, hts⟩ (c_X6_clearDeal l G c3 q (tk_I S 0 r4) S9 h8 H.size) (cwV 0 hts gX6_deal_X6_clearDeal rfl rfl rfl hv_X6_clearDeal ⟨Nat.le_of_ble_eq_true rfl, Nat.le_of_ble_eq_true rfl⟩) (tk_pV hE hP hD 0 rfl rfl) rfl rfl hl.1 rfl (lv_room (Nat.le_of_ble_eq_true rfl)) dX6_deal_49 ⟨Nat.zero_le _, Nat.zero_le _⟩) hD hS hA (fun H locs hP hD hS => ?_)
        refine lv_aload_n hx hb dX6_deal_52 rfl (lv_at hl 0 rfl) ?_
        refine va_get (D := G) (ci := 6) (v := .ref (q 1)) (C := RX6) (T := TX6) (N := 18) hx hb hts i_X6_deal_X6 hown hE.1 hP 0 rfl rfl 0 (by decide) (hts _ m_X6_deal_f12) (fun _ h9 => h9) rfl dX6_deal_53 ?_
        refine lv_iload_n hx hb dX6_deal_56 rfl (lv_at hl 1 rfl) ?_
        obtain ⟨S12, h11, hf⟩ := tk_b1s hf
        refine tk_cv (ws' := (tk_H c3 q S12)) (va_runV (As := [.int p0]) (rest := []) ⟨hx, hb, hml, hown, hts⟩ (c_X1_shuffle l G c3 q S9 p0 S12 h11 H.size) (cwV 1 hts gX6_deal_X1_shuffle rfl rfl rfl hv_X1_shuffle ⟨Nat.le_of_ble_eq_true rfl, Nat.le_of_ble_eq_true rfl⟩) (tk_pV hE hP hD 1 rfl rfl) rfl rfl hl.1 rfl (lv_room (Nat.le_of_ble_eq_true rfl)) dX6_deal_57 ⟨Nat.zero_le _, Nat.zero_le _⟩) hD hS hA (fun H locs hP hD hS => ?_)
        refine lv_aload_n hx hb dX6_deal_60 rfl (lv_at hl 0 rfl) ?_
        obtain ⟨S15, h14, hf⟩ := tk_b1s hf
        refine tk_cv (ws' := (tk_H c3 q S15)) (va_runV (As := []) (rest := []) ⟨hx, hb, hml, hown, hts⟩ (c_X6_handOut l G c3 q S12 S15 h14 H.size) (cwV 0 hts gX6_deal_X6_handOut rfl rfl rfl hv_X6_handOut ⟨Nat.le_of_ble_eq_true rfl, Nat.le_of_ble_eq_true rfl⟩) (tk_pV hE hP hD 0 rfl rfl) rfl rfl hl.1 rfl (lv_room (Nat.le_of_ble_eq_true rfl)) dX6_deal_61 ⟨Nat.zero_le _, Nat.zero_le _⟩) hD hS hA (fun H locs hP hD hS => ?_)
        refine lv_aload_n hx hb dX6_deal_64 rfl (lv_at hl 0 rfl) ?_
        refine lv_iconst (v := 1) hx hb dX6_deal_65 (by decide) ?_
        refine va_put (D := G) (ci := 6) (v := .int (1 : Int32)) (ty := .int) (C := RX6) (T := TX6) (N := 18) hx hb hts i_X6_deal_X6 tyX6 tyX6_ok nmX6 hown hE.1 hP hD hS 0 rfl rfl 7 (by decide) (hts _ m_X6_deal_f53) (fun _ h9 => h9) rfl (by decide +kernel) rfl rfl (Nat.le_of_ble_eq_true rfl) dX6_deal_66 (fun H locs hP hD hS => ?_)
        have hP : va_P G vwCl (tk_H c3 q (tk_I S15 1 (1 : Int32))) H := hP
        have hD : va_D A (tk_H c3 q (tk_I S15 1 (1 : Int32))) := hD
        refine lv_aload_n hx hb dX6_deal_69 rfl (lv_at hl 0 rfl) ?_
        refine lv_aload_n hx hb dX6_deal_70 rfl (lv_at hl 0 rfl) ?_
        refine va_get (D := G) (ci := 6) (v := .int (S15.1 0)) (C := RX6) (T := TX6) (N := 18) hx hb hts i_X6_deal_X6 hown hE.1 hP 0 rfl rfl 6 (by decide) (hts _ m_X6_deal_f49) (fun _ h9 => h9) rfl dX6_deal_71 ?_
        refine va_put (D := G) (ci := 6) (v := .int (S15.1 0)) (ty := .int) (C := RX6) (T := TX6) (N := 18) hx hb hts i_X6_deal_X6 tyX6 tyX6_ok nmX6 hown hE.1 hP hD hS 0 rfl rfl 8 (by decide) (hts _ m_X6_deal_f56) (fun _ h9 => h9) rfl (by decide +kernel) rfl rfl (Nat.le_of_ble_eq_true rfl) dX6_deal_74 (fun H locs hP hD hS => ?_)
        have hP : va_P G vwCl (tk_H c3 q (tk_I (tk_I S15 1 (1 : Int32)) 2 (S15.1 0))) H := hP
        have hD : va_D A (tk_H c3 q (tk_I (tk_I S15 1 (1 : Int32)) 2 (S15.1 0))) := hD
        refine lv_aload_n hx hb dX6_deal_77 rfl (lv_at hl 0 rfl) ?_
        refine va_get (D := G) (ci := 6) (v := .int (S15.1 0)) (C := RX6) (T := TX6) (N := 18) hx hb hts i_X6_deal_X6 hown hE.1 hP 0 rfl rfl 6 (by decide) (hts _ m_X6_deal_f49) (fun _ h9 => h9) rfl dX6_deal_78 ?_
        exact tk_ri hQ (tk_s3 hf).2.1 (congrArg (tk_H c3 q) (tk_s3 hf).2.2) hx hb hr hlocks hP hD hS dX6_deal_81
      · have hf := tk_neg hf h3
        exact absurd (tk_s3 hf).1 (by decide)
    · have hf := tk_neg hf h2
      exact J_10 S H locs hP hD hS ls (lv_sub hl [] rfl) hf
abbrev rm0_X6_talonAt : Room := { frames := 2, cells := 0, slots := 0, locals := 42 }
set_option maxHeartbeats 4000000 in
set_option maxRecDepth 100000 in
theorem c0_X6_talonAt (l : Launch) (G : va_G) (c3 : ClassId × ClassId × ClassId) (q : Nat → Nat) (S : tk_ST) (p0 : Int32) (r0 : Int32) (hf : f0_X6_talonAt p0 S = some r0) : tk_Mi l yX6_talonAt wsX6_talonAt rm0_X6_talonAt G c3 [.ref (q 0), .int p0] (tk_H c3 q S) (tk_H c3 q S) r0 := by
  have hf := tk_r0 hf
  refine tk_ofi (cc := cX6_talonAt) (maxL := 2) (ret := some .int) (by decide) rfl (Nat.le_of_ble_eq_true rfl) ?_
  intro p e s m below meth c A Q ls H locs hx hb hml hr hts hown hlocks hE hA hP hD hS hZ hQ hl
  have hl : lv_has ls 2 [(0, .ref (q 0)), (1, .int p0)] := hl
  have hown : s.vm.findClass RX6 = some m.cls := hown
  have J_10 : ∀ (H : Heap) (locs : List Loc) (_ : va_P G vwCl (tk_H c3 q S) H) (_ : va_D A (tk_H c3 q S)) (_ : va_S A s.heap H locs) (ls : Array Slot) (_ : lv_has ls 2 []) (_ : f_X6_talonAt_10 S = some ((0 : Int32), r0)), W p l e rm0_X6_talonAt s m ([.ref (q 0), .int p0] : List Value).toArray below meth c H locs 0 0 Q (F0 m 10 ls []) := by
    intro  H locs hP hD hS ls hl hf
    unfold f_X6_talonAt_10 at hf
    exact absurd (tk_s2 hf).1 (by decide)
  unfold f_X6_talonAt at hf
  refine lv_iload_n hx hb dX6_talonAt_0 rfl (lv_at hl 1 rfl) ?_
  refine lv_if_lt (tgt := 10) hx hb dX6_talonAt_1 (by decide) (fun h1 => ?_) (fun h1 => ?_)
  · have hf := tk_pos hf h1
    exact J_10 H locs hP hD hS ls (lv_sub hl [] rfl) hf
  · have hf := tk_neg hf h1
    refine lv_iload_n hx hb dX6_talonAt_4 rfl (lv_at hl 1 rfl) ?_
    refine lv_bipush (v := 6) hx hb dX6_talonAt_5 (by decide) ?_
    refine lv_icmp_lt (tgt := 20) hx hb dX6_talonAt_7 (by decide) (fun h2 => ?_) (fun h2 => ?_)
    · have hf := tk_pos hf h2
      refine lv_aload_n hx hb dX6_talonAt_20 rfl (lv_at hl 0 rfl) ?_
      refine va_get (D := G) (ci := 6) (v := .int (S.1 0)) (C := RX6) (T := TX6) (N := 18) hx hb hts i_X6_talonAt_X6 hown hE.1 hP 0 rfl rfl 6 (by decide) (hts _ m_X6_talonAt_f49) (fun _ h9 => h9) rfl dX6_talonAt_21 ?_
      refine lv_iconst (v := -1) hx hb dX6_talonAt_24 (by decide) ?_
      refine lv_icmp_ne (tgt := 38) hx hb dX6_talonAt_25 (by decide) (fun h3 => ?_) (fun h3 => ?_)
      · have hf := tk_neg hf h3
        refine lv_aload_n hx hb dX6_talonAt_38 rfl (lv_at hl 0 rfl) ?_
        refine va_get (D := G) (ci := 6) (v := .ref (q 1)) (C := RX6) (T := TX6) (N := 18) hx hb hts i_X6_talonAt_X6 hown hE.1 hP 0 rfl rfl 0 (by decide) (hts _ m_X6_talonAt_f12) (fun _ h9 => h9) rfl dX6_talonAt_39 ?_
        refine lv_bipush (v := 48) hx hb dX6_talonAt_42 (by decide) ?_
        refine lv_iload_n hx hb dX6_talonAt_44 rfl (lv_at hl 1 rfl) ?_
        refine lv_iadd hx hb dX6_talonAt_45 ?_
        obtain ⟨r4, h5, hf⟩ := tk_b1s hf
        refine tk_ci (ws' := (tk_H c3 q S)) (va_runV (As := [.int ((48 : Int32) + p0)]) (rest := []) ⟨hx, hb, hml, hown, hts⟩ (c_X1_cardAt l G c3 q S ((48 : Int32) + p0) r4 h5 H.size) (cwV 1 hts gX6_talonAt_X1_cardAt rfl rfl rfl hv_X1_cardAt ⟨Nat.le_of_ble_eq_true rfl, Nat.le_of_ble_eq_true rfl⟩) (tk_pV hE hP hD 1 rfl rfl) rfl rfl hl.1 rfl (lv_room (Nat.le_of_ble_eq_true rfl)) dX6_talonAt_46 ⟨Nat.zero_le _, Nat.zero_le _⟩) hD hS hA (fun H locs hP hD hS => ?_)
        exact tk_ri hQ (tk_s2 hf).2 rfl hx hb hr hlocks hP hD hS dX6_talonAt_49
      · have hf := tk_pos hf h3
        exact absurd (tk_s2 hf).1 (by decide)
    · have hf := tk_neg hf h2
      exact J_10 H locs hP hD hS ls (lv_sub hl [] rfl) hf
abbrev rm0_X6_call : Room := { frames := 2, cells := 0, slots := 0, locals := 44 }
set_option maxHeartbeats 4000000 in
set_option maxRecDepth 100000 in
theorem c0_X6_call (l : Launch) (G : va_G) (c3 : ClassId × ClassId × ClassId) (q : Nat → Nat) (S : tk_ST) (p0 : Int32) (r0 : Int32) (S0 : tk_ST) (hf : f0_X6_call p0 S = some (r0, S0)) : tk_Mi l yX6_call wsX6_call rm0_X6_call G c3 [.ref (q 0), .int p0] (tk_H c3 q S) (tk_H c3 q S0) r0 := by
  have hf := tk_w0 hf
  refine tk_ofi (cc := cX6_call) (maxL := 2) (ret := some .int) (by decide) rfl (Nat.le_of_ble_eq_true rfl) ?_
  intro p e s m below meth c A Q ls H locs hx hb hml hr hts hown hlocks hE hA hP hD hS hZ hQ hl
  have hl : lv_has ls 2 [(0, .ref (q 0)), (1, .int p0)] := hl
  have hown : s.vm.findClass RX6 = some m.cls := hown
  have J_9 : ∀ (S_9 : tk_ST) (H : Heap) (locs : List Loc) (_ : va_P G vwCl (tk_H c3 q S_9) H) (_ : va_D A (tk_H c3 q S_9)) (_ : va_S A s.heap H locs) (ls : Array Slot) (_ : lv_has ls 2 []) (_ : f_X6_call_9 S_9 = some ((0 : Int32), r0, S0)), W p l e rm0_X6_call s m ([.ref (q 0), .int p0] : List Value).toArray below meth c H locs 0 0 Q (F0 m 9 ls []) := by
    intro S_9 H locs hP hD hS ls hl hf
    unfold f_X6_call_9 at hf
    exact absurd (tk_s3 hf).1 (by decide)
  have J_74 : ∀ (k1_74 : Int32) (S_74 : tk_ST) (H : Heap) (locs : List Loc) (_ : va_P G vwCl (tk_H c3 q S_74) H) (_ : va_D A (tk_H c3 q S_74)) (_ : va_S A s.heap H locs) (ls : Array Slot) (_ : lv_has ls 2 [(0, .ref (q 0))]) (_ : f_X6_call_74 k1_74 S_74 = some ((0 : Int32), r0, S0)), W p l e rm0_X6_call s m ([.ref (q 0), .int p0] : List Value).toArray below meth c H locs 0 0 Q (F0 m 74 ls [.int k1_74, .ref (q 0)]) := by
    intro k1_74 S_74 H locs hP hD hS ls hl hf
    unfold f_X6_call_74 at hf
    refine va_put (D := G) (ci := 6) (v := .int k1_74) (ty := .int) (C := RX6) (T := TX6) (N := 18) hx hb hts i_X6_call_X6 tyX6 tyX6_ok nmX6 hown hE.1 hP hD hS 0 rfl rfl 12 (by decide) (hts _ m_X6_call_f68) (fun _ h9 => h9) rfl (by decide +kernel) rfl rfl (Nat.le_of_ble_eq_true rfl) dX6_call_74 (fun H locs hP hD hS => ?_)
    have hP : va_P G vwCl (tk_H c3 q (tk_I S_74 6 k1_74)) H := hP
    have hD : va_D A (tk_H c3 q (tk_I S_74 6 k1_74)) := hD
    refine lv_aload_n hx hb dX6_call_77 rfl (lv_at hl 0 rfl) ?_
    refine lv_iconst (v := 3) hx hb dX6_call_78 (by decide) ?_
    refine va_put (D := G) (ci := 6) (v := .int (3 : Int32)) (ty := .int) (C := RX6) (T := TX6) (N := 18) hx hb hts i_X6_call_X6 tyX6 tyX6_ok nmX6 hown hE.1 hP hD hS 0 rfl rfl 7 (by decide) (hts _ m_X6_call_f53) (fun _ h9 => h9) rfl (by decide +kernel) rfl rfl (Nat.le_of_ble_eq_true rfl) dX6_call_79 (fun H locs hP hD hS => ?_)
    have hP : va_P G vwCl (tk_H c3 q (tk_I (tk_I S_74 6 k1_74) 1 (3 : Int32))) H := hP
    have hD : va_D A (tk_H c3 q (tk_I (tk_I S_74 6 k1_74) 1 (3 : Int32))) := hD
    refine lv_aload_n hx hb dX6_call_82 rfl (lv_at hl 0 rfl) ?_
    refine va_get (D := G) (ci := 6) (v := .int (3 : Int32)) (C := RX6) (T := TX6) (N := 18) hx hb hts i_X6_call_X6 hown hE.1 hP 0 rfl rfl 7 (by decide) (hts _ m_X6_call_f53) (fun _ h9 => h9) rfl dX6_call_83 ?_
    exact tk_ri hQ (tk_s3 hf).2.1 (congrArg (tk_H c3 q) (tk_s3 hf).2.2) hx hb hr hlocks hP hD hS dX6_call_86
  unfold f_X6_call at hf
  refine lv_iload_n hx hb dX6_call_0 rfl (lv_at hl 1 rfl) ?_
  refine lv_if_lt (tgt := 9) hx hb dX6_call_1 (by decide) (fun h1 => ?_) (fun h1 => ?_)
  · have hf := tk_pos hf h1
    exact J_9 S H locs hP hD hS ls (lv_sub hl [] rfl) hf
  · have hf := tk_neg hf h1
    refine lv_iload_n hx hb dX6_call_4 rfl (lv_at hl 1 rfl) ?_
    refine lv_iconst (v := 4) hx hb dX6_call_5 (by decide) ?_
    refine lv_icmp_lt (tgt := 19) hx hb dX6_call_6 (by decide) (fun h2 => ?_) (fun h2 => ?_)
    · have hf := tk_pos hf h2
      refine lv_aload_n hx hb dX6_call_19 rfl (lv_at hl 0 rfl) ?_
      refine va_get (D := G) (ci := 6) (v := .int (S.1 1)) (C := RX6) (T := TX6) (N := 18) hx hb hts i_X6_call_X6 hown hE.1 hP 0 rfl rfl 7 (by decide) (hts _ m_X6_call_f53) (fun _ h9 => h9) rfl dX6_call_20 ?_
      refine lv_iconst (v := 2) hx hb dX6_call_23 (by decide) ?_
      refine lv_icmp_eq (tgt := 37) hx hb dX6_call_24 (by decide) (fun h3 => ?_) (fun h3 => ?_)
      · have hf := tk_pos hf h3
        refine lv_aload_n hx hb dX6_call_37 rfl (lv_at hl 0 rfl) ?_
        refine lv_iload_n hx hb dX6_call_38 rfl (lv_at hl 1 rfl) ?_
        refine va_put (D := G) (ci := 6) (v := .int p0) (ty := .int) (C := RX6) (T := TX6) (N := 18) hx hb hts i_X6_call_X6 tyX6 tyX6_ok nmX6 hown hE.1 hP hD hS 0 rfl rfl 10 (by decide) (hts _ m_X6_call_f62) (fun _ h9 => h9) rfl (by decide +kernel) rfl rfl (Nat.le_of_ble_eq_true rfl) dX6_call_39 (fun H locs hP hD hS => ?_)
        have hP : va_P G vwCl (tk_H c3 q (tk_I S 4 p0)) H := hP
        have hD : va_D A (tk_H c3 q (tk_I S 4 p0)) := hD
        refine lv_aload_n hx hb dX6_call_42 rfl (lv_at hl 0 rfl) ?_
        refine lv_aload_n hx hb dX6_call_43 rfl (lv_at hl 0 rfl) ?_
        refine lv_aload_n hx hb dX6_call_44 rfl (lv_at hl 0 rfl) ?_
        obtain ⟨r4, h5, hf⟩ := tk_b1s hf
        refine tk_ci (ws' := (tk_H c3 q (tk_I S 4 p0))) (va_runV (As := []) (rest := [.ref (q 0), .ref (q 0)]) ⟨hx, hb, hml, hown, hts⟩ (c_X6_calledKing l G c3 q (tk_I S 4 p0) r4 h5 H.size) (cwV 0 hts gX6_call_X6_calledKing rfl rfl rfl hv_X6_calledKing ⟨Nat.le_of_ble_eq_true rfl, Nat.le_of_ble_eq_true rfl⟩) (tk_pV hE hP hD 0 rfl rfl) rfl rfl hl.1 rfl (lv_room (Nat.le_of_ble_eq_true rfl)) dX6_call_45 ⟨Nat.zero_le _, Nat.zero_le _⟩) hD hS hA (fun H locs hP hD hS => ?_)
        obtain ⟨r7, h8, hf⟩ := tk_b1s hf
        refine tk_ci (ws' := (tk_H c3 q (tk_I S 4 p0))) (va_runV (As := [.int r4]) (rest := [.ref (q 0)]) ⟨hx, hb, hml, hown, hts⟩ (c_X6_ownerOf l G c3 q (tk_I S 4 p0) r4 r7 h8 H.size) (cwV 1 hts gX6_call_X6_ownerOf rfl rfl rfl hv_X6_ownerOf ⟨Nat.le_of_ble_eq_true rfl, Nat.le_of_ble_eq_true rfl⟩) (tk_pV hE hP hD 0 rfl rfl) rfl rfl hl.1 rfl (lv_room (Nat.le_of_ble_eq_true rfl)) dX6_call_48 ⟨Nat.zero_le _, Nat.zero_le _⟩) hD hS hA (fun H locs hP hD hS => ?_)
        refine va_put (D := G) (ci := 6) (v := .int r7) (ty := .int) (C := RX6) (T := TX6) (N := 18) hx hb hts i_X6_call_X6 tyX6 tyX6_ok nmX6 hown hE.1 hP hD hS 0 rfl rfl 11 (by decide) (hts _ m_X6_call_f65) (fun _ h9 => h9) rfl (by decide +kernel) rfl rfl (Nat.le_of_ble_eq_true rfl) dX6_call_51 (fun H locs hP hD hS => ?_)
        have hP : va_P G vwCl (tk_H c3 q (tk_I (tk_I S 4 p0) 5 r7)) H := hP
        have hD : va_D A (tk_H c3 q (tk_I (tk_I S 4 p0) 5 r7)) := hD
        refine lv_aload_n hx hb dX6_call_54 rfl (lv_at hl 0 rfl) ?_
        refine lv_aload_n hx hb dX6_call_55 rfl (lv_at hl 0 rfl) ?_
        refine va_get (D := G) (ci := 6) (v := .int r7) (C := RX6) (T := TX6) (N := 18) hx hb hts i_X6_call_X6 hown hE.1 hP 0 rfl rfl 11 (by decide) (hts _ m_X6_call_f65) (fun _ h9 => h9) rfl dX6_call_56 ?_
        refine lv_aload_n hx hb dX6_call_59 rfl (lv_at hl 0 rfl) ?_
        refine va_get (D := G) (ci := 6) (v := .int (S.1 3)) (C := RX6) (T := TX6) (N := 18) hx hb hts i_X6_call_X6 hown hE.1 hP 0 rfl rfl 9 (by decide) (hts _ m_X6_call_f59) (fun _ h9 => h9) rfl dX6_call_60 ?_
        refine lv_icmp_ne (tgt := 70) hx hb dX6_call_63 (by decide) (fun h10 => ?_) (fun h10 => ?_)
        · have hf := tk_neg hf h10
          refine lv_aload_n hx hb dX6_call_70 rfl (lv_at hl 0 rfl) ?_
          refine va_get (D := G) (ci := 6) (v := .int r7) (C := RX6) (T := TX6) (N := 18) hx hb hts i_X6_call_X6 hown hE.1 hP 0 rfl rfl 11 (by decide) (hts _ m_X6_call_f65) (fun _ h9 => h9) rfl dX6_call_71 ?_
          exact J_74 r7 (tk_I (tk_I S 4 p0) 5 r7) H locs hP hD hS ls (lv_sub hl [0] rfl) hf
        · have hf := tk_pos hf h10
          refine lv_iconst (v := -1) hx hb dX6_call_66 (by decide) ?_
          refine lv_goto (tgt := 74) hx hb dX6_call_67 (by decide) ?_
          exact J_74 (-1 : Int32) (tk_I (tk_I S 4 p0) 5 r7) H locs hP hD hS ls (lv_sub hl [0] rfl) hf
      · have hf := tk_neg hf h3
        exact absurd (tk_s3 hf).1 (by decide)
    · have hf := tk_neg hf h2
      exact J_9 S H locs hP hD hS ls (lv_sub hl [] rfl) hf
abbrev rm0_X6_take : Room := { frames := 2, cells := 0, slots := 0, locals := 46 }
set_option maxHeartbeats 4000000 in
set_option maxRecDepth 100000 in
theorem c0_X6_take (l : Launch) (G : va_G) (c3 : ClassId × ClassId × ClassId) (q : Nat → Nat) (S : tk_ST) (p0 : Int32) (r0 : Int32) (S0 : tk_ST) (hf : f0_X6_take p0 S = some (r0, S0)) : tk_Mi l yX6_take wsX6_take rm0_X6_take G c3 [.ref (q 0), .int p0] (tk_H c3 q S) (tk_H c3 q S0) r0 := by
  have hf := tk_w0 hf
  refine tk_ofi (cc := cX6_take) (maxL := 5) (ret := some .int) (by decide) rfl (Nat.le_of_ble_eq_true rfl) ?_
  intro p e s m below meth c A Q ls H locs hx hb hml hr hts hown hlocks hE hA hP hD hS hZ hQ hl
  have hl : lv_has ls 5 [(0, .ref (q 0)), (1, .int p0)] := hl
  have hown : s.vm.findClass RX6 = some m.cls := hown
  have J_12 : ∀ (S_12 : tk_ST) (H : Heap) (locs : List Loc) (_ : va_P G vwCl (tk_H c3 q S_12) H) (_ : va_D A (tk_H c3 q S_12)) (_ : va_S A s.heap H locs) (ls : Array Slot) (_ : lv_has ls 5 []) (_ : f_X6_take_12 S_12 = some ((0 : Int32), r0, S0)), W p l e rm0_X6_take s m ([.ref (q 0), .int p0] : List Value).toArray below meth c H locs 0 0 Q (F0 m 12 ls []) := by
    intro S_12 H locs hP hD hS ls hl hf
    unfold f_X6_take_12 at hf
    exact absurd (tk_s3 hf).1 (by decide)
  unfold f_X6_take at hf
  refine lv_iload_n hx hb dX6_take_0 rfl (lv_at hl 1 rfl) ?_
  refine lv_if_lt (tgt := 12) hx hb dX6_take_1 (by decide) (fun h1 => ?_) (fun h1 => ?_)
  · have hf := tk_pos hf h1
    exact J_12 S H locs hP hD hS ls (lv_sub hl [] rfl) hf
  · have hf := tk_neg hf h1
    refine lv_iload_n hx hb dX6_take_4 rfl (lv_at hl 1 rfl) ?_
    refine lv_aload_n hx hb dX6_take_5 rfl (lv_at hl 0 rfl) ?_
    obtain ⟨r2, h3, hf⟩ := tk_b1s hf
    refine tk_ci (ws' := (tk_H c3 q S)) (va_runV (As := []) (rest := [.int p0]) ⟨hx, hb, hml, hown, hts⟩ (c_X6_groupsNow l G c3 q S r2 h3 H.size) (cwV 0 hts gX6_take_X6_groupsNow rfl rfl rfl hv_X6_groupsNow ⟨Nat.le_of_ble_eq_true rfl, Nat.le_of_ble_eq_true rfl⟩) (tk_pV hE hP hD 0 rfl rfl) rfl rfl hl.1 rfl (lv_room (Nat.le_of_ble_eq_true rfl)) dX6_take_6 ⟨Nat.zero_le _, Nat.zero_le _⟩) hD hS hA (fun H locs hP hD hS => ?_)
    refine lv_icmp_lt (tgt := 22) hx hb dX6_take_9 (by decide) (fun h5 => ?_) (fun h5 => ?_)
    · have hf := tk_pos hf h5
      refine lv_aload_n hx hb dX6_take_22 rfl (lv_at hl 0 rfl) ?_
      refine va_get (D := G) (ci := 6) (v := .int (S.1 1)) (C := RX6) (T := TX6) (N := 18) hx hb hts i_X6_take_X6 hown hE.1 hP 0 rfl rfl 7 (by decide) (hts _ m_X6_take_f53) (fun _ h9 => h9) rfl dX6_take_23 ?_
      refine lv_iconst (v := 3) hx hb dX6_take_26 (by decide) ?_
      refine lv_icmp_eq (tgt := 40) hx hb dX6_take_27 (by decide) (fun h6 => ?_) (fun h6 => ?_)
      · have hf := tk_pos hf h6
        refine lv_aload_n hx hb dX6_take_40 rfl (lv_at hl 0 rfl) ?_
        refine va_get (D := G) (ci := 6) (v := .ref (q 4)) (C := RX6) (T := TX6) (N := 18) hx hb hts i_X6_take_X6 hown hE.1 hP 0 rfl rfl 1 (by decide) (hts _ m_X6_take_f19) (fun _ h9 => h9) rfl dX6_take_41 ?_
        refine va_getN (D := G) (ci := 0) (v := .int (S.1 11)) (C := RX0) (T := TX0) (N := 3) hx hb hts i_X6_take_X0 hown hE.1 hP 4 rfl rfl 1 (by decide) (va_Nw.use rfl hE.2.1.1) (fun _ h9 => h9) rfl dX6_take_44 ?_
        obtain ⟨r7, h8, hf⟩ := tk_b1s hf
        refine tk_ci (ws' := (tk_H c3 q S)) (va_runS (As := [.int (S.1 11)]) (rest := []) ⟨hx, hb, hml, hown, hts⟩ (c_X6_groupSize l G c3 (tk_H c3 q S) (S.1 11) r7 h8 H.size) (va_cwS 1 hts gX6_take_X6_groupSize rfl rfl rfl hs_X6_groupSize ⟨Nat.le_of_ble_eq_true rfl, Nat.le_of_ble_eq_true rfl⟩) (tk_pS hE hP hD) rfl rfl hl.1 rfl (lv_room (Nat.le_of_ble_eq_true rfl)) dX6_take_47 ⟨Nat.zero_le _, Nat.zero_le _⟩) hD hS hA (fun H locs hP hD hS => ?_)
        refine lv_istore_n (lv' := [(2, .int r7), (0, .ref (q 0)), (1, .int p0)]) hx hb dX6_take_50 rfl hl (by decide) rfl (fun ls hl => ?_)
        refine lv_aload_n hx hb dX6_take_51 rfl (lv_at hl 1 rfl) ?_
        refine va_get (D := G) (ci := 6) (v := .ref (q 1)) (C := RX6) (T := TX6) (N := 18) hx hb hts i_X6_take_X6 hown hE.1 hP 0 rfl rfl 0 (by decide) (hts _ m_X6_take_f12) (fun _ h9 => h9) rfl dX6_take_52 ?_
        refine lv_bipush (v := 48) hx hb dX6_take_55 (by decide) ?_
        refine lv_iload_n hx hb dX6_take_57 rfl (lv_at hl 2 rfl) ?_
        refine lv_iload_n hx hb dX6_take_58 rfl (lv_at hl 0 rfl) ?_
        refine lv_imul hx hb dX6_take_59 ?_
        refine lv_iadd hx hb dX6_take_60 ?_
        refine lv_iload_n hx hb dX6_take_61 rfl (lv_at hl 0 rfl) ?_
        obtain ⟨r10, h11, hf⟩ := tk_b1s hf
        refine tk_cl (ws' := (tk_H c3 q S)) (va_runV (As := [.int ((48 : Int32) + (p0 * r7)), .int r7]) (rest := []) ⟨hx, hb, hml, hown, hts⟩ (c_X1_cardsFrom l G c3 q S ((48 : Int32) + (p0 * r7)) r7 r10 h11 H.size) (cwV 2 hts gX6_take_X1_cardsFrom rfl rfl rfl hv_X1_cardsFrom ⟨Nat.le_of_ble_eq_true rfl, Nat.le_of_ble_eq_true rfl⟩) (tk_pV hE hP hD 1 rfl rfl) rfl rfl hl.1 rfl (lv_room (Nat.le_of_ble_eq_true rfl)) dX6_take_62 ⟨Nat.zero_le _, Nat.zero_le _⟩) hD hS hA (fun H locs hP hD hS => ?_)
        refine lv_lstore_n (lv' := [(3, .long r10), (2, .int r7), (0, .ref (q 0)), (1, .int p0)]) hx hb dX6_take_65 rfl hl (by decide) rfl (fun ls hl => ?_)
        refine lv_aload_n hx hb dX6_take_66 rfl (lv_at hl 2 rfl) ?_
        refine va_get (D := G) (ci := 6) (v := .ref (q 13)) (C := RX6) (T := TX6) (N := 18) hx hb hts i_X6_take_X6 hown hE.1 hP 0 rfl rfl 4 (by decide) (hts _ m_X6_take_f42) (fun _ h9 => h9) rfl dX6_take_67 ?_
        refine lv_aload_n hx hb dX6_take_70 rfl (lv_at hl 2 rfl) ?_
        refine va_get (D := G) (ci := 6) (v := .int (S.1 3)) (C := RX6) (T := TX6) (N := 18) hx hb hts i_X6_take_X6 hown hE.1 hP 0 rfl rfl 9 (by decide) (hts _ m_X6_take_f59) (fun _ h9 => h9) rfl dX6_take_71 ?_
        refine lv_aload_n hx hb dX6_take_74 rfl (lv_at hl 2 rfl) ?_
        refine va_get (D := G) (ci := 6) (v := .ref (q 13)) (C := RX6) (T := TX6) (N := 18) hx hb hts i_X6_take_X6 hown hE.1 hP 0 rfl rfl 4 (by decide) (hts _ m_X6_take_f42) (fun _ h9 => h9) rfl dX6_take_75 ?_
        refine lv_aload_n hx hb dX6_take_78 rfl (lv_at hl 2 rfl) ?_
        refine va_get (D := G) (ci := 6) (v := .int (S.1 3)) (C := RX6) (T := TX6) (N := 18) hx hb hts i_X6_take_X6 hown hE.1 hP 0 rfl rfl 9 (by decide) (hts _ m_X6_take_f59) (fun _ h9 => h9) rfl dX6_take_79 ?_
        obtain ⟨r13, h14, hf⟩ := tk_b1s hf
        refine tk_cl (ws' := (tk_H c3 q S)) (va_runV (As := [.int (S.1 3)]) (rest := [.int (S.1 3), .ref (q 13)]) ⟨hx, hb, hml, hown, hts⟩ (c_X3_at_p13 l G c3 q S (S.1 3) r13 h14 H.size) (cwV 1 hts gX6_take_X3_at rfl rfl rfl hv_X3_at ⟨Nat.le_of_ble_eq_true rfl, Nat.le_of_ble_eq_true rfl⟩) (tk_pV hE hP hD 13 rfl rfl) rfl rfl hl.1 rfl (lv_room (Nat.le_of_ble_eq_true rfl)) dX6_take_82 ⟨Nat.zero_le _, Nat.zero_le _⟩) hD hS hA (fun H locs hP hD hS => ?_)
        refine lv_lload_n hx hb dX6_take_85 rfl (lv_at hl 0 rfl) ?_
        refine lv_lor hx hb dX6_take_86 ?_
        obtain ⟨S18, h17, hf⟩ := tk_b1s hf
        refine tk_cv (ws' := (tk_H c3 q S18)) (va_runV (As := [.int (S.1 3), .long (r13 ||| r10)]) (rest := []) ⟨hx, hb, hml, hown, hts⟩ (c_X3_put_p13 l G c3 q S (S.1 3) (r13 ||| r10) S18 h17 H.size) (cwV 2 hts gX6_take_X3_put rfl rfl rfl hv_X3_put ⟨Nat.le_of_ble_eq_true rfl, Nat.le_of_ble_eq_true rfl⟩) (tk_pV hE hP hD 13 rfl rfl) rfl rfl hl.1 rfl (lv_room (Nat.le_of_ble_eq_true rfl)) dX6_take_87 ⟨Nat.zero_le _, Nat.zero_le _⟩) hD hS hA (fun H locs hP hD hS => ?_)
        refine lv_aload_n hx hb dX6_take_90 rfl (lv_at hl 2 rfl) ?_
        refine lv_dup hx hb dX6_take_91 rfl ?_
        refine va_get (D := G) (ci := 6) (v := .long (S18.2.1 1)) (C := RX6) (T := TX6) (N := 18) hx hb hts i_X6_take_X6 hown hE.1 hP 0 rfl rfl 15 (by decide) (hts _ m_X6_take_f162) (fun _ h9 => h9) rfl dX6_take_92 ?_
        refine lv_lload_n hx hb dX6_take_95 rfl (lv_at hl 0 rfl) ?_
        refine lv_ldc2 (v := -1) hx hb hown (hts _ m_X6_take_k166) dX6_take_96 ?_
        refine lv_lxor hx hb dX6_take_99 ?_
        refine lv_land hx hb dX6_take_100 ?_
        refine va_put (D := G) (ci := 6) (v := .long ((S18.2.1 1) &&& (r10 ^^^ (-1 : Int64)))) (ty := .long) (C := RX6) (T := TX6) (N := 18) hx hb hts i_X6_take_X6 tyX6 tyX6_ok nmX6 hown hE.1 hP hD hS 0 rfl rfl 15 (by decide) (hts _ m_X6_take_f162) (fun _ h9 => h9) rfl (by decide +kernel) rfl rfl (Nat.le_of_ble_eq_true rfl) dX6_take_101 (fun H locs hP hD hS => ?_)
        have hP : va_P G vwCl (tk_H c3 q (tk_L S18 1 ((S18.2.1 1) &&& (r10 ^^^ (-1 : Int64))))) H := hP
        have hD : va_D A (tk_H c3 q (tk_L S18 1 ((S18.2.1 1) &&& (r10 ^^^ (-1 : Int64))))) := hD
        refine lv_aload_n hx hb dX6_take_104 rfl (lv_at hl 2 rfl) ?_
        refine lv_iload_n hx hb dX6_take_105 rfl (lv_at hl 1 rfl) ?_
        refine va_put (D := G) (ci := 6) (v := .int r7) (ty := .int) (C := RX6) (T := TX6) (N := 18) hx hb hts i_X6_take_X6 tyX6 tyX6_ok nmX6 hown hE.1 hP hD hS 0 rfl rfl 13 (by decide) (hts _ m_X6_take_f168) (fun _ h9 => h9) rfl (by decide +kernel) rfl rfl (Nat.le_of_ble_eq_true rfl) dX6_take_106 (fun H locs hP hD hS => ?_)
        have hP : va_P G vwCl (tk_H c3 q (tk_I (tk_L S18 1 ((S18.2.1 1) &&& (r10 ^^^ (-1 : Int64)))) 7 r7)) H := hP
        have hD : va_D A (tk_H c3 q (tk_I (tk_L S18 1 ((S18.2.1 1) &&& (r10 ^^^ (-1 : Int64)))) 7 r7)) := hD
        refine lv_aload_n hx hb dX6_take_109 rfl (lv_at hl 2 rfl) ?_
        refine lv_iconst (v := 4) hx hb dX6_take_110 (by decide) ?_
        refine va_put (D := G) (ci := 6) (v := .int (4 : Int32)) (ty := .int) (C := RX6) (T := TX6) (N := 18) hx hb hts i_X6_take_X6 tyX6 tyX6_ok nmX6 hown hE.1 hP hD hS 0 rfl rfl 7 (by decide) (hts _ m_X6_take_f53) (fun _ h9 => h9) rfl (by decide +kernel) rfl rfl (Nat.le_of_ble_eq_true rfl) dX6_take_111 (fun H locs hP hD hS => ?_)
        have hP : va_P G vwCl (tk_H c3 q (tk_I (tk_I (tk_L S18 1 ((S18.2.1 1) &&& (r10 ^^^ (-1 : Int64)))) 7 r7) 1 (4 : Int32))) H := hP
        have hD : va_D A (tk_H c3 q (tk_I (tk_I (tk_L S18 1 ((S18.2.1 1) &&& (r10 ^^^ (-1 : Int64)))) 7 r7) 1 (4 : Int32))) := hD
        refine lv_iload_n hx hb dX6_take_114 rfl (lv_at hl 1 rfl) ?_
        exact tk_ri hQ (tk_s3 hf).2.1 (congrArg (tk_H c3 q) (tk_s3 hf).2.2) hx hb hr hlocks hP hD hS dX6_take_115
      · have hf := tk_neg hf h6
        exact absurd (tk_s3 hf).1 (by decide)
    · have hf := tk_neg hf h5
      exact J_12 S H locs hP hD hS ls (lv_sub hl [] rfl) hf
abbrev rm0_X6_playLowest : Room := { frames := 6, cells := 0, slots := 0, locals := 136 }
set_option maxHeartbeats 4000000 in
set_option maxRecDepth 100000 in
theorem c0_X6_playLowest (l : Launch) (G : va_G) (c3 : ClassId × ClassId × ClassId) (q : Nat → Nat) (S : tk_ST) (p0 : Int32) (r0 : Int32) (S0 : tk_ST) (hf : f0_X6_playLowest p0 S = some (r0, S0)) : tk_Mi l yX6_playLowest wsX6_playLowest rm0_X6_playLowest G c3 [.ref (q 0), .int p0] (tk_H c3 q S) (tk_H c3 q S0) r0 := by
  have hf := tk_w0 hf
  refine tk_ofi (cc := cX6_playLowest) (maxL := 4) (ret := some .int) (by decide) rfl (Nat.le_of_ble_eq_true rfl) ?_
  intro p e s m below meth c A Q ls H locs hx hb hml hr hts hown hlocks hE hA hP hD hS hZ hQ hl
  have hl : lv_has ls 4 [(0, .ref (q 0)), (1, .int p0)] := hl
  have hown : s.vm.findClass RX6 = some m.cls := hown
  have J_11 : ∀ (S_11 : tk_ST) (H : Heap) (locs : List Loc) (_ : va_P G vwCl (tk_H c3 q S_11) H) (_ : va_D A (tk_H c3 q S_11)) (_ : va_S A s.heap H locs) (ls : Array Slot) (_ : lv_has ls 4 []) (_ : f_X6_playLowest_11 S_11 = some ((0 : Int32), r0, S0)), W p l e rm0_X6_playLowest s m ([.ref (q 0), .int p0] : List Value).toArray below meth c H locs 0 0 Q (F0 m 11 ls []) := by
    intro S_11 H locs hP hD hS ls hl hf
    unfold f_X6_playLowest_11 at hf
    exact absurd (tk_s3 hf).1 (by decide)
  have J_43 : ∀ (n_43 : Nat), ∀ (x1_43 : Int32) (x2_43 : Int32) (x3_43 : Int32) (S_43 : tk_ST) (H : Heap) (locs : List Loc) (_ : va_P G vwCl (tk_H c3 q S_43) H) (_ : va_D A (tk_H c3 q S_43)) (_ : va_S A s.heap H locs) (ls : Array Slot) (_ : lv_has ls 4 [(0, .ref (q 0)), (1, .int x1_43), (2, .int x2_43), (3, .int x3_43)]) (_ : f_X6_playLowest_43 n_43 x1_43 x2_43 x3_43 S_43 = some ((0 : Int32), r0, S0)), W p l e rm0_X6_playLowest s m ([.ref (q 0), .int p0] : List Value).toArray below meth c H locs 0 0 Q (F0 m 43 ls []) := by
    intro n_43
    induction n_43 with
    | zero =>
      intro x1_43 x2_43 x3_43 S_43 H locs hP hD hS ls hl hf
      exact absurd hf (by intro h9; cases h9)
    | succ n_43 ih_43 =>
      intro x1_43 x2_43 x3_43 S_43 H locs hP hD hS ls hl hf
      rw [f_X6_playLowest_43_s] at hf
      refine lv_iload_n hx hb dX6_playLowest_43 rfl (lv_at hl 3 rfl) ?_
      refine lv_iload_n hx hb dX6_playLowest_44 rfl (lv_at hl 1 rfl) ?_
      refine lv_icmp_ge (tgt := 77) hx hb dX6_playLowest_45 (by decide) (fun h1 => ?_) (fun h1 => ?_)
      · have hf := tk_pos hf h1
        refine lv_iload_n hx hb dX6_playLowest_77 rfl (lv_at hl 2 rfl) ?_
        exact tk_ri hQ (tk_s3 hf).2.1 (congrArg (tk_H c3 q) (tk_s3 hf).2.2) hx hb hr hlocks hP hD hS dX6_playLowest_78
      · have hf := tk_neg hf h1
        refine lv_aload_n hx hb dX6_playLowest_48 rfl (lv_at hl 0 rfl) ?_
        refine va_get (D := G) (ci := 6) (v := .int (S_43.1 1)) (C := RX6) (T := TX6) (N := 18) hx hb hts i_X6_playLowest_X6 hown hE.1 hP 0 rfl rfl 7 (by decide) (hts _ m_X6_playLowest_f53) (fun _ h9 => h9) rfl dX6_playLowest_49 ?_
        refine lv_iconst (v := 5) hx hb dX6_playLowest_52 (by decide) ?_
        refine lv_icmp_ne (tgt := 77) hx hb dX6_playLowest_53 (by decide) (fun h2 => ?_) (fun h2 => ?_)
        · have hf := tk_neg hf h2
          refine lv_iload_n hx hb dX6_playLowest_77 rfl (lv_at hl 2 rfl) ?_
          exact tk_ri hQ (tk_s3 hf).2.1 (congrArg (tk_H c3 q) (tk_s3 hf).2.2) hx hb hr hlocks hP hD hS dX6_playLowest_78
        · have hf := tk_pos hf h2
          refine lv_aload_n hx hb dX6_playLowest_56 rfl (lv_at hl 0 rfl) ?_
          refine lv_aload_n hx hb dX6_playLowest_57 rfl (lv_at hl 0 rfl) ?_
          obtain ⟨r3, h4, hf⟩ := tk_b1s hf
          refine tk_cl (ws' := (tk_H c3 q S_43)) (va_runV (As := []) (rest := [.ref (q 0)]) ⟨hx, hb, hml, hown, hts⟩ (c_X6_playableNow l G c3 q S_43 r3 h4 H.size) (cwV 0 hts gX6_playLowest_X6_playableNow rfl rfl rfl hv_X6_playableNow ⟨Nat.le_of_ble_eq_true rfl, Nat.le_of_ble_eq_true rfl⟩) (tk_pV hE hP hD 0 rfl rfl) rfl rfl hl.1 rfl (lv_room (Nat.le_of_ble_eq_true rfl)) dX6_playLowest_58 ⟨Nat.zero_le _, Nat.zero_le _⟩) hD hS hA (fun H locs hP hD hS => ?_)
          obtain ⟨r6, h7, hf⟩ := tk_b1s hf
          refine tk_ci (ws' := (tk_H c3 q S_43)) (va_runS (As := [.long r3]) (rest := [.ref (q 0)]) ⟨hx, hb, hml, hown, hts⟩ (c_X6_lowestOf l G c3 (tk_H c3 q S_43) r3 r6 h7 H.size) (va_cwS 1 hts gX6_playLowest_X6_lowestOf rfl rfl rfl hs_X6_lowestOf ⟨Nat.le_of_ble_eq_true rfl, Nat.le_of_ble_eq_true rfl⟩) (tk_pS hE hP hD) rfl rfl hl.1 rfl (lv_room (Nat.le_of_ble_eq_true rfl)) dX6_playLowest_61 ⟨Nat.zero_le _, Nat.zero_le _⟩) hD hS hA (fun H locs hP hD hS => ?_)
          obtain ⟨r9, S11, h10, hf⟩ := tk_b2s hf
          refine tk_ci (ws' := (tk_H c3 q S11)) (va_runV (As := [.int r6]) (rest := []) ⟨hx, hb, hml, hown, hts⟩ (c_X6_addToTrick l G c3 q S_43 r6 r9 S11 h10 H.size) (cwV 1 hts gX6_playLowest_X6_addToTrick rfl rfl rfl hv_X6_addToTrick ⟨Nat.le_of_ble_eq_true rfl, Nat.le_of_ble_eq_true rfl⟩) (tk_pV hE hP hD 0 rfl rfl) rfl rfl hl.1 rfl (lv_room (Nat.le_of_ble_eq_true rfl)) dX6_playLowest_64 ⟨Nat.zero_le _, Nat.zero_le _⟩) hD hS hA (fun H locs hP hD hS => ?_)
          refine lv_pop hx hb dX6_playLowest_67 rfl ?_
          refine lv_iinc (v := (x2_43 + (1 : Int32))) (lv' := [(2, .int (x2_43 + (1 : Int32))), (0, .ref (q 0)), (1, .int x1_43), (3, .int x3_43)]) hx hb dX6_playLowest_68 hl (k := 2) rfl rfl (by decide) rfl (fun ls hl => ?_)
          refine lv_iinc (v := (x3_43 + (1 : Int32))) (lv' := [(3, .int (x3_43 + (1 : Int32))), (2, .int (x2_43 + (1 : Int32))), (0, .ref (q 0)), (1, .int x1_43)]) hx hb dX6_playLowest_71 hl (k := 3) rfl rfl (by decide) rfl (fun ls hl => ?_)
          refine lv_goto (tgt := 43) hx hb dX6_playLowest_74 (by decide) ?_
          exact ih_43 x1_43 (x2_43 + (1 : Int32)) (x3_43 + (1 : Int32)) S11 H locs hP hD hS ls (lv_sub hl [2, 3, 1, 0] rfl) hf
  unfold f_X6_playLowest at hf
  refine lv_iload_n hx hb dX6_playLowest_0 rfl (lv_at hl 1 rfl) ?_
  refine lv_iconst (v := 1) hx hb dX6_playLowest_1 (by decide) ?_
  refine lv_icmp_lt (tgt := 11) hx hb dX6_playLowest_2 (by decide) (fun h12 => ?_) (fun h12 => ?_)
  · have hf := tk_pos hf h12
    exact J_11 S H locs hP hD hS ls (lv_sub hl [] rfl) hf
  · have hf := tk_neg hf h12
    refine lv_iload_n hx hb dX6_playLowest_5 rfl (lv_at hl 1 rfl) ?_
    refine lv_bipush (v := 48) hx hb dX6_playLowest_6 (by decide) ?_
    refine lv_icmp_le (tgt := 21) hx hb dX6_playLowest_8 (by decide) (fun h13 => ?_) (fun h13 => ?_)
    · have hf := tk_pos hf h13
      refine lv_aload_n hx hb dX6_playLowest_21 rfl (lv_at hl 0 rfl) ?_
      refine va_get (D := G) (ci := 6) (v := .int (S.1 1)) (C := RX6) (T := TX6) (N := 18) hx hb hts i_X6_playLowest_X6 hown hE.1 hP 0 rfl rfl 7 (by decide) (hts _ m_X6_playLowest_f53) (fun _ h9 => h9) rfl dX6_playLowest_22 ?_
      refine lv_iconst (v := 5) hx hb dX6_playLowest_25 (by decide) ?_
      refine lv_icmp_eq (tgt := 39) hx hb dX6_playLowest_26 (by decide) (fun h14 => ?_) (fun h14 => ?_)
      · have hf := tk_pos hf h14
        refine lv_iconst (v := 0) hx hb dX6_playLowest_39 (by decide) ?_
        refine lv_istore_n (lv' := [(2, .int (0 : Int32)), (0, .ref (q 0)), (1, .int p0)]) hx hb dX6_playLowest_40 rfl hl (by decide) rfl (fun ls hl => ?_)
        refine lv_iconst (v := 0) hx hb dX6_playLowest_41 (by decide) ?_
        refine lv_istore_n (lv' := [(3, .int (0 : Int32)), (2, .int (0 : Int32)), (0, .ref (q 0)), (1, .int p0)]) hx hb dX6_playLowest_42 rfl hl (by decide) rfl (fun ls hl => ?_)
        exact J_43 64 p0 (0 : Int32) (0 : Int32) S H locs hP hD hS ls (lv_sub hl [2, 3, 1, 0] rfl) hf
      · have hf := tk_neg hf h14
        exact absurd (tk_s3 hf).1 (by decide)
    · have hf := tk_neg hf h13
      exact J_11 S H locs hP hD hS ls (lv_sub hl [] rfl) hf
abbrev rm_L_bids : Room := { frames := 7, cells := 1, slots := 6, locals := 111 }
set_option maxHeartbeats 4000000 in
set_option maxRecDepth 100000 in
theorem c_L_bids (l : Launch) (hlst : l.stackTraces = false) (G : va_G) (c3 : ClassId × ClassId × ClassId) (q : Nat → Nat) (S : tk_ST) (p1 : Int32) (r0 : Int32) (S0 : tk_ST) (hf : f_L_bids p1 S = some (r0, S0)) : tk_Li l yL_bids wsL_bids rm_L_bids G c3 [.ref (q 0), .int p1] (tk_H c3 q S) (tk_H c3 q S0) r0 := by
  refine tk_ofLi (cc := cL_bids) (maxL := 3) (ret := some .int) (hh := [(0, 5, 6, 13)]) (by decide) rfl (Nat.le_of_ble_eq_true rfl) ?_
  intro p e s m below meth c A Q ls H locs hx hb hml hr hts hown hlocks hE hA hP hD hS hZ hQ hl
  obtain ⟨hZ, hC, htab⟩ := hZ
  have hl : lv_has ls 3 [(0, .ref (q 0)), (1, .int p1)] := hl
  have hown : s.vm.findClass RL = some m.cls := hown
  unfold f_L_bids at hf
  refine lv_aload_n hx hb dL_bids_0 rfl (lv_at hl 0 rfl) ?_
  refine lv_iload_n hx hb dL_bids_1 rfl (lv_at hl 1 rfl) ?_
  obtain ⟨k, r, S1, h1, hf⟩ := tk_b3s hf
  refine tk_xi (a := tk_H c3 q S) (a' := tk_H c3 q S1) (vx_runV (As := [.int p1]) (rest := []) ⟨hx, hb, hml, hown, hts⟩ (c_X6_bid l hlst G c3 q S p1 k r S1 h1 H.size) (cwV 1 hts gL_bids_X6_bid rfl rfl rfl hv_X6_bid ⟨Nat.le_of_ble_eq_true rfl, Nat.le_of_ble_eq_true rfl⟩) (tk_pVX hE hZ hP hD hS hA 0 rfl rfl) rfl rfl hl.1 rfl (lv_room (Nat.le_of_ble_eq_true rfl)) dL_bids_2 ⟨Nat.le_of_ble_eq_true rfl, Nat.le_of_ble_eq_true rfl⟩) hP hD hS hA (fun hk ce q9 H locs hP hD hS hc1 hc2 hc3 => ?_) (fun hk H locs hP hD hS => ?_)
  · have hf := tk_neg hf hk
    obtain ⟨g0, hf⟩ := tk_yes hf
    have hc3 : s.vm.findClass "java/lang/IllegalStateException" = some ce.cls := by rw [ex_2, ← g0]; exact hc3
    refine vx_catch (name := "java/lang/IllegalStateException") hown [] ⟨0, 5, 6, 13⟩ [] (htab.trans rfl) (fun z hz => nomatch hz) (by decide) (by decide) (hts _ m_L_bids_c13) (va_Nw.use rfl hE.2.1.2.2.2.2.2.2.2.2.2.2.2.1) hc1 hc2 hc3 ?_
    refine lv_astore_n (lv' := [(2, .ref q9), (0, .ref (q 0)), (1, .int p1)]) hx hb dL_bids_6 rfl hl (by decide) rfl (fun ls hl => ?_)
    refine lv_bipush (v := -3) hx hb dL_bids_7 (by decide) ?_
    exact tk_rL hQ (tk_s2 hf).1 (congrArg (tk_H c3 q) (tk_s2 hf).2) (by decide) (by decide) hx hb hr hlocks hP hD hS dL_bids_9
  · have hf := tk_pos hf hk
    exact tk_rL hQ (tk_s2 hf).1 (congrArg (tk_H c3 q) (tk_s2 hf).2) (by decide) (by decide) hx hb hr hlocks hP hD hS dL_bids_5
abbrev rm_L_lays : Room := { frames := 7, cells := 1, slots := 6, locals := 113 }
set_option maxHeartbeats 4000000 in
set_option maxRecDepth 100000 in
theorem c_L_lays (l : Launch) (hlst : l.stackTraces = false) (G : va_G) (c3 : ClassId × ClassId × ClassId) (q : Nat → Nat) (S : tk_ST) (p1 : Int32) (r0 : Int32) (S0 : tk_ST) (hf : f_L_lays p1 S = some (r0, S0)) : tk_Li l yL_lays wsL_lays rm_L_lays G c3 [.ref (q 0), .int p1] (tk_H c3 q S) (tk_H c3 q S0) r0 := by
  refine tk_ofLi (cc := cL_lays) (maxL := 3) (ret := some .int) (hh := [(0, 5, 6, 13)]) (by decide) rfl (Nat.le_of_ble_eq_true rfl) ?_
  intro p e s m below meth c A Q ls H locs hx hb hml hr hts hown hlocks hE hA hP hD hS hZ hQ hl
  obtain ⟨hZ, hC, htab⟩ := hZ
  have hl : lv_has ls 3 [(0, .ref (q 0)), (1, .int p1)] := hl
  have hown : s.vm.findClass RL = some m.cls := hown
  unfold f_L_lays at hf
  refine lv_aload_n hx hb dL_lays_0 rfl (lv_at hl 0 rfl) ?_
  refine lv_iload_n hx hb dL_lays_1 rfl (lv_at hl 1 rfl) ?_
  obtain ⟨k, r, S1, h1, hf⟩ := tk_b3s hf
  refine tk_xi (a := tk_H c3 q S) (a' := tk_H c3 q S1) (vx_runV (As := [.int p1]) (rest := []) ⟨hx, hb, hml, hown, hts⟩ (c_X6_discard l hlst G c3 q S p1 k r S1 h1 H.size) (cwV 1 hts gL_lays_X6_discard rfl rfl rfl hv_X6_discard ⟨Nat.le_of_ble_eq_true rfl, Nat.le_of_ble_eq_true rfl⟩) (tk_pVX hE hZ hP hD hS hA 0 rfl rfl) rfl rfl hl.1 rfl (lv_room (Nat.le_of_ble_eq_true rfl)) dL_lays_2 ⟨Nat.le_of_ble_eq_true rfl, Nat.le_of_ble_eq_true rfl⟩) hP hD hS hA (fun hk ce q9 H locs hP hD hS hc1 hc2 hc3 => ?_) (fun hk H locs hP hD hS => ?_)
  · have hf := tk_neg hf hk
    obtain ⟨g0, hf⟩ := tk_yes hf
    have hc3 : s.vm.findClass "java/lang/IllegalStateException" = some ce.cls := by rw [ex_2, ← g0]; exact hc3
    refine vx_catch (name := "java/lang/IllegalStateException") hown [] ⟨0, 5, 6, 13⟩ [] (htab.trans rfl) (fun z hz => nomatch hz) (by decide) (by decide) (hts _ m_L_lays_c13) (va_Nw.use rfl hE.2.1.2.2.2.2.2.2.2.2.2.2.2.1) hc1 hc2 hc3 ?_
    refine lv_astore_n (lv' := [(2, .ref q9), (0, .ref (q 0)), (1, .int p1)]) hx hb dL_lays_6 rfl hl (by decide) rfl (fun ls hl => ?_)
    refine lv_bipush (v := -3) hx hb dL_lays_7 (by decide) ?_
    exact tk_rL hQ (tk_s2 hf).1 (congrArg (tk_H c3 q) (tk_s2 hf).2) (by decide) (by decide) hx hb hr hlocks hP hD hS dL_lays_9
  · have hf := tk_pos hf hk
    exact tk_rL hQ (tk_s2 hf).1 (congrArg (tk_H c3 q) (tk_s2 hf).2) (by decide) (by decide) hx hb hr hlocks hP hD hS dL_lays_5
abbrev rm_L_announces : Room := { frames := 7, cells := 1, slots := 6, locals := 111 }
set_option maxHeartbeats 4000000 in
set_option maxRecDepth 100000 in
theorem c_L_announces (l : Launch) (hlst : l.stackTraces = false) (G : va_G) (c3 : ClassId × ClassId × ClassId) (q : Nat → Nat) (S : tk_ST) (p1 : Int32) (r0 : Int32) (S0 : tk_ST) (hf : f_L_announces p1 S = some (r0, S0)) : tk_Li l yL_announces wsL_announces rm_L_announces G c3 [.ref (q 0), .int p1] (tk_H c3 q S) (tk_H c3 q S0) r0 := by
  refine tk_ofLi (cc := cL_announces) (maxL := 3) (ret := some .int) (hh := [(0, 5, 6, 13)]) (by decide) rfl (Nat.le_of_ble_eq_true rfl) ?_
  intro p e s m below meth c A Q ls H locs hx hb hml hr hts hown hlocks hE hA hP hD hS hZ hQ hl
  obtain ⟨hZ, hC, htab⟩ := hZ
  have hl : lv_has ls 3 [(0, .ref (q 0)), (1, .int p1)] := hl
  have hown : s.vm.findClass RL = some m.cls := hown
  unfold f_L_announces at hf
  refine lv_aload_n hx hb dL_announces_0 rfl (lv_at hl 0 rfl) ?_
  refine lv_iload_n hx hb dL_announces_1 rfl (lv_at hl 1 rfl) ?_
  obtain ⟨k, r, S1, h1, hf⟩ := tk_b3s hf
  refine tk_xi (a := tk_H c3 q S) (a' := tk_H c3 q S1) (vx_runV (As := [.int p1]) (rest := []) ⟨hx, hb, hml, hown, hts⟩ (c_X6_announce l hlst G c3 q S p1 k r S1 h1 H.size) (cwV 1 hts gL_announces_X6_announce rfl rfl rfl hv_X6_announce ⟨Nat.le_of_ble_eq_true rfl, Nat.le_of_ble_eq_true rfl⟩) (tk_pVX hE hZ hP hD hS hA 0 rfl rfl) rfl rfl hl.1 rfl (lv_room (Nat.le_of_ble_eq_true rfl)) dL_announces_2 ⟨Nat.le_of_ble_eq_true rfl, Nat.le_of_ble_eq_true rfl⟩) hP hD hS hA (fun hk ce q9 H locs hP hD hS hc1 hc2 hc3 => ?_) (fun hk H locs hP hD hS => ?_)
  · have hf := tk_neg hf hk
    obtain ⟨g0, hf⟩ := tk_yes hf
    have hc3 : s.vm.findClass "java/lang/IllegalStateException" = some ce.cls := by rw [ex_2, ← g0]; exact hc3
    refine vx_catch (name := "java/lang/IllegalStateException") hown [] ⟨0, 5, 6, 13⟩ [] (htab.trans rfl) (fun z hz => nomatch hz) (by decide) (by decide) (hts _ m_L_announces_c13) (va_Nw.use rfl hE.2.1.2.2.2.2.2.2.2.2.2.2.2.1) hc1 hc2 hc3 ?_
    refine lv_astore_n (lv' := [(2, .ref q9), (0, .ref (q 0)), (1, .int p1)]) hx hb dL_announces_6 rfl hl (by decide) rfl (fun ls hl => ?_)
    refine lv_bipush (v := -3) hx hb dL_announces_7 (by decide) ?_
    exact tk_rL hQ (tk_s2 hf).1 (congrArg (tk_H c3 q) (tk_s2 hf).2) (by decide) (by decide) hx hb hr hlocks hP hD hS dL_announces_9
  · have hf := tk_pos hf hk
    exact tk_rL hQ (tk_s2 hf).1 (congrArg (tk_H c3 q) (tk_s2 hf).2) (by decide) (by decide) hx hb hr hlocks hP hD hS dL_announces_5
abbrev rm_L_plays : Room := { frames := 7, cells := 1, slots := 6, locals := 157 }
set_option maxHeartbeats 4000000 in
set_option maxRecDepth 100000 in
theorem c_L_plays (l : Launch) (hlst : l.stackTraces = false) (G : va_G) (c3 : ClassId × ClassId × ClassId) (q : Nat → Nat) (S : tk_ST) (p1 : Int32) (r0 : Int32) (S0 : tk_ST) (hf : f_L_plays p1 S = some (r0, S0)) : tk_Li l yL_plays wsL_plays rm_L_plays G c3 [.ref (q 0), .int p1] (tk_H c3 q S) (tk_H c3 q S0) r0 := by
  refine tk_ofLi (cc := cL_plays) (maxL := 3) (ret := some .int) (hh := [(0, 5, 6, 13)]) (by decide) rfl (Nat.le_of_ble_eq_true rfl) ?_
  intro p e s m below meth c A Q ls H locs hx hb hml hr hts hown hlocks hE hA hP hD hS hZ hQ hl
  obtain ⟨hZ, hC, htab⟩ := hZ
  have hl : lv_has ls 3 [(0, .ref (q 0)), (1, .int p1)] := hl
  have hown : s.vm.findClass RL = some m.cls := hown
  unfold f_L_plays at hf
  refine lv_aload_n hx hb dL_plays_0 rfl (lv_at hl 0 rfl) ?_
  refine lv_iload_n hx hb dL_plays_1 rfl (lv_at hl 1 rfl) ?_
  obtain ⟨k, r, S1, h1, hf⟩ := tk_b3s hf
  refine tk_xi (a := tk_H c3 q S) (a' := tk_H c3 q S1) (vx_runV (As := [.int p1]) (rest := []) ⟨hx, hb, hml, hown, hts⟩ (c_X6_play l hlst G c3 q S p1 k r S1 h1 H.size) (cwV 1 hts gL_plays_X6_play rfl rfl rfl hv_X6_play ⟨Nat.le_of_ble_eq_true rfl, Nat.le_of_ble_eq_true rfl⟩) (tk_pVX hE hZ hP hD hS hA 0 rfl rfl) rfl rfl hl.1 rfl (lv_room (Nat.le_of_ble_eq_true rfl)) dL_plays_2 ⟨Nat.le_of_ble_eq_true rfl, Nat.le_of_ble_eq_true rfl⟩) hP hD hS hA (fun hk ce q9 H locs hP hD hS hc1 hc2 hc3 => ?_) (fun hk H locs hP hD hS => ?_)
  · have hf := tk_neg hf hk
    obtain ⟨g0, hf⟩ := tk_yes hf
    have hc3 : s.vm.findClass "java/lang/IllegalStateException" = some ce.cls := by rw [ex_2, ← g0]; exact hc3
    refine vx_catch (name := "java/lang/IllegalStateException") hown [] ⟨0, 5, 6, 13⟩ [] (htab.trans rfl) (fun z hz => nomatch hz) (by decide) (by decide) (hts _ m_L_plays_c13) (va_Nw.use rfl hE.2.1.2.2.2.2.2.2.2.2.2.2.2.1) hc1 hc2 hc3 ?_
    refine lv_astore_n (lv' := [(2, .ref q9), (0, .ref (q 0)), (1, .int p1)]) hx hb dL_plays_6 rfl hl (by decide) rfl (fun ls hl => ?_)
    refine lv_bipush (v := -9) hx hb dL_plays_7 (by decide) ?_
    exact tk_rL hQ (tk_s2 hf).1 (congrArg (tk_H c3 q) (tk_s2 hf).2) (by decide) (by decide) hx hb hr hlocks hP hD hS dL_plays_9
  · have hf := tk_pos hf hk
    exact tk_rL hQ (tk_s2 hf).1 (congrArg (tk_H c3 q) (tk_s2 hf).2) (by decide) (by decide) hx hb hr hlocks hP hD hS dL_plays_5
abbrev rm_L_bits : Room := { frames := 0, cells := 0, slots := 0, locals := 0 }
set_option maxHeartbeats 4000000 in
set_option maxRecDepth 100000 in
theorem c_L_bits (l : Launch) (G : va_G) (c3 : ClassId × ClassId × ClassId) (ws : va_W) (p0 : Int64) (r0 : Int32) (hf : f_L_bits p0 = some r0) : tk_Mi l yL_bits wsL_bits rm_L_bits G c3 [.long p0] ws ws r0 := by
  refine tk_ofi (cc := cL_bits) (maxL := 4) (ret := some .int) (by decide) rfl (Nat.le_of_ble_eq_true rfl) ?_
  intro p e s m below meth c A Q ls H locs hx hb hml hr hts hown hlocks hE hA hP hD hS hZ hQ hl
  have hl : lv_has ls 4 [(0, .long p0)] := hl
  have hown : s.vm.findClass RL = some m.cls := hown
  have J_4 : ∀ (n_4 : Nat), ∀ (x0_4 : Int64) (x2_4 : Int32) (x3_4 : Int32) (H : Heap) (locs : List Loc) (_ : va_P G vwCl ws H) (_ : va_D A ws) (_ : va_S A s.heap H locs) (ls : Array Slot) (_ : lv_has ls 4 [(0, .long x0_4), (2, .int x2_4), (3, .int x3_4)]) (_ : f_L_bits_4 n_4 x0_4 x2_4 x3_4 = some r0), W p l e rm_L_bits s m ([.long p0] : List Value).toArray below meth c H locs 0 0 Q (F0 m 4 ls []) := by
    intro n_4
    induction n_4 with
    | zero =>
      intro x0_4 x2_4 x3_4 H locs hP hD hS ls hl hf
      exact absurd hf (by intro h9; cases h9)
    | succ n_4 ih_4 =>
      have J_26 : ∀ (x0_26 : Int64) (x3_26 : Int32) (k0_26 : Int32) (k1_26 : Int32) (H : Heap) (locs : List Loc) (_ : va_P G vwCl ws H) (_ : va_D A ws) (_ : va_S A s.heap H locs) (ls : Array Slot) (_ : lv_has ls 4 [(0, .long x0_26), (3, .int x3_26)]) (_ : f_L_bits_26 (f_L_bits_4 n_4) x0_26 x3_26 k0_26 k1_26 = some r0), W p l e rm_L_bits s m ([.long p0] : List Value).toArray below meth c H locs 0 0 Q (F0 m 26 ls [.int k1_26, .int k0_26]) := by
        intro x0_26 x3_26 k0_26 k1_26 H locs hP hD hS ls hl hf
        unfold f_L_bits_26 at hf
        refine lv_iadd hx hb dL_bits_26 ?_
        refine lv_istore_n (lv' := [(2, .int (k0_26 + k1_26)), (0, .long x0_26), (3, .int x3_26)]) hx hb dL_bits_27 rfl hl (by decide) rfl (fun ls hl => ?_)
        refine lv_iinc (v := (x3_26 + (1 : Int32))) (lv' := [(3, .int (x3_26 + (1 : Int32))), (2, .int (k0_26 + k1_26)), (0, .long x0_26)]) hx hb dL_bits_28 hl (k := 2) rfl rfl (by decide) rfl (fun ls hl => ?_)
        refine lv_goto (tgt := 4) hx hb dL_bits_31 (by decide) ?_
        exact ih_4 x0_26 (k0_26 + k1_26) (x3_26 + (1 : Int32)) H locs hP hD hS ls (lv_sub hl [2, 1, 0] rfl) hf
      intro x0_4 x2_4 x3_4 H locs hP hD hS ls hl hf
      rw [f_L_bits_4_s] at hf
      refine lv_iload_n hx hb dL_bits_4 rfl (lv_at hl 2 rfl) ?_
      refine lv_bipush (v := 54) hx hb dL_bits_5 (by decide) ?_
      refine lv_icmp_ge (tgt := 34) hx hb dL_bits_7 (by decide) (fun h1 => ?_) (fun h1 => ?_)
      · have hf := tk_pos hf h1
        refine lv_iload_n hx hb dL_bits_34 rfl (lv_at hl 1 rfl) ?_
        exact tk_ri hQ (tk_s1 hf) rfl hx hb hr hlocks hP hD hS dL_bits_35
      · have hf := tk_neg hf h1
        refine lv_iload_n hx hb dL_bits_10 rfl (lv_at hl 1 rfl) ?_
        refine lv_lload_n hx hb dL_bits_11 rfl (lv_at hl 0 rfl) ?_
        refine lv_iload_n hx hb dL_bits_12 rfl (lv_at hl 2 rfl) ?_
        refine lv_lshr (v := x0_4 >>> (x3_4.toInt64 &&& 63)) hx hb dL_bits_13 rfl ?_
        refine lv_lconst (v := 1) hx hb dL_bits_14 (by decide) ?_
        refine lv_land hx hb dL_bits_15 ?_
        refine lv_lconst (v := 1) hx hb dL_bits_16 (by decide) ?_
        refine W.lcmp hx hb dL_bits_17 ?_
        refine lv_if_ne (tgt := 25) hx hb dL_bits_18 (by decide) (fun h2 => ?_) (fun h2 => ?_)
        · have hf := tk_neg hf h2
          refine lv_iconst (v := 0) hx hb dL_bits_25 (by decide) ?_
          exact J_26 x0_4 x3_4 x2_4 (0 : Int32) H locs hP hD hS ls (lv_sub hl [0, 2] rfl) hf
        · have hf := tk_pos hf h2
          refine lv_iconst (v := 1) hx hb dL_bits_21 (by decide) ?_
          refine lv_goto (tgt := 26) hx hb dL_bits_22 (by decide) ?_
          exact J_26 x0_4 x3_4 x2_4 (1 : Int32) H locs hP hD hS ls (lv_sub hl [0, 2] rfl) hf
  unfold f_L_bits at hf
  refine lv_iconst (v := 0) hx hb dL_bits_0 (by decide) ?_
  refine lv_istore_n (lv' := [(2, .int (0 : Int32)), (0, .long p0)]) hx hb dL_bits_1 rfl hl (by decide) rfl (fun ls hl => ?_)
  refine lv_iconst (v := 0) hx hb dL_bits_2 (by decide) ?_
  refine lv_istore_n (lv' := [(3, .int (0 : Int32)), (2, .int (0 : Int32)), (0, .long p0)]) hx hb dL_bits_3 rfl hl (by decide) rfl (fun ls hl => ?_)
  exact J_4 64 p0 (0 : Int32) (0 : Int32) H locs hP hD hS ls (lv_sub hl [2, 1, 0] rfl) hf
abbrev rm_L_has : Room := { frames := 0, cells := 0, slots := 0, locals := 0 }
set_option maxHeartbeats 4000000 in
set_option maxRecDepth 100000 in
theorem c_L_has (l : Launch) (G : va_G) (c3 : ClassId × ClassId × ClassId) (ws : va_W) (p0 : Int64) (p1 : Int32) (r0 : Int32) (hf : f_L_has p0 p1 = some r0) : tk_Mi l yL_has wsL_has rm_L_has G c3 [.long p0, .int p1] ws ws r0 := by
  refine tk_ofi (cc := cL_has) (maxL := 3) (ret := some .boolean) (by decide) rfl (Nat.le_of_ble_eq_true rfl) ?_
  intro p e s m below meth c A Q ls H locs hx hb hml hr hts hown hlocks hE hA hP hD hS hZ hQ hl
  have hl : lv_has ls 3 [(0, .long p0), (2, .int p1)] := hl
  have hown : s.vm.findClass RL = some m.cls := hown
  unfold f_L_has at hf
  refine lv_lload_n hx hb dL_has_0 rfl (lv_at hl 0 rfl) ?_
  refine lv_iload_n hx hb dL_has_1 rfl (lv_at hl 1 rfl) ?_
  refine lv_lshr (v := p0 >>> (p1.toInt64 &&& 63)) hx hb dL_has_2 rfl ?_
  refine lv_lconst (v := 1) hx hb dL_has_3 (by decide) ?_
  refine lv_land hx hb dL_has_4 ?_
  refine lv_lconst (v := 1) hx hb dL_has_5 (by decide) ?_
  refine W.lcmp hx hb dL_has_6 ?_
  refine lv_if_ne (tgt := 14) hx hb dL_has_7 (by decide) (fun h1 => ?_) (fun h1 => ?_)
  · have hf := tk_neg hf h1
    refine lv_iconst (v := 0) hx hb dL_has_14 (by decide) ?_
    exact tk_rz hQ (tk_s1 hf) rfl (by decide) hx hb hr hlocks hP hD hS dL_has_15
  · have hf := tk_pos hf h1
    refine lv_iconst (v := 1) hx hb dL_has_10 (by decide) ?_
    refine lv_goto (tgt := 15) hx hb dL_has_11 (by decide) ?_
    exact tk_rz hQ (tk_s1 hf) rfl (by decide) hx hb hr hlocks hP hD hS dL_has_15
abbrev rm_L_suit : Room := { frames := 0, cells := 0, slots := 0, locals := 0 }
set_option maxHeartbeats 4000000 in
set_option maxRecDepth 100000 in
theorem c_L_suit (l : Launch) (G : va_G) (c3 : ClassId × ClassId × ClassId) (ws : va_W) (p0 : Int32) (r0 : Int32) (hf : f_L_suit p0 = some r0) : tk_Mi l yL_suit wsL_suit rm_L_suit G c3 [.int p0] ws ws r0 := by
  refine tk_ofi (cc := cL_suit) (maxL := 1) (ret := some .int) (by decide) rfl (Nat.le_of_ble_eq_true rfl) ?_
  intro p e s m below meth c A Q ls H locs hx hb hml hr hts hown hlocks hE hA hP hD hS hZ hQ hl
  have hl : lv_has ls 1 [(0, .int p0)] := hl
  have hown : s.vm.findClass RL = some m.cls := hown
  unfold f_L_suit at hf
  refine lv_iload_n hx hb dL_suit_0 rfl (lv_at hl 0 rfl) ?_
  refine lv_bipush (v := 31) hx hb dL_suit_1 (by decide) ?_
  refine lv_icmp_le (tgt := 10) hx hb dL_suit_3 (by decide) (fun h1 => ?_) (fun h1 => ?_)
  · have hf := tk_pos hf h1
    refine lv_iload_n hx hb dL_suit_10 rfl (lv_at hl 0 rfl) ?_
    refine lv_bipush (v := 8) hx hb dL_suit_11 (by decide) ?_
    refine lv_idiv hx hb dL_suit_13 (by decide) ?_
    exact tk_ri hQ (tk_s1 hf) rfl hx hb hr hlocks hP hD hS dL_suit_14
  · have hf := tk_neg hf h1
    refine lv_iconst (v := 4) hx hb dL_suit_6 (by decide) ?_
    refine lv_goto (tgt := 14) hx hb dL_suit_7 (by decide) ?_
    exact tk_ri hQ (tk_s1 hf) rfl hx hb hr hlocks hP hD hS dL_suit_14
abbrev rm_L_areHands : Room := { frames := 4, cells := 0, slots := 0, locals := 91 }
set_option maxHeartbeats 4000000 in
set_option maxRecDepth 100000 in
theorem c_L_areHands (l : Launch) (G : va_G) (c3 : ClassId × ClassId × ClassId) (q : Nat → Nat) (S : tk_ST) (r0 : Int32) (hf : f_L_areHands S = some r0) : tk_Mi l yL_areHands wsL_areHands rm_L_areHands G c3 [.ref (q 0)] (tk_H c3 q S) (tk_H c3 q S) r0 := by
  refine tk_ofi (cc := cL_areHands) (maxL := 13) (ret := some .boolean) (by decide) rfl (Nat.le_of_ble_eq_true rfl) ?_
  intro p e s m below meth c A Q ls H locs hx hb hml hr hts hown hlocks hE hA hP hD hS hZ hQ hl
  have hl : lv_has ls 13 [(0, .ref (q 0))] := hl
  have hown : s.vm.findClass RL = some m.cls := hown
  have J_66 : ∀ (n_66 : Nat), ∀ (x4_66 : Int32) (x5_66 : Int32) (H : Heap) (locs : List Loc) (_ : va_P G vwCl (tk_H c3 q S) H) (_ : va_D A (tk_H c3 q S)) (_ : va_S A s.heap H locs) (ls : Array Slot) (_ : lv_has ls 13 [(0, .ref (q 0)), (4, .int x4_66), (5, .int x5_66)]) (_ : f_L_areHands_66 n_66 x4_66 x5_66 S = some r0), W p l e rm_L_areHands s m ([.ref (q 0)] : List Value).toArray below meth c H locs 0 0 Q (F0 m 66 ls []) := by
    intro n_66
    induction n_66 with
    | zero =>
      intro x4_66 x5_66 H locs hP hD hS ls hl hf
      exact absurd hf (by intro h9; cases h9)
    | succ n_66 ih_66 =>
      have J_92 : ∀ (x5_92 : Int32) (k0_92 : Int32) (H : Heap) (locs : List Loc) (_ : va_P G vwCl (tk_H c3 q S) H) (_ : va_D A (tk_H c3 q S)) (_ : va_S A s.heap H locs) (ls : Array Slot) (_ : lv_has ls 13 [(0, .ref (q 0)), (5, .int x5_92)]) (_ : f_L_areHands_92 (f_L_areHands_66 n_66) x5_92 k0_92 S = some r0), W p l e rm_L_areHands s m ([.ref (q 0)] : List Value).toArray below meth c H locs 0 0 Q (F0 m 92 ls [.int k0_92]) := by
        intro x5_92 k0_92 H locs hP hD hS ls hl hf
        unfold f_L_areHands_92 at hf
        refine lv_istore (lv' := [(4, .int k0_92), (0, .ref (q 0)), (5, .int x5_92)]) hx hb dL_areHands_92 hl (by decide) rfl (fun ls hl => ?_)
        refine lv_iinc (v := (x5_92 + (1 : Int32))) (lv' := [(5, .int (x5_92 + (1 : Int32))), (4, .int k0_92), (0, .ref (q 0))]) hx hb dL_areHands_94 hl (k := 2) rfl rfl (by decide) rfl (fun ls hl => ?_)
        refine lv_goto (tgt := 66) hx hb dL_areHands_97 (by decide) ?_
        exact ih_66 k0_92 (x5_92 + (1 : Int32)) H locs hP hD hS ls (lv_sub hl [2, 1, 0] rfl) hf
      have J_91 : ∀ (x5_91 : Int32) (H : Heap) (locs : List Loc) (_ : va_P G vwCl (tk_H c3 q S) H) (_ : va_D A (tk_H c3 q S)) (_ : va_S A s.heap H locs) (ls : Array Slot) (_ : lv_has ls 13 [(0, .ref (q 0)), (5, .int x5_91)]) (_ : f_L_areHands_91 (f_L_areHands_66 n_66) x5_91 S = some r0), W p l e rm_L_areHands s m ([.ref (q 0)] : List Value).toArray below meth c H locs 0 0 Q (F0 m 91 ls []) := by
        intro x5_91 H locs hP hD hS ls hl hf
        unfold f_L_areHands_91 at hf
        refine lv_iconst (v := 0) hx hb dL_areHands_91 (by decide) ?_
        exact J_92 x5_91 (0 : Int32) H locs hP hD hS ls (lv_sub hl [0, 1] rfl) hf
      intro x4_66 x5_66 H locs hP hD hS ls hl hf
      rw [f_L_areHands_66_s] at hf
      refine lv_iload hx hb dL_areHands_66 (lv_at hl 2 rfl) ?_
      refine lv_bipush (v := 54) hx hb dL_areHands_68 (by decide) ?_
      refine lv_icmp_ge (tgt := 100) hx hb dL_areHands_70 (by decide) (fun h1 => ?_) (fun h1 => ?_)
      · have hf := tk_pos hf h1
        refine lv_iload hx hb dL_areHands_100 (lv_at hl 1 rfl) ?_
        refine lv_if_eq (tgt := 116) hx hb dL_areHands_102 (by decide) (fun h2 => ?_) (fun h2 => ?_)
        · have hf := tk_pos hf h2
          refine lv_iconst (v := 0) hx hb dL_areHands_116 (by decide) ?_
          exact tk_rz hQ (tk_s1 hf) rfl (by decide) hx hb hr hlocks hP hD hS dL_areHands_117
        · have hf := tk_neg hf h2
          refine lv_aload_n hx hb dL_areHands_105 rfl (lv_at hl 0 rfl) ?_
          obtain ⟨r3, h4, hf⟩ := tk_b1s hf
          refine tk_ci (ws' := (tk_H c3 q S)) (va_runV (As := []) (rest := []) ⟨hx, hb, hml, hown, hts⟩ (c_X6_inTrick l G c3 q S r3 h4 H.size) (cwV 0 hts gL_areHands_X6_inTrick rfl rfl rfl hv_X6_inTrick ⟨Nat.le_of_ble_eq_true rfl, Nat.le_of_ble_eq_true rfl⟩) (tk_pV hE hP hD 0 rfl rfl) rfl rfl hl.1 rfl (lv_room (Nat.le_of_ble_eq_true rfl)) dL_areHands_106 ⟨Nat.zero_le _, Nat.zero_le _⟩) hD hS hA (fun H locs hP hD hS => ?_)
          refine lv_if_ne (tgt := 116) hx hb dL_areHands_109 (by decide) (fun h6 => ?_) (fun h6 => ?_)
          · have hf := tk_neg hf h6
            refine lv_iconst (v := 0) hx hb dL_areHands_116 (by decide) ?_
            exact tk_rz hQ (tk_s1 hf) rfl (by decide) hx hb hr hlocks hP hD hS dL_areHands_117
          · have hf := tk_pos hf h6
            refine lv_iconst (v := 1) hx hb dL_areHands_112 (by decide) ?_
            refine lv_goto (tgt := 117) hx hb dL_areHands_113 (by decide) ?_
            exact tk_rz hQ (tk_s1 hf) rfl (by decide) hx hb hr hlocks hP hD hS dL_areHands_117
      · have hf := tk_neg hf h1
        refine lv_iload hx hb dL_areHands_73 (lv_at hl 1 rfl) ?_
        refine lv_if_eq (tgt := 91) hx hb dL_areHands_75 (by decide) (fun h7 => ?_) (fun h7 => ?_)
        · have hf := tk_pos hf h7
          exact J_91 x5_66 H locs hP hD hS ls (lv_sub hl [0, 2] rfl) hf
        · have hf := tk_neg hf h7
          refine lv_aload_n hx hb dL_areHands_78 rfl (lv_at hl 0 rfl) ?_
          refine lv_iload hx hb dL_areHands_79 (lv_at hl 2 rfl) ?_
          obtain ⟨r8, h9, hf⟩ := tk_b1s hf
          refine tk_ci (ws' := (tk_H c3 q S)) (va_runV (As := [.int x5_66]) (rest := []) ⟨hx, hb, hml, hown, hts⟩ (c0_X6_canPlay l G c3 q S x5_66 r8 h9 H.size) (cwV 1 hts gL_areHands_X6_canPlay rfl rfl rfl hv_X6_canPlay ⟨Nat.le_of_ble_eq_true rfl, Nat.le_of_ble_eq_true rfl⟩) (tk_pV hE hP hD 0 rfl rfl) rfl rfl hl.1 rfl (lv_room (Nat.le_of_ble_eq_true rfl)) dL_areHands_81 ⟨Nat.zero_le _, Nat.zero_le _⟩) hD hS hA (fun H locs hP hD hS => ?_)
          refine lv_if_ne (tgt := 91) hx hb dL_areHands_84 (by decide) (fun h11 => ?_) (fun h11 => ?_)
          · have hf := tk_neg hf h11
            exact J_91 x5_66 H locs hP hD hS ls (lv_sub hl [0, 2] rfl) hf
          · have hf := tk_pos hf h11
            refine lv_iconst (v := 1) hx hb dL_areHands_87 (by decide) ?_
            refine lv_goto (tgt := 92) hx hb dL_areHands_88 (by decide) ?_
            exact J_92 x5_66 (1 : Int32) H locs hP hD hS ls (lv_sub hl [0, 2] rfl) hf
  have J_321 : ∀ (x3_321 : Int32) (H : Heap) (locs : List Loc) (_ : va_P G vwCl (tk_H c3 q S) H) (_ : va_D A (tk_H c3 q S)) (_ : va_S A s.heap H locs) (ls : Array Slot) (_ : lv_has ls 13 [(0, .ref (q 0)), (3, .int x3_321)]) (_ : f_L_areHands_321 x3_321 S = some r0), W p l e rm_L_areHands s m ([.ref (q 0)] : List Value).toArray below meth c H locs 0 0 Q (F0 m 321 ls []) := by
    intro x3_321 H locs hP hD hS ls hl hf
    unfold f_L_areHands_321 at hf
    refine lv_iload_n hx hb dL_areHands_321 rfl (lv_at hl 1 rfl) ?_
    refine lv_bipush (v := 48) hx hb dL_areHands_322 (by decide) ?_
    refine lv_iconst (v := 4) hx hb dL_areHands_324 (by decide) ?_
    refine lv_aload_n hx hb dL_areHands_325 rfl (lv_at hl 0 rfl) ?_
    obtain ⟨r12, h13, hf⟩ := tk_b1s hf
    refine tk_ci (ws' := (tk_H c3 q S)) (va_runV (As := []) (rest := [.int (4 : Int32), .int (48 : Int32), .int x3_321]) ⟨hx, hb, hml, hown, hts⟩ (c_X6_tricks l G c3 q S r12 h13 H.size) (cwV 0 hts gL_areHands_X6_tricks rfl rfl rfl hv_X6_tricks ⟨Nat.le_of_ble_eq_true rfl, Nat.le_of_ble_eq_true rfl⟩) (tk_pV hE hP hD 0 rfl rfl) rfl rfl hl.1 rfl (lv_room (Nat.le_of_ble_eq_true rfl)) dL_areHands_326 ⟨Nat.zero_le _, Nat.zero_le _⟩) hD hS hA (fun H locs hP hD hS => ?_)
    refine lv_imul hx hb dL_areHands_329 ?_
    refine lv_isub hx hb dL_areHands_330 ?_
    refine lv_aload_n hx hb dL_areHands_331 rfl (lv_at hl 0 rfl) ?_
    obtain ⟨r15, h16, hf⟩ := tk_b1s hf
    refine tk_ci (ws' := (tk_H c3 q S)) (va_runV (As := []) (rest := [.int ((48 : Int32) - ((4 : Int32) * r12)), .int x3_321]) ⟨hx, hb, hml, hown, hts⟩ (c_X6_inTrick l G c3 q S r15 h16 H.size) (cwV 0 hts gL_areHands_X6_inTrick rfl rfl rfl hv_X6_inTrick ⟨Nat.le_of_ble_eq_true rfl, Nat.le_of_ble_eq_true rfl⟩) (tk_pV hE hP hD 0 rfl rfl) rfl rfl hl.1 rfl (lv_room (Nat.le_of_ble_eq_true rfl)) dL_areHands_332 ⟨Nat.zero_le _, Nat.zero_le _⟩) hD hS hA (fun H locs hP hD hS => ?_)
    refine lv_isub hx hb dL_areHands_335 ?_
    refine lv_icmp_ne (tgt := 343) hx hb dL_areHands_336 (by decide) (fun h18 => ?_) (fun h18 => ?_)
    · have hf := tk_neg hf h18
      refine lv_iconst (v := 0) hx hb dL_areHands_343 (by decide) ?_
      exact tk_rz hQ (tk_s1 hf) rfl (by decide) hx hb hr hlocks hP hD hS dL_areHands_344
    · have hf := tk_pos hf h18
      refine lv_iconst (v := 1) hx hb dL_areHands_339 (by decide) ?_
      refine lv_goto (tgt := 344) hx hb dL_areHands_340 (by decide) ?_
      exact tk_rz hQ (tk_s1 hf) rfl (by decide) hx hb hr hlocks hP hD hS dL_areHands_344
  have J_161 : ∀ (n_161 : Nat), ∀ (x3_161 : Int32) (x4_161 : Int32) (x5_161 : Int64) (x7_161 : Int32) (x8_161 : Int32) (x9_161 : Int32) (x10_161 : Int32) (x11_161 : Int32) (H : Heap) (locs : List Loc) (_ : va_P G vwCl (tk_H c3 q S) H) (_ : va_D A (tk_H c3 q S)) (_ : va_S A s.heap H locs) (ls : Array Slot) (_ : lv_has ls 13 [(0, .ref (q 0)), (3, .int x3_161), (4, .int x4_161), (5, .long x5_161), (7, .int x7_161), (8, .int x8_161), (9, .int x9_161), (10, .int x10_161), (11, .int x11_161)]) (_ : f_L_areHands_161 n_161 x3_161 x4_161 x5_161 x7_161 x8_161 x9_161 x10_161 x11_161 S = some r0), W p l e rm_L_areHands s m ([.ref (q 0)] : List Value).toArray below meth c H locs 0 0 Q (F0 m 161 ls []) := by
    intro n_161
    induction n_161 with
    | zero =>
      intro x3_161 x4_161 x5_161 x7_161 x8_161 x9_161 x10_161 x11_161 H locs hP hD hS ls hl hf
      exact absurd hf (by intro h9; cases h9)
    | succ n_161 ih_161 =>
      have J_275 : ∀ (x3_275 : Int32) (x4_275 : Int32) (x5_275 : Int64) (x7_275 : Int32) (x8_275 : Int32) (x9_275 : Int32) (x11_275 : Int32) (k0_275 : Int32) (H : Heap) (locs : List Loc) (_ : va_P G vwCl (tk_H c3 q S) H) (_ : va_D A (tk_H c3 q S)) (_ : va_S A s.heap H locs) (ls : Array Slot) (_ : lv_has ls 13 [(0, .ref (q 0)), (3, .int x3_275), (4, .int x4_275), (5, .long x5_275), (7, .int x7_275), (8, .int x8_275), (9, .int x9_275), (11, .int x11_275)]) (_ : f_L_areHands_275 (f_L_areHands_161 n_161) x3_275 x4_275 x5_275 x7_275 x8_275 x9_275 x11_275 k0_275 S = some r0), W p l e rm_L_areHands s m ([.ref (q 0)] : List Value).toArray below meth c H locs 0 0 Q (F0 m 275 ls [.int k0_275]) := by
        intro x3_275 x4_275 x5_275 x7_275 x8_275 x9_275 x11_275 k0_275 H locs hP hD hS ls hl hf
        unfold f_L_areHands_275 at hf
        refine lv_istore (lv' := [(10, .int k0_275), (0, .ref (q 0)), (3, .int x3_275), (4, .int x4_275), (5, .long x5_275), (7, .int x7_275), (8, .int x8_275), (9, .int x9_275), (11, .int x11_275)]) hx hb dL_areHands_275 hl (by decide) rfl (fun ls hl => ?_)
        refine lv_iinc (v := (x11_275 + (1 : Int32))) (lv' := [(11, .int (x11_275 + (1 : Int32))), (10, .int k0_275), (0, .ref (q 0)), (3, .int x3_275), (4, .int x4_275), (5, .long x5_275), (7, .int x7_275), (8, .int x8_275), (9, .int x9_275)]) hx hb dL_areHands_277 hl (k := 8) rfl rfl (by decide) rfl (fun ls hl => ?_)
        refine lv_goto (tgt := 161) hx hb dL_areHands_280 (by decide) ?_
        exact ih_161 x3_275 x4_275 x5_275 x7_275 x8_275 x9_275 k0_275 (x11_275 + (1 : Int32)) H locs hP hD hS ls (lv_sub hl [2, 3, 4, 5, 6, 7, 8, 1, 0] rfl) hf
      have J_270 : ∀ (x3_270 : Int32) (x4_270 : Int32) (x5_270 : Int64) (x7_270 : Int32) (x8_270 : Int32) (x9_270 : Int32) (x11_270 : Int32) (H : Heap) (locs : List Loc) (_ : va_P G vwCl (tk_H c3 q S) H) (_ : va_D A (tk_H c3 q S)) (_ : va_S A s.heap H locs) (ls : Array Slot) (_ : lv_has ls 13 [(0, .ref (q 0)), (3, .int x3_270), (4, .int x4_270), (5, .long x5_270), (7, .int x7_270), (8, .int x8_270), (9, .int x9_270), (11, .int x11_270)]) (_ : f_L_areHands_270 (f_L_areHands_161 n_161) x3_270 x4_270 x5_270 x7_270 x8_270 x9_270 x11_270 S = some r0), W p l e rm_L_areHands s m ([.ref (q 0)] : List Value).toArray below meth c H locs 0 0 Q (F0 m 270 ls []) := by
        intro x3_270 x4_270 x5_270 x7_270 x8_270 x9_270 x11_270 H locs hP hD hS ls hl hf
        unfold f_L_areHands_270 at hf
        refine lv_iconst (v := 1) hx hb dL_areHands_270 (by decide) ?_
        refine lv_goto (tgt := 275) hx hb dL_areHands_271 (by decide) ?_
        exact J_275 x3_270 x4_270 x5_270 x7_270 x8_270 x9_270 x11_270 (1 : Int32) H locs hP hD hS ls (lv_sub hl [0, 1, 2, 3, 4, 5, 6, 7] rfl) hf
      have J_274 : ∀ (x3_274 : Int32) (x4_274 : Int32) (x5_274 : Int64) (x7_274 : Int32) (x8_274 : Int32) (x9_274 : Int32) (x11_274 : Int32) (H : Heap) (locs : List Loc) (_ : va_P G vwCl (tk_H c3 q S) H) (_ : va_D A (tk_H c3 q S)) (_ : va_S A s.heap H locs) (ls : Array Slot) (_ : lv_has ls 13 [(0, .ref (q 0)), (3, .int x3_274), (4, .int x4_274), (5, .long x5_274), (7, .int x7_274), (8, .int x8_274), (9, .int x9_274), (11, .int x11_274)]) (_ : f_L_areHands_274 (f_L_areHands_161 n_161) x3_274 x4_274 x5_274 x7_274 x8_274 x9_274 x11_274 S = some r0), W p l e rm_L_areHands s m ([.ref (q 0)] : List Value).toArray below meth c H locs 0 0 Q (F0 m 274 ls []) := by
        intro x3_274 x4_274 x5_274 x7_274 x8_274 x9_274 x11_274 H locs hP hD hS ls hl hf
        unfold f_L_areHands_274 at hf
        refine lv_iconst (v := 0) hx hb dL_areHands_274 (by decide) ?_
        exact J_275 x3_274 x4_274 x5_274 x7_274 x8_274 x9_274 x11_274 (0 : Int32) H locs hP hD hS ls (lv_sub hl [0, 1, 2, 3, 4, 5, 6, 7] rfl) hf
      have J_248 : ∀ (x3_248 : Int32) (x4_248 : Int32) (x5_248 : Int64) (x7_248 : Int32) (x8_248 : Int32) (x10_248 : Int32) (x11_248 : Int32) (x12_248 : Int32) (k0_248 : Int32) (H : Heap) (locs : List Loc) (_ : va_P G vwCl (tk_H c3 q S) H) (_ : va_D A (tk_H c3 q S)) (_ : va_S A s.heap H locs) (ls : Array Slot) (_ : lv_has ls 13 [(0, .ref (q 0)), (3, .int x3_248), (4, .int x4_248), (5, .long x5_248), (7, .int x7_248), (8, .int x8_248), (10, .int x10_248), (11, .int x11_248), (12, .int x12_248)]) (_ : f_L_areHands_248 (f_L_areHands_161 n_161) x3_248 x4_248 x5_248 x7_248 x8_248 x10_248 x11_248 x12_248 k0_248 S = some r0), W p l e rm_L_areHands s m ([.ref (q 0)] : List Value).toArray below meth c H locs 0 0 Q (F0 m 248 ls [.int k0_248]) := by
        intro x3_248 x4_248 x5_248 x7_248 x8_248 x10_248 x11_248 x12_248 k0_248 H locs hP hD hS ls hl hf
        unfold f_L_areHands_248 at hf
        refine lv_istore (lv' := [(9, .int k0_248), (0, .ref (q 0)), (3, .int x3_248), (4, .int x4_248), (5, .long x5_248), (7, .int x7_248), (8, .int x8_248), (10, .int x10_248), (11, .int x11_248), (12, .int x12_248)]) hx hb dL_areHands_248 hl (by decide) rfl (fun ls hl => ?_)
        refine lv_iload hx hb dL_areHands_250 (lv_at hl 7 rfl) ?_
        refine lv_if_ne (tgt := 270) hx hb dL_areHands_252 (by decide) (fun h19 => ?_) (fun h19 => ?_)
        · have hf := tk_neg hf h19
          exact J_270 x3_248 x4_248 x5_248 x7_248 x8_248 k0_248 x11_248 H locs hP hD hS ls (lv_sub hl [1, 2, 3, 4, 5, 6, 0, 8] rfl) hf
        · have hf := tk_pos hf h19
          refine lv_iload hx hb dL_areHands_255 (lv_at hl 9 rfl) ?_
          refine lv_if_eq (tgt := 274) hx hb dL_areHands_257 (by decide) (fun h20 => ?_) (fun h20 => ?_)
          · have hf := tk_pos hf h20
            exact J_274 x3_248 x4_248 x5_248 x7_248 x8_248 k0_248 x11_248 H locs hP hD hS ls (lv_sub hl [1, 2, 3, 4, 5, 6, 0, 8] rfl) hf
          · have hf := tk_neg hf h20
            refine lv_iload hx hb dL_areHands_260 (lv_at hl 8 rfl) ?_
            obtain ⟨r21, h22, hf⟩ := tk_b1s hf
            refine tk_ci (ws' := (tk_H c3 q S)) (va_runS (As := [.int x11_248]) (rest := []) ⟨hx, hb, hml, hown, hts⟩ (c_L_suit l G c3 (tk_H c3 q S) x11_248 r21 h22 H.size) (va_cwS 1 hts gL_areHands_L_suit rfl rfl rfl hs_L_suit ⟨Nat.le_of_ble_eq_true rfl, Nat.le_of_ble_eq_true rfl⟩) (tk_pS hE hP hD) rfl rfl hl.1 rfl (lv_room (Nat.le_of_ble_eq_true rfl)) dL_areHands_262 ⟨Nat.zero_le _, Nat.zero_le _⟩) hD hS hA (fun H locs hP hD hS => ?_)
            refine lv_iload hx hb dL_areHands_265 (lv_at hl 5 rfl) ?_
            refine lv_icmp_eq (tgt := 274) hx hb dL_areHands_267 (by decide) (fun h24 => ?_) (fun h24 => ?_)
            · have hf := tk_pos hf h24
              exact J_274 x3_248 x4_248 x5_248 x7_248 x8_248 k0_248 x11_248 H locs hP hD hS ls (lv_sub hl [1, 2, 3, 4, 5, 6, 0, 8] rfl) hf
            · have hf := tk_neg hf h24
              exact J_270 x3_248 x4_248 x5_248 x7_248 x8_248 k0_248 x11_248 H locs hP hD hS ls (lv_sub hl [1, 2, 3, 4, 5, 6, 0, 8] rfl) hf
      have J_243 : ∀ (x3_243 : Int32) (x4_243 : Int32) (x5_243 : Int64) (x7_243 : Int32) (x8_243 : Int32) (x10_243 : Int32) (x11_243 : Int32) (x12_243 : Int32) (H : Heap) (locs : List Loc) (_ : va_P G vwCl (tk_H c3 q S) H) (_ : va_D A (tk_H c3 q S)) (_ : va_S A s.heap H locs) (ls : Array Slot) (_ : lv_has ls 13 [(0, .ref (q 0)), (3, .int x3_243), (4, .int x4_243), (5, .long x5_243), (7, .int x7_243), (8, .int x8_243), (10, .int x10_243), (11, .int x11_243), (12, .int x12_243)]) (_ : f_L_areHands_243 (f_L_areHands_161 n_161) x3_243 x4_243 x5_243 x7_243 x8_243 x10_243 x11_243 x12_243 S = some r0), W p l e rm_L_areHands s m ([.ref (q 0)] : List Value).toArray below meth c H locs 0 0 Q (F0 m 243 ls []) := by
        intro x3_243 x4_243 x5_243 x7_243 x8_243 x10_243 x11_243 x12_243 H locs hP hD hS ls hl hf
        unfold f_L_areHands_243 at hf
        refine lv_iconst (v := 1) hx hb dL_areHands_243 (by decide) ?_
        refine lv_goto (tgt := 248) hx hb dL_areHands_244 (by decide) ?_
        exact J_248 x3_243 x4_243 x5_243 x7_243 x8_243 x10_243 x11_243 x12_243 (1 : Int32) H locs hP hD hS ls (lv_sub hl [0, 1, 2, 3, 4, 5, 6, 7, 8] rfl) hf
      have J_247 : ∀ (x3_247 : Int32) (x4_247 : Int32) (x5_247 : Int64) (x7_247 : Int32) (x8_247 : Int32) (x10_247 : Int32) (x11_247 : Int32) (x12_247 : Int32) (H : Heap) (locs : List Loc) (_ : va_P G vwCl (tk_H c3 q S) H) (_ : va_D A (tk_H c3 q S)) (_ : va_S A s.heap H locs) (ls : Array Slot) (_ : lv_has ls 13 [(0, .ref (q 0)), (3, .int x3_247), (4, .int x4_247), (5, .long x5_247), (7, .int x7_247), (8, .int x8_247), (10, .int x10_247), (11, .int x11_247), (12, .int x12_247)]) (_ : f_L_areHands_247 (f_L_areHands_161 n_161) x3_247 x4_247 x5_247 x7_247 x8_247 x10_247 x11_247 x12_247 S = some r0), W p l e rm_L_areHands s m ([.ref (q 0)] : List Value).toArray below meth c H locs 0 0 Q (F0 m 247 ls []) := by
        intro x3_247 x4_247 x5_247 x7_247 x8_247 x10_247 x11_247 x12_247 H locs hP hD hS ls hl hf
        unfold f_L_areHands_247 at hf
        refine lv_iconst (v := 0) hx hb dL_areHands_247 (by decide) ?_
        exact J_248 x3_247 x4_247 x5_247 x7_247 x8_247 x10_247 x11_247 x12_247 (0 : Int32) H locs hP hD hS ls (lv_sub hl [0, 1, 2, 3, 4, 5, 6, 7, 8] rfl) hf
      have J_216 : ∀ (x3_216 : Int32) (x5_216 : Int64) (x7_216 : Int32) (x8_216 : Int32) (x9_216 : Int32) (x10_216 : Int32) (x11_216 : Int32) (x12_216 : Int32) (k0_216 : Int32) (H : Heap) (locs : List Loc) (_ : va_P G vwCl (tk_H c3 q S) H) (_ : va_D A (tk_H c3 q S)) (_ : va_S A s.heap H locs) (ls : Array Slot) (_ : lv_has ls 13 [(0, .ref (q 0)), (3, .int x3_216), (5, .long x5_216), (7, .int x7_216), (8, .int x8_216), (9, .int x9_216), (10, .int x10_216), (11, .int x11_216), (12, .int x12_216)]) (_ : f_L_areHands_216 (f_L_areHands_161 n_161) x3_216 x5_216 x7_216 x8_216 x9_216 x10_216 x11_216 x12_216 k0_216 S = some r0), W p l e rm_L_areHands s m ([.ref (q 0)] : List Value).toArray below meth c H locs 0 0 Q (F0 m 216 ls [.int k0_216]) := by
        intro x3_216 x5_216 x7_216 x8_216 x9_216 x10_216 x11_216 x12_216 k0_216 H locs hP hD hS ls hl hf
        unfold f_L_areHands_216 at hf
        refine lv_istore (lv' := [(4, .int k0_216), (0, .ref (q 0)), (3, .int x3_216), (5, .long x5_216), (7, .int x7_216), (8, .int x8_216), (9, .int x9_216), (10, .int x10_216), (11, .int x11_216), (12, .int x12_216)]) hx hb dL_areHands_216 hl (by decide) rfl (fun ls hl => ?_)
        refine lv_iload hx hb dL_areHands_218 (lv_at hl 6 rfl) ?_
        refine lv_if_ne (tgt := 243) hx hb dL_areHands_220 (by decide) (fun h25 => ?_) (fun h25 => ?_)
        · have hf := tk_neg hf h25
          exact J_243 x3_216 k0_216 x5_216 x7_216 x8_216 x10_216 x11_216 x12_216 H locs hP hD hS ls (lv_sub hl [1, 2, 0, 3, 4, 5, 7, 8, 9] rfl) hf
        · have hf := tk_pos hf h25
          refine lv_lload hx hb dL_areHands_223 (lv_at hl 3 rfl) ?_
          refine lv_iload hx hb dL_areHands_225 (lv_at hl 8 rfl) ?_
          obtain ⟨r26, h27, hf⟩ := tk_b1s hf
          refine tk_ci (ws' := (tk_H c3 q S)) (va_runS (As := [.long x5_216, .int x11_216]) (rest := []) ⟨hx, hb, hml, hown, hts⟩ (c_L_has l G c3 (tk_H c3 q S) x5_216 x11_216 r26 h27 H.size) (va_cwS 2 hts gL_areHands_L_has rfl rfl rfl hs_L_has ⟨Nat.le_of_ble_eq_true rfl, Nat.le_of_ble_eq_true rfl⟩) (tk_pS hE hP hD) rfl rfl hl.1 rfl (lv_room (Nat.le_of_ble_eq_true rfl)) dL_areHands_227 ⟨Nat.zero_le _, Nat.zero_le _⟩) hD hS hA (fun H locs hP hD hS => ?_)
          refine lv_if_eq (tgt := 247) hx hb dL_areHands_230 (by decide) (fun h29 => ?_) (fun h29 => ?_)
          · have hf := tk_pos hf h29
            exact J_247 x3_216 k0_216 x5_216 x7_216 x8_216 x10_216 x11_216 x12_216 H locs hP hD hS ls (lv_sub hl [1, 2, 0, 3, 4, 5, 7, 8, 9] rfl) hf
          · have hf := tk_neg hf h29
            refine lv_iload hx hb dL_areHands_233 (lv_at hl 8 rfl) ?_
            obtain ⟨r30, h31, hf⟩ := tk_b1s hf
            refine tk_ci (ws' := (tk_H c3 q S)) (va_runS (As := [.int x11_216]) (rest := []) ⟨hx, hb, hml, hown, hts⟩ (c_L_suit l G c3 (tk_H c3 q S) x11_216 r30 h31 H.size) (va_cwS 1 hts gL_areHands_L_suit rfl rfl rfl hs_L_suit ⟨Nat.le_of_ble_eq_true rfl, Nat.le_of_ble_eq_true rfl⟩) (tk_pS hE hP hD) rfl rfl hl.1 rfl (lv_room (Nat.le_of_ble_eq_true rfl)) dL_areHands_235 ⟨Nat.zero_le _, Nat.zero_le _⟩) hD hS hA (fun H locs hP hD hS => ?_)
            refine lv_iload hx hb dL_areHands_238 (lv_at hl 4 rfl) ?_
            refine lv_icmp_ne (tgt := 247) hx hb dL_areHands_240 (by decide) (fun h33 => ?_) (fun h33 => ?_)
            · have hf := tk_neg hf h33
              exact J_247 x3_216 k0_216 x5_216 x7_216 x8_216 x10_216 x11_216 x12_216 H locs hP hD hS ls (lv_sub hl [1, 2, 0, 3, 4, 5, 7, 8, 9] rfl) hf
            · have hf := tk_pos hf h33
              exact J_243 x3_216 k0_216 x5_216 x7_216 x8_216 x10_216 x11_216 x12_216 H locs hP hD hS ls (lv_sub hl [1, 2, 0, 3, 4, 5, 7, 8, 9] rfl) hf
      have J_211 : ∀ (x3_211 : Int32) (x5_211 : Int64) (x7_211 : Int32) (x8_211 : Int32) (x9_211 : Int32) (x10_211 : Int32) (x11_211 : Int32) (x12_211 : Int32) (H : Heap) (locs : List Loc) (_ : va_P G vwCl (tk_H c3 q S) H) (_ : va_D A (tk_H c3 q S)) (_ : va_S A s.heap H locs) (ls : Array Slot) (_ : lv_has ls 13 [(0, .ref (q 0)), (3, .int x3_211), (5, .long x5_211), (7, .int x7_211), (8, .int x8_211), (9, .int x9_211), (10, .int x10_211), (11, .int x11_211), (12, .int x12_211)]) (_ : f_L_areHands_211 (f_L_areHands_161 n_161) x3_211 x5_211 x7_211 x8_211 x9_211 x10_211 x11_211 x12_211 S = some r0), W p l e rm_L_areHands s m ([.ref (q 0)] : List Value).toArray below meth c H locs 0 0 Q (F0 m 211 ls []) := by
        intro x3_211 x5_211 x7_211 x8_211 x9_211 x10_211 x11_211 x12_211 H locs hP hD hS ls hl hf
        unfold f_L_areHands_211 at hf
        refine lv_iconst (v := 1) hx hb dL_areHands_211 (by decide) ?_
        refine lv_goto (tgt := 216) hx hb dL_areHands_212 (by decide) ?_
        exact J_216 x3_211 x5_211 x7_211 x8_211 x9_211 x10_211 x11_211 x12_211 (1 : Int32) H locs hP hD hS ls (lv_sub hl [0, 1, 2, 3, 4, 5, 6, 7, 8] rfl) hf
      have J_215 : ∀ (x3_215 : Int32) (x5_215 : Int64) (x7_215 : Int32) (x8_215 : Int32) (x9_215 : Int32) (x10_215 : Int32) (x11_215 : Int32) (x12_215 : Int32) (H : Heap) (locs : List Loc) (_ : va_P G vwCl (tk_H c3 q S) H) (_ : va_D A (tk_H c3 q S)) (_ : va_S A s.heap H locs) (ls : Array Slot) (_ : lv_has ls 13 [(0, .ref (q 0)), (3, .int x3_215), (5, .long x5_215), (7, .int x7_215), (8, .int x8_215), (9, .int x9_215), (10, .int x10_215), (11, .int x11_215), (12, .int x12_215)]) (_ : f_L_areHands_215 (f_L_areHands_161 n_161) x3_215 x5_215 x7_215 x8_215 x9_215 x10_215 x11_215 x12_215 S = some r0), W p l e rm_L_areHands s m ([.ref (q 0)] : List Value).toArray below meth c H locs 0 0 Q (F0 m 215 ls []) := by
        intro x3_215 x5_215 x7_215 x8_215 x9_215 x10_215 x11_215 x12_215 H locs hP hD hS ls hl hf
        unfold f_L_areHands_215 at hf
        refine lv_iconst (v := 0) hx hb dL_areHands_215 (by decide) ?_
        exact J_216 x3_215 x5_215 x7_215 x8_215 x9_215 x10_215 x11_215 x12_215 (0 : Int32) H locs hP hD hS ls (lv_sub hl [0, 1, 2, 3, 4, 5, 6, 7, 8] rfl) hf
      have J_188 : ∀ (x3_188 : Int32) (x4_188 : Int32) (x5_188 : Int64) (x7_188 : Int32) (x9_188 : Int32) (x10_188 : Int32) (x11_188 : Int32) (x12_188 : Int32) (k0_188 : Int32) (k1_188 : Int32) (H : Heap) (locs : List Loc) (_ : va_P G vwCl (tk_H c3 q S) H) (_ : va_D A (tk_H c3 q S)) (_ : va_S A s.heap H locs) (ls : Array Slot) (_ : lv_has ls 13 [(0, .ref (q 0)), (3, .int x3_188), (4, .int x4_188), (5, .long x5_188), (7, .int x7_188), (9, .int x9_188), (10, .int x10_188), (11, .int x11_188), (12, .int x12_188)]) (_ : f_L_areHands_188 (f_L_areHands_161 n_161) x3_188 x4_188 x5_188 x7_188 x9_188 x10_188 x11_188 x12_188 k0_188 k1_188 S = some r0), W p l e rm_L_areHands s m ([.ref (q 0)] : List Value).toArray below meth c H locs 0 0 Q (F0 m 188 ls [.int k1_188, .int k0_188]) := by
        intro x3_188 x4_188 x5_188 x7_188 x9_188 x10_188 x11_188 x12_188 k0_188 k1_188 H locs hP hD hS ls hl hf
        unfold f_L_areHands_188 at hf
        refine lv_iadd hx hb dL_areHands_188 ?_
        refine lv_istore (lv' := [(8, .int (k0_188 + k1_188)), (0, .ref (q 0)), (3, .int x3_188), (4, .int x4_188), (5, .long x5_188), (7, .int x7_188), (9, .int x9_188), (10, .int x10_188), (11, .int x11_188), (12, .int x12_188)]) hx hb dL_areHands_189 hl (by decide) rfl (fun ls hl => ?_)
        refine lv_iload hx hb dL_areHands_191 (lv_at hl 3 rfl) ?_
        refine lv_if_eq (tgt := 215) hx hb dL_areHands_193 (by decide) (fun h34 => ?_) (fun h34 => ?_)
        · have hf := tk_pos hf h34
          exact J_215 x3_188 x5_188 x7_188 (k0_188 + k1_188) x9_188 x10_188 x11_188 x12_188 H locs hP hD hS ls (lv_sub hl [1, 2, 4, 5, 0, 6, 7, 8, 9] rfl) hf
        · have hf := tk_neg hf h34
          refine lv_iload hx hb dL_areHands_196 (lv_at hl 9 rfl) ?_
          refine lv_if_eq (tgt := 211) hx hb dL_areHands_198 (by decide) (fun h35 => ?_) (fun h35 => ?_)
          · have hf := tk_pos hf h35
            exact J_211 x3_188 x5_188 x7_188 (k0_188 + k1_188) x9_188 x10_188 x11_188 x12_188 H locs hP hD hS ls (lv_sub hl [1, 2, 4, 5, 0, 6, 7, 8, 9] rfl) hf
          · have hf := tk_neg hf h35
            refine lv_lload hx hb dL_areHands_201 (lv_at hl 4 rfl) ?_
            refine lv_iload hx hb dL_areHands_203 (lv_at hl 8 rfl) ?_
            obtain ⟨r36, h37, hf⟩ := tk_b1s hf
            refine tk_ci (ws' := (tk_H c3 q S)) (va_runS (As := [.long x5_188, .int x11_188]) (rest := []) ⟨hx, hb, hml, hown, hts⟩ (c_L_has l G c3 (tk_H c3 q S) x5_188 x11_188 r36 h37 H.size) (va_cwS 2 hts gL_areHands_L_has rfl rfl rfl hs_L_has ⟨Nat.le_of_ble_eq_true rfl, Nat.le_of_ble_eq_true rfl⟩) (tk_pS hE hP hD) rfl rfl hl.1 rfl (lv_room (Nat.le_of_ble_eq_true rfl)) dL_areHands_205 ⟨Nat.zero_le _, Nat.zero_le _⟩) hD hS hA (fun H locs hP hD hS => ?_)
            refine lv_if_eq (tgt := 215) hx hb dL_areHands_208 (by decide) (fun h39 => ?_) (fun h39 => ?_)
            · have hf := tk_pos hf h39
              exact J_215 x3_188 x5_188 x7_188 (k0_188 + k1_188) x9_188 x10_188 x11_188 x12_188 H locs hP hD hS ls (lv_sub hl [1, 2, 4, 5, 0, 6, 7, 8, 9] rfl) hf
            · have hf := tk_neg hf h39
              exact J_211 x3_188 x5_188 x7_188 (k0_188 + k1_188) x9_188 x10_188 x11_188 x12_188 H locs hP hD hS ls (lv_sub hl [1, 2, 4, 5, 0, 6, 7, 8, 9] rfl) hf
      intro x3_161 x4_161 x5_161 x7_161 x8_161 x9_161 x10_161 x11_161 H locs hP hD hS ls hl hf
      rw [f_L_areHands_161_s] at hf
      refine lv_iload hx hb dL_areHands_161 (lv_at hl 8 rfl) ?_
      refine lv_bipush (v := 54) hx hb dL_areHands_163 (by decide) ?_
      refine lv_icmp_ge (tgt := 283) hx hb dL_areHands_165 (by decide) (fun h40 => ?_) (fun h40 => ?_)
      · have hf := tk_pos hf h40
        refine lv_iload hx hb dL_areHands_283 (lv_at hl 2 rfl) ?_
        refine lv_if_eq (tgt := 343) hx hb dL_areHands_285 (by decide) (fun h41 => ?_) (fun h41 => ?_)
        · have hf := tk_pos hf h41
          refine lv_iconst (v := 0) hx hb dL_areHands_343 (by decide) ?_
          exact tk_rz hQ (tk_s1 hf) rfl (by decide) hx hb hr hlocks hP hD hS dL_areHands_344
        · have hf := tk_neg hf h41
          refine lv_iload hx hb dL_areHands_288 (lv_at hl 5 rfl) ?_
          refine lv_if_le (tgt := 343) hx hb dL_areHands_290 (by decide) (fun h42 => ?_) (fun h42 => ?_)
          · have hf := tk_pos hf h42
            refine lv_iconst (v := 0) hx hb dL_areHands_343 (by decide) ?_
            exact tk_rz hQ (tk_s1 hf) rfl (by decide) hx hb hr hlocks hP hD hS dL_areHands_344
          · have hf := tk_neg hf h42
            refine lv_iload hx hb dL_areHands_293 (lv_at hl 4 rfl) ?_
            refine lv_if_ge (tgt := 311) hx hb dL_areHands_295 (by decide) (fun h43 => ?_) (fun h43 => ?_)
            · have hf := tk_pos hf h43
              refine lv_iload hx hb dL_areHands_311 (lv_at hl 6 rfl) ?_
              refine lv_if_eq (tgt := 321) hx hb dL_areHands_313 (by decide) (fun h44 => ?_) (fun h44 => ?_)
              · have hf := tk_pos hf h44
                exact J_321 x3_161 H locs hP hD hS ls (lv_sub hl [0, 1] rfl) hf
              · have hf := tk_neg hf h44
                refine lv_iload hx hb dL_areHands_316 (lv_at hl 7 rfl) ?_
                refine lv_if_ne (tgt := 343) hx hb dL_areHands_318 (by decide) (fun h45 => ?_) (fun h45 => ?_)
                · have hf := tk_neg hf h45
                  refine lv_iconst (v := 0) hx hb dL_areHands_343 (by decide) ?_
                  exact tk_rz hQ (tk_s1 hf) rfl (by decide) hx hb hr hlocks hP hD hS dL_areHands_344
                · have hf := tk_pos hf h45
                  exact J_321 x3_161 H locs hP hD hS ls (lv_sub hl [0, 1] rfl) hf
            · have hf := tk_neg hf h43
              refine lv_iload hx hb dL_areHands_298 (lv_at hl 5 rfl) ?_
              refine lv_lload hx hb dL_areHands_300 (lv_at hl 3 rfl) ?_
              obtain ⟨r46, h47, hf⟩ := tk_b1s hf
              refine tk_ci (ws' := (tk_H c3 q S)) (va_runS (As := [.long x5_161]) (rest := [.int x8_161]) ⟨hx, hb, hml, hown, hts⟩ (c_L_bits l G c3 (tk_H c3 q S) x5_161 r46 h47 H.size) (va_cwS 1 hts gL_areHands_L_bits rfl rfl rfl hs_L_bits ⟨Nat.le_of_ble_eq_true rfl, Nat.le_of_ble_eq_true rfl⟩) (tk_pS hE hP hD) rfl rfl hl.1 rfl (lv_room (Nat.le_of_ble_eq_true rfl)) dL_areHands_302 ⟨Nat.zero_le _, Nat.zero_le _⟩) hD hS hA (fun H locs hP hD hS => ?_)
              refine lv_icmp_ne (tgt := 343) hx hb dL_areHands_305 (by decide) (fun h49 => ?_) (fun h49 => ?_)
              · have hf := tk_neg hf h49
                refine lv_iconst (v := 0) hx hb dL_areHands_343 (by decide) ?_
                exact tk_rz hQ (tk_s1 hf) rfl (by decide) hx hb hr hlocks hP hD hS dL_areHands_344
              · have hf := tk_pos hf h49
                refine lv_goto (tgt := 321) hx hb dL_areHands_308 (by decide) ?_
                exact J_321 x3_161 H locs hP hD hS ls (lv_sub hl [0, 1] rfl) hf
      · have hf := tk_neg hf h40
        refine lv_aload_n hx hb dL_areHands_168 rfl (lv_at hl 0 rfl) ?_
        refine lv_iload hx hb dL_areHands_169 (lv_at hl 8 rfl) ?_
        obtain ⟨r50, h51, hf⟩ := tk_b1s hf
        refine tk_ci (ws' := (tk_H c3 q S)) (va_runV (As := [.int x11_161]) (rest := []) ⟨hx, hb, hml, hown, hts⟩ (c0_X6_canPlay l G c3 q S x11_161 r50 h51 H.size) (cwV 1 hts gL_areHands_X6_canPlay rfl rfl rfl hv_X6_canPlay ⟨Nat.le_of_ble_eq_true rfl, Nat.le_of_ble_eq_true rfl⟩) (tk_pV hE hP hD 0 rfl rfl) rfl rfl hl.1 rfl (lv_room (Nat.le_of_ble_eq_true rfl)) dL_areHands_171 ⟨Nat.zero_le _, Nat.zero_le _⟩) hD hS hA (fun H locs hP hD hS => ?_)
        refine lv_istore (lv' := [(12, .int r50), (0, .ref (q 0)), (3, .int x3_161), (4, .int x4_161), (5, .long x5_161), (7, .int x7_161), (8, .int x8_161), (9, .int x9_161), (10, .int x10_161), (11, .int x11_161)]) hx hb dL_areHands_174 hl (by decide) rfl (fun ls hl => ?_)
        refine lv_iload hx hb dL_areHands_176 (lv_at hl 6 rfl) ?_
        refine lv_iload hx hb dL_areHands_178 (lv_at hl 0 rfl) ?_
        refine lv_if_eq (tgt := 187) hx hb dL_areHands_180 (by decide) (fun h53 => ?_) (fun h53 => ?_)
        · have hf := tk_pos hf h53
          refine lv_iconst (v := 0) hx hb dL_areHands_187 (by decide) ?_
          exact J_188 x3_161 x4_161 x5_161 x7_161 x9_161 x10_161 x11_161 r50 x8_161 (0 : Int32) H locs hP hD hS ls (lv_sub hl [1, 2, 3, 4, 5, 7, 8, 9, 0] rfl) hf
        · have hf := tk_neg hf h53
          refine lv_iconst (v := 1) hx hb dL_areHands_183 (by decide) ?_
          refine lv_goto (tgt := 188) hx hb dL_areHands_184 (by decide) ?_
          exact J_188 x3_161 x4_161 x5_161 x7_161 x9_161 x10_161 x11_161 r50 x8_161 (1 : Int32) H locs hP hD hS ls (lv_sub hl [1, 2, 3, 4, 5, 7, 8, 9, 0] rfl) hf
  have J_147 : ∀ (x3_147 : Int32) (x4_147 : Int32) (x5_147 : Int64) (k0_147 : Int32) (H : Heap) (locs : List Loc) (_ : va_P G vwCl (tk_H c3 q S) H) (_ : va_D A (tk_H c3 q S)) (_ : va_S A s.heap H locs) (ls : Array Slot) (_ : lv_has ls 13 [(0, .ref (q 0)), (3, .int x3_147), (4, .int x4_147), (5, .long x5_147)]) (_ : f_L_areHands_147 x3_147 x4_147 x5_147 k0_147 S = some r0), W p l e rm_L_areHands s m ([.ref (q 0)] : List Value).toArray below meth c H locs 0 0 Q (F0 m 147 ls [.int k0_147]) := by
    intro x3_147 x4_147 x5_147 k0_147 H locs hP hD hS ls hl hf
    unfold f_L_areHands_147 at hf
    refine lv_istore (lv' := [(7, .int k0_147), (0, .ref (q 0)), (3, .int x3_147), (4, .int x4_147), (5, .long x5_147)]) hx hb dL_areHands_147 hl (by decide) rfl (fun ls hl => ?_)
    refine lv_iconst (v := 0) hx hb dL_areHands_149 (by decide) ?_
    refine lv_istore (lv' := [(8, .int (0 : Int32)), (7, .int k0_147), (0, .ref (q 0)), (3, .int x3_147), (4, .int x4_147), (5, .long x5_147)]) hx hb dL_areHands_150 hl (by decide) rfl (fun ls hl => ?_)
    refine lv_iconst (v := 0) hx hb dL_areHands_152 (by decide) ?_
    refine lv_istore (lv' := [(9, .int (0 : Int32)), (8, .int (0 : Int32)), (7, .int k0_147), (0, .ref (q 0)), (3, .int x3_147), (4, .int x4_147), (5, .long x5_147)]) hx hb dL_areHands_153 hl (by decide) rfl (fun ls hl => ?_)
    refine lv_iconst (v := 0) hx hb dL_areHands_155 (by decide) ?_
    refine lv_istore (lv' := [(10, .int (0 : Int32)), (9, .int (0 : Int32)), (8, .int (0 : Int32)), (7, .int k0_147), (0, .ref (q 0)), (3, .int x3_147), (4, .int x4_147), (5, .long x5_147)]) hx hb dL_areHands_156 hl (by decide) rfl (fun ls hl => ?_)
    refine lv_iconst (v := 0) hx hb dL_areHands_158 (by decide) ?_
    refine lv_istore (lv' := [(11, .int (0 : Int32)), (10, .int (0 : Int32)), (9, .int (0 : Int32)), (8, .int (0 : Int32)), (7, .int k0_147), (0, .ref (q 0)), (3, .int x3_147), (4, .int x4_147), (5, .long x5_147)]) hx hb dL_areHands_159 hl (by decide) rfl (fun ls hl => ?_)
    exact J_161 64 x3_147 x4_147 x5_147 k0_147 (0 : Int32) (0 : Int32) (0 : Int32) (0 : Int32) H locs hP hD hS ls (lv_sub hl [5, 6, 7, 8, 4, 3, 2, 1, 0] rfl) hf
  have J_53 : ∀ (x3_53 : Int32) (k0_53 : Int32) (H : Heap) (locs : List Loc) (_ : va_P G vwCl (tk_H c3 q S) H) (_ : va_D A (tk_H c3 q S)) (_ : va_S A s.heap H locs) (ls : Array Slot) (_ : lv_has ls 13 [(0, .ref (q 0)), (3, .int x3_53)]) (_ : f_L_areHands_53 x3_53 k0_53 S = some r0), W p l e rm_L_areHands s m ([.ref (q 0)] : List Value).toArray below meth c H locs 0 0 Q (F0 m 53 ls [.int k0_53]) := by
    intro x3_53 k0_53 H locs hP hD hS ls hl hf
    unfold f_L_areHands_53 at hf
    refine lv_istore (lv' := [(4, .int k0_53), (0, .ref (q 0)), (3, .int x3_53)]) hx hb dL_areHands_53 hl (by decide) rfl (fun ls hl => ?_)
    refine lv_aload_n hx hb dL_areHands_55 rfl (lv_at hl 1 rfl) ?_
    obtain ⟨r54, h55, hf⟩ := tk_b1s hf
    refine tk_ci (ws' := (tk_H c3 q S)) (va_runV (As := []) (rest := []) ⟨hx, hb, hml, hown, hts⟩ (c_X6_phase l G c3 q S r54 h55 H.size) (cwV 0 hts gL_areHands_X6_phase rfl rfl rfl hv_X6_phase ⟨Nat.le_of_ble_eq_true rfl, Nat.le_of_ble_eq_true rfl⟩) (tk_pV hE hP hD 0 rfl rfl) rfl rfl hl.1 rfl (lv_room (Nat.le_of_ble_eq_true rfl)) dL_areHands_56 ⟨Nat.zero_le _, Nat.zero_le _⟩) hD hS hA (fun H locs hP hD hS => ?_)
    refine lv_iconst (v := 5) hx hb dL_areHands_59 (by decide) ?_
    refine lv_icmp_eq (tgt := 118) hx hb dL_areHands_60 (by decide) (fun h57 => ?_) (fun h57 => ?_)
    · have hf := tk_pos hf h57
      refine lv_aload_n hx hb dL_areHands_118 rfl (lv_at hl 1 rfl) ?_
      refine lv_aload_n hx hb dL_areHands_119 rfl (lv_at hl 1 rfl) ?_
      obtain ⟨r58, h59, hf⟩ := tk_b1s hf
      refine tk_ci (ws' := (tk_H c3 q S)) (va_runV (As := []) (rest := [.ref (q 0)]) ⟨hx, hb, hml, hown, hts⟩ (c_X6_turn l G c3 q S r58 h59 H.size) (cwV 0 hts gL_areHands_X6_turn rfl rfl rfl hv_X6_turn ⟨Nat.le_of_ble_eq_true rfl, Nat.le_of_ble_eq_true rfl⟩) (tk_pV hE hP hD 0 rfl rfl) rfl rfl hl.1 rfl (lv_room (Nat.le_of_ble_eq_true rfl)) dL_areHands_120 ⟨Nat.zero_le _, Nat.zero_le _⟩) hD hS hA (fun H locs hP hD hS => ?_)
      obtain ⟨r61, h62, hf⟩ := tk_b1s hf
      refine tk_cl (ws' := (tk_H c3 q S)) (va_runV (As := [.int r58]) (rest := []) ⟨hx, hb, hml, hown, hts⟩ (c0_X6_hand l G c3 q S r58 r61 h62 H.size) (cwV 1 hts gL_areHands_X6_hand rfl rfl rfl hv_X6_hand ⟨Nat.le_of_ble_eq_true rfl, Nat.le_of_ble_eq_true rfl⟩) (tk_pV hE hP hD 0 rfl rfl) rfl rfl hl.1 rfl (lv_room (Nat.le_of_ble_eq_true rfl)) dL_areHands_123 ⟨Nat.zero_le _, Nat.zero_le _⟩) hD hS hA (fun H locs hP hD hS => ?_)
      refine lv_lstore (lv' := [(5, .long r61), (4, .int k0_53), (0, .ref (q 0)), (3, .int x3_53)]) hx hb dL_areHands_126 hl (by decide) rfl (fun ls hl => ?_)
      refine lv_aload_n hx hb dL_areHands_128 rfl (lv_at hl 2 rfl) ?_
      obtain ⟨r64, h65, hf⟩ := tk_b1s hf
      refine tk_ci (ws' := (tk_H c3 q S)) (va_runV (As := []) (rest := []) ⟨hx, hb, hml, hown, hts⟩ (c_X6_inTrick l G c3 q S r64 h65 H.size) (cwV 0 hts gL_areHands_X6_inTrick rfl rfl rfl hv_X6_inTrick ⟨Nat.le_of_ble_eq_true rfl, Nat.le_of_ble_eq_true rfl⟩) (tk_pV hE hP hD 0 rfl rfl) rfl rfl hl.1 rfl (lv_room (Nat.le_of_ble_eq_true rfl)) dL_areHands_129 ⟨Nat.zero_le _, Nat.zero_le _⟩) hD hS hA (fun H locs hP hD hS => ?_)
      refine lv_if_ne (tgt := 139) hx hb dL_areHands_132 (by decide) (fun h67 => ?_) (fun h67 => ?_)
      · have hf := tk_neg hf h67
        refine lv_aload_n hx hb dL_areHands_139 rfl (lv_at hl 2 rfl) ?_
        refine lv_iconst (v := 0) hx hb dL_areHands_140 (by decide) ?_
        obtain ⟨r68, h69, hf⟩ := tk_b1s hf
        refine tk_ci (ws' := (tk_H c3 q S)) (va_runV (As := [.int (0 : Int32)]) (rest := []) ⟨hx, hb, hml, hown, hts⟩ (c0_X6_trickAt l G c3 q S (0 : Int32) r68 h69 H.size) (cwV 1 hts gL_areHands_X6_trickAt rfl rfl rfl hv_X6_trickAt ⟨Nat.le_of_ble_eq_true rfl, Nat.le_of_ble_eq_true rfl⟩) (tk_pV hE hP hD 0 rfl rfl) rfl rfl hl.1 rfl (lv_room (Nat.le_of_ble_eq_true rfl)) dL_areHands_141 ⟨Nat.zero_le _, Nat.zero_le _⟩) hD hS hA (fun H locs hP hD hS => ?_)
        obtain ⟨r71, h72, hf⟩ := tk_b1s hf
        refine tk_ci (ws' := (tk_H c3 q S)) (va_runS (As := [.int r68]) (rest := []) ⟨hx, hb, hml, hown, hts⟩ (c_L_suit l G c3 (tk_H c3 q S) r68 r71 h72 H.size) (va_cwS 1 hts gL_areHands_L_suit rfl rfl rfl hs_L_suit ⟨Nat.le_of_ble_eq_true rfl, Nat.le_of_ble_eq_true rfl⟩) (tk_pS hE hP hD) rfl rfl hl.1 rfl (lv_room (Nat.le_of_ble_eq_true rfl)) dL_areHands_144 ⟨Nat.zero_le _, Nat.zero_le _⟩) hD hS hA (fun H locs hP hD hS => ?_)
        exact J_147 x3_53 k0_53 r61 r71 H locs hP hD hS ls (lv_sub hl [2, 3, 1, 0] rfl) hf
      · have hf := tk_pos hf h67
        refine lv_iconst (v := -1) hx hb dL_areHands_135 (by decide) ?_
        refine lv_goto (tgt := 147) hx hb dL_areHands_136 (by decide) ?_
        exact J_147 x3_53 k0_53 r61 (-1 : Int32) H locs hP hD hS ls (lv_sub hl [2, 3, 1, 0] rfl) hf
    · have hf := tk_neg hf h57
      refine lv_iconst (v := 0) hx hb dL_areHands_63 (by decide) ?_
      refine lv_istore (lv' := [(5, .int (0 : Int32)), (4, .int k0_53), (0, .ref (q 0)), (3, .int x3_53)]) hx hb dL_areHands_64 hl (by decide) rfl (fun ls hl => ?_)
      exact J_66 64 k0_53 (0 : Int32) H locs hP hD hS ls (lv_sub hl [2, 1, 0] rfl) hf
  have J_7 : ∀ (n_7 : Nat), ∀ (x1_7 : Int64) (x3_7 : Int32) (x4_7 : Int32) (H : Heap) (locs : List Loc) (_ : va_P G vwCl (tk_H c3 q S) H) (_ : va_D A (tk_H c3 q S)) (_ : va_S A s.heap H locs) (ls : Array Slot) (_ : lv_has ls 13 [(0, .ref (q 0)), (1, .long x1_7), (3, .int x3_7), (4, .int x4_7)]) (_ : f_L_areHands_7 n_7 x1_7 x3_7 x4_7 S = some r0), W p l e rm_L_areHands s m ([.ref (q 0)] : List Value).toArray below meth c H locs 0 0 Q (F0 m 7 ls []) := by
    intro n_7
    induction n_7 with
    | zero =>
      intro x1_7 x3_7 x4_7 H locs hP hD hS ls hl hf
      exact absurd hf (by intro h9; cases h9)
    | succ n_7 ih_7 =>
      intro x1_7 x3_7 x4_7 H locs hP hD hS ls hl hf
      rw [f_L_areHands_7_s] at hf
      refine lv_iload hx hb dL_areHands_7 (lv_at hl 3 rfl) ?_
      refine lv_iconst (v := 4) hx hb dL_areHands_9 (by decide) ?_
      refine lv_icmp_ge (tgt := 40) hx hb dL_areHands_10 (by decide) (fun h74 => ?_) (fun h74 => ?_)
      · have hf := tk_pos hf h74
        refine lv_lload_n hx hb dL_areHands_40 rfl (lv_at hl 1 rfl) ?_
        obtain ⟨r75, h76, hf⟩ := tk_b1s hf
        refine tk_ci (ws' := (tk_H c3 q S)) (va_runS (As := [.long x1_7]) (rest := []) ⟨hx, hb, hml, hown, hts⟩ (c_L_bits l G c3 (tk_H c3 q S) x1_7 r75 h76 H.size) (va_cwS 1 hts gL_areHands_L_bits rfl rfl rfl hs_L_bits ⟨Nat.le_of_ble_eq_true rfl, Nat.le_of_ble_eq_true rfl⟩) (tk_pS hE hP hD) rfl rfl hl.1 rfl (lv_room (Nat.le_of_ble_eq_true rfl)) dL_areHands_41 ⟨Nat.zero_le _, Nat.zero_le _⟩) hD hS hA (fun H locs hP hD hS => ?_)
        refine lv_iload_n hx hb dL_areHands_44 rfl (lv_at hl 2 rfl) ?_
        refine lv_icmp_ne (tgt := 52) hx hb dL_areHands_45 (by decide) (fun h78 => ?_) (fun h78 => ?_)
        · have hf := tk_neg hf h78
          refine lv_iconst (v := 0) hx hb dL_areHands_52 (by decide) ?_
          exact J_53 x3_7 (0 : Int32) H locs hP hD hS ls (lv_sub hl [0, 2] rfl) hf
        · have hf := tk_pos hf h78
          refine lv_iconst (v := 1) hx hb dL_areHands_48 (by decide) ?_
          refine lv_goto (tgt := 53) hx hb dL_areHands_49 (by decide) ?_
          exact J_53 x3_7 (1 : Int32) H locs hP hD hS ls (lv_sub hl [0, 2] rfl) hf
      · have hf := tk_neg hf h74
        refine lv_lload_n hx hb dL_areHands_13 rfl (lv_at hl 1 rfl) ?_
        refine lv_aload_n hx hb dL_areHands_14 rfl (lv_at hl 0 rfl) ?_
        refine lv_iload hx hb dL_areHands_15 (lv_at hl 3 rfl) ?_
        obtain ⟨r79, h80, hf⟩ := tk_b1s hf
        refine tk_cl (ws' := (tk_H c3 q S)) (va_runV (As := [.int x4_7]) (rest := [.long x1_7]) ⟨hx, hb, hml, hown, hts⟩ (c0_X6_hand l G c3 q S x4_7 r79 h80 H.size) (cwV 1 hts gL_areHands_X6_hand rfl rfl rfl hv_X6_hand ⟨Nat.le_of_ble_eq_true rfl, Nat.le_of_ble_eq_true rfl⟩) (tk_pV hE hP hD 0 rfl rfl) rfl rfl hl.1 rfl (lv_room (Nat.le_of_ble_eq_true rfl)) dL_areHands_17 ⟨Nat.zero_le _, Nat.zero_le _⟩) hD hS hA (fun H locs hP hD hS => ?_)
        refine lv_lor hx hb dL_areHands_20 ?_
        refine lv_lstore_n (lv' := [(1, .long (x1_7 ||| r79)), (0, .ref (q 0)), (3, .int x3_7), (4, .int x4_7)]) hx hb dL_areHands_21 rfl hl (by decide) rfl (fun ls hl => ?_)
        refine lv_iload_n hx hb dL_areHands_22 rfl (lv_at hl 2 rfl) ?_
        refine lv_aload_n hx hb dL_areHands_23 rfl (lv_at hl 1 rfl) ?_
        refine lv_iload hx hb dL_areHands_24 (lv_at hl 3 rfl) ?_
        obtain ⟨r82, h83, hf⟩ := tk_b1s hf
        refine tk_cl (ws' := (tk_H c3 q S)) (va_runV (As := [.int x4_7]) (rest := [.int x3_7]) ⟨hx, hb, hml, hown, hts⟩ (c0_X6_hand l G c3 q S x4_7 r82 h83 H.size) (cwV 1 hts gL_areHands_X6_hand rfl rfl rfl hv_X6_hand ⟨Nat.le_of_ble_eq_true rfl, Nat.le_of_ble_eq_true rfl⟩) (tk_pV hE hP hD 0 rfl rfl) rfl rfl hl.1 rfl (lv_room (Nat.le_of_ble_eq_true rfl)) dL_areHands_26 ⟨Nat.zero_le _, Nat.zero_le _⟩) hD hS hA (fun H locs hP hD hS => ?_)
        obtain ⟨r85, h86, hf⟩ := tk_b1s hf
        refine tk_ci (ws' := (tk_H c3 q S)) (va_runS (As := [.long r82]) (rest := [.int x3_7]) ⟨hx, hb, hml, hown, hts⟩ (c_L_bits l G c3 (tk_H c3 q S) r82 r85 h86 H.size) (va_cwS 1 hts gL_areHands_L_bits rfl rfl rfl hs_L_bits ⟨Nat.le_of_ble_eq_true rfl, Nat.le_of_ble_eq_true rfl⟩) (tk_pS hE hP hD) rfl rfl hl.1 rfl (lv_room (Nat.le_of_ble_eq_true rfl)) dL_areHands_29 ⟨Nat.zero_le _, Nat.zero_le _⟩) hD hS hA (fun H locs hP hD hS => ?_)
        refine lv_iadd hx hb dL_areHands_32 ?_
        refine lv_istore_n (lv' := [(3, .int (x3_7 + r85)), (1, .long (x1_7 ||| r79)), (0, .ref (q 0)), (4, .int x4_7)]) hx hb dL_areHands_33 rfl hl (by decide) rfl (fun ls hl => ?_)
        refine lv_iinc (v := (x4_7 + (1 : Int32))) (lv' := [(4, .int (x4_7 + (1 : Int32))), (3, .int (x3_7 + r85)), (1, .long (x1_7 ||| r79)), (0, .ref (q 0))]) hx hb dL_areHands_34 hl (k := 3) rfl rfl (by decide) rfl (fun ls hl => ?_)
        refine lv_goto (tgt := 7) hx hb dL_areHands_37 (by decide) ?_
        exact ih_7 (x1_7 ||| r79) (x3_7 + r85) (x4_7 + (1 : Int32)) H locs hP hD hS ls (lv_sub hl [3, 2, 1, 0] rfl) hf
  unfold f_L_areHands at hf
  refine lv_lconst (v := 0) hx hb dL_areHands_0 (by decide) ?_
  refine lv_lstore_n (lv' := [(1, .long (0 : Int64)), (0, .ref (q 0))]) hx hb dL_areHands_1 rfl hl (by decide) rfl (fun ls hl => ?_)
  refine lv_iconst (v := 0) hx hb dL_areHands_2 (by decide) ?_
  refine lv_istore_n (lv' := [(3, .int (0 : Int32)), (1, .long (0 : Int64)), (0, .ref (q 0))]) hx hb dL_areHands_3 rfl hl (by decide) rfl (fun ls hl => ?_)
  refine lv_iconst (v := 0) hx hb dL_areHands_4 (by decide) ?_
  refine lv_istore (lv' := [(4, .int (0 : Int32)), (3, .int (0 : Int32)), (1, .long (0 : Int64)), (0, .ref (q 0))]) hx hb dL_areHands_5 hl (by decide) rfl (fun ls hl => ?_)
  exact J_7 64 (0 : Int64) (0 : Int32) (0 : Int32) H locs hP hD hS ls (lv_sub hl [3, 2, 1, 0] rfl) hf
abbrev rm_L_areSides : Room := { frames := 4, cells := 0, slots := 0, locals := 87 }
set_option maxHeartbeats 4000000 in
set_option maxRecDepth 100000 in
theorem c_L_areSides (l : Launch) (G : va_G) (c3 : ClassId × ClassId × ClassId) (q : Nat → Nat) (S : tk_ST) (r0 : Int32) (hf : f_L_areSides S = some r0) : tk_Mi l yL_areSides wsL_areSides rm_L_areSides G c3 [.ref (q 0)] (tk_H c3 q S) (tk_H c3 q S) r0 := by
  refine tk_ofi (cc := cL_areSides) (maxL := 7) (ret := some .boolean) (by decide) rfl (Nat.le_of_ble_eq_true rfl) ?_
  intro p e s m below meth c A Q ls H locs hx hb hml hr hts hown hlocks hE hA hP hD hS hZ hQ hl
  have hl : lv_has ls 7 [(0, .ref (q 0))] := hl
  have hown : s.vm.findClass RL = some m.cls := hown
  have J_268 : ∀ (H : Heap) (locs : List Loc) (_ : va_P G vwCl (tk_H c3 q S) H) (_ : va_D A (tk_H c3 q S)) (_ : va_S A s.heap H locs) (ls : Array Slot) (_ : lv_has ls 7 []) (_ : f_L_areSides_268 S = some r0), W p l e rm_L_areSides s m ([.ref (q 0)] : List Value).toArray below meth c H locs 0 0 Q (F0 m 268 ls []) := by
    intro  H locs hP hD hS ls hl hf
    unfold f_L_areSides_268 at hf
    refine lv_iconst (v := 1) hx hb dL_areSides_268 (by decide) ?_
    refine lv_goto (tgt := 273) hx hb dL_areSides_269 (by decide) ?_
    exact tk_rz hQ (tk_s1 hf) rfl (by decide) hx hb hr hlocks hP hD hS dL_areSides_273
  have J_253 : ∀ (H : Heap) (locs : List Loc) (_ : va_P G vwCl (tk_H c3 q S) H) (_ : va_D A (tk_H c3 q S)) (_ : va_S A s.heap H locs) (ls : Array Slot) (_ : lv_has ls 7 [(0, .ref (q 0))]) (_ : f_L_areSides_253 S = some r0), W p l e rm_L_areSides s m ([.ref (q 0)] : List Value).toArray below meth c H locs 0 0 Q (F0 m 253 ls []) := by
    intro  H locs hP hD hS ls hl hf
    unfold f_L_areSides_253 at hf
    refine lv_aload_n hx hb dL_areSides_253 rfl (lv_at hl 0 rfl) ?_
    obtain ⟨r1, h2, hf⟩ := tk_b1s hf
    refine tk_ci (ws' := (tk_H c3 q S)) (va_runV (As := []) (rest := []) ⟨hx, hb, hml, hown, hts⟩ (c_X6_called l G c3 q S r1 h2 H.size) (cwV 0 hts gL_areSides_X6_called rfl rfl rfl hv_X6_called ⟨Nat.le_of_ble_eq_true rfl, Nat.le_of_ble_eq_true rfl⟩) (tk_pV hE hP hD 0 rfl rfl) rfl rfl hl.1 rfl (lv_room (Nat.le_of_ble_eq_true rfl)) dL_areSides_254 ⟨Nat.zero_le _, Nat.zero_le _⟩) hD hS hA (fun H locs hP hD hS => ?_)
    refine lv_if_lt (tgt := 268) hx hb dL_areSides_257 (by decide) (fun h4 => ?_) (fun h4 => ?_)
    · have hf := tk_pos hf h4
      exact J_268 H locs hP hD hS ls (lv_sub hl [] rfl) hf
    · have hf := tk_neg hf h4
      refine lv_aload_n hx hb dL_areSides_260 rfl (lv_at hl 0 rfl) ?_
      obtain ⟨r5, h6, hf⟩ := tk_b1s hf
      refine tk_ci (ws' := (tk_H c3 q S)) (va_runV (As := []) (rest := []) ⟨hx, hb, hml, hown, hts⟩ (c_X6_level l G c3 q S r5 h6 H.size) (cwV 0 hts gL_areSides_X6_level rfl rfl rfl hv_X6_level ⟨Nat.le_of_ble_eq_true rfl, Nat.le_of_ble_eq_true rfl⟩) (tk_pV hE hP hD 0 rfl rfl) rfl rfl hl.1 rfl (lv_room (Nat.le_of_ble_eq_true rfl)) dL_areSides_261 ⟨Nat.zero_le _, Nat.zero_le _⟩) hD hS hA (fun H locs hP hD hS => ?_)
      refine lv_iconst (v := 4) hx hb dL_areSides_264 (by decide) ?_
      refine lv_icmp_ge (tgt := 272) hx hb dL_areSides_265 (by decide) (fun h8 => ?_) (fun h8 => ?_)
      · have hf := tk_pos hf h8
        refine lv_iconst (v := 0) hx hb dL_areSides_272 (by decide) ?_
        exact tk_rz hQ (tk_s1 hf) rfl (by decide) hx hb hr hlocks hP hD hS dL_areSides_273
      · have hf := tk_neg hf h8
        exact J_268 H locs hP hD hS ls (lv_sub hl [] rfl) hf
  have J_239 : ∀ (H : Heap) (locs : List Loc) (_ : va_P G vwCl (tk_H c3 q S) H) (_ : va_D A (tk_H c3 q S)) (_ : va_S A s.heap H locs) (ls : Array Slot) (_ : lv_has ls 7 [(0, .ref (q 0))]) (_ : f_L_areSides_239 S = some r0), W p l e rm_L_areSides s m ([.ref (q 0)] : List Value).toArray below meth c H locs 0 0 Q (F0 m 239 ls []) := by
    intro  H locs hP hD hS ls hl hf
    unfold f_L_areSides_239 at hf
    refine lv_aload_n hx hb dL_areSides_239 rfl (lv_at hl 0 rfl) ?_
    obtain ⟨r9, h10, hf⟩ := tk_b1s hf
    refine tk_ci (ws' := (tk_H c3 q S)) (va_runV (As := []) (rest := []) ⟨hx, hb, hml, hown, hts⟩ (c_X6_declarer l G c3 q S r9 h10 H.size) (cwV 0 hts gL_areSides_X6_declarer rfl rfl rfl hv_X6_declarer ⟨Nat.le_of_ble_eq_true rfl, Nat.le_of_ble_eq_true rfl⟩) (tk_pV hE hP hD 0 rfl rfl) rfl rfl hl.1 rfl (lv_room (Nat.le_of_ble_eq_true rfl)) dL_areSides_240 ⟨Nat.zero_le _, Nat.zero_le _⟩) hD hS hA (fun H locs hP hD hS => ?_)
    refine lv_if_lt (tgt := 253) hx hb dL_areSides_243 (by decide) (fun h12 => ?_) (fun h12 => ?_)
    · have hf := tk_pos hf h12
      exact J_253 H locs hP hD hS ls (lv_sub hl [0] rfl) hf
    · have hf := tk_neg hf h12
      refine lv_aload_n hx hb dL_areSides_246 rfl (lv_at hl 0 rfl) ?_
      obtain ⟨r13, h14, hf⟩ := tk_b1s hf
      refine tk_ci (ws' := (tk_H c3 q S)) (va_runV (As := []) (rest := []) ⟨hx, hb, hml, hown, hts⟩ (c_X6_level l G c3 q S r13 h14 H.size) (cwV 0 hts gL_areSides_X6_level rfl rfl rfl hv_X6_level ⟨Nat.le_of_ble_eq_true rfl, Nat.le_of_ble_eq_true rfl⟩) (tk_pV hE hP hD 0 rfl rfl) rfl rfl hl.1 rfl (lv_room (Nat.le_of_ble_eq_true rfl)) dL_areSides_247 ⟨Nat.zero_le _, Nat.zero_le _⟩) hD hS hA (fun H locs hP hD hS => ?_)
      refine lv_if_le (tgt := 272) hx hb dL_areSides_250 (by decide) (fun h16 => ?_) (fun h16 => ?_)
      · have hf := tk_pos hf h16
        refine lv_iconst (v := 0) hx hb dL_areSides_272 (by decide) ?_
        exact tk_rz hQ (tk_s1 hf) rfl (by decide) hx hb hr hlocks hP hD hS dL_areSides_273
      · have hf := tk_neg hf h16
        exact J_253 H locs hP hD hS ls (lv_sub hl [0] rfl) hf
  have J_210 : ∀ (x2_210 : Int32) (H : Heap) (locs : List Loc) (_ : va_P G vwCl (tk_H c3 q S) H) (_ : va_D A (tk_H c3 q S)) (_ : va_S A s.heap H locs) (ls : Array Slot) (_ : lv_has ls 7 [(0, .ref (q 0)), (2, .int x2_210)]) (_ : f_L_areSides_210 x2_210 S = some r0), W p l e rm_L_areSides s m ([.ref (q 0)] : List Value).toArray below meth c H locs 0 0 Q (F0 m 210 ls []) := by
    intro x2_210 H locs hP hD hS ls hl hf
    unfold f_L_areSides_210 at hf
    refine lv_iload_n hx hb dL_areSides_210 rfl (lv_at hl 1 rfl) ?_
    refine lv_if_eq (tgt := 272) hx hb dL_areSides_211 (by decide) (fun h17 => ?_) (fun h17 => ?_)
    · have hf := tk_pos hf h17
      refine lv_iconst (v := 0) hx hb dL_areSides_272 (by decide) ?_
      exact tk_rz hQ (tk_s1 hf) rfl (by decide) hx hb hr hlocks hP hD hS dL_areSides_273
    · have hf := tk_neg hf h17
      refine lv_aload_n hx hb dL_areSides_214 rfl (lv_at hl 0 rfl) ?_
      obtain ⟨r18, h19, hf⟩ := tk_b1s hf
      refine tk_ci (ws' := (tk_H c3 q S)) (va_runV (As := []) (rest := []) ⟨hx, hb, hml, hown, hts⟩ (c_X6_partner l G c3 q S r18 h19 H.size) (cwV 0 hts gL_areSides_X6_partner rfl rfl rfl hv_X6_partner ⟨Nat.le_of_ble_eq_true rfl, Nat.le_of_ble_eq_true rfl⟩) (tk_pV hE hP hD 0 rfl rfl) rfl rfl hl.1 rfl (lv_room (Nat.le_of_ble_eq_true rfl)) dL_areSides_215 ⟨Nat.zero_le _, Nat.zero_le _⟩) hD hS hA (fun H locs hP hD hS => ?_)
      refine lv_if_lt (tgt := 239) hx hb dL_areSides_218 (by decide) (fun h21 => ?_) (fun h21 => ?_)
      · have hf := tk_pos hf h21
        exact J_239 H locs hP hD hS ls (lv_sub hl [0] rfl) hf
      · have hf := tk_neg hf h21
        refine lv_aload_n hx hb dL_areSides_221 rfl (lv_at hl 0 rfl) ?_
        obtain ⟨r22, h23, hf⟩ := tk_b1s hf
        refine tk_ci (ws' := (tk_H c3 q S)) (va_runV (As := []) (rest := []) ⟨hx, hb, hml, hown, hts⟩ (c_X6_called l G c3 q S r22 h23 H.size) (cwV 0 hts gL_areSides_X6_called rfl rfl rfl hv_X6_called ⟨Nat.le_of_ble_eq_true rfl, Nat.le_of_ble_eq_true rfl⟩) (tk_pV hE hP hD 0 rfl rfl) rfl rfl hl.1 rfl (lv_room (Nat.le_of_ble_eq_true rfl)) dL_areSides_222 ⟨Nat.zero_le _, Nat.zero_le _⟩) hD hS hA (fun H locs hP hD hS => ?_)
        refine lv_if_lt (tgt := 272) hx hb dL_areSides_225 (by decide) (fun h25 => ?_) (fun h25 => ?_)
        · have hf := tk_pos hf h25
          refine lv_iconst (v := 0) hx hb dL_areSides_272 (by decide) ?_
          exact tk_rz hQ (tk_s1 hf) rfl (by decide) hx hb hr hlocks hP hD hS dL_areSides_273
        · have hf := tk_neg hf h25
          refine lv_aload_n hx hb dL_areSides_228 rfl (lv_at hl 0 rfl) ?_
          obtain ⟨r26, h27, hf⟩ := tk_b1s hf
          refine tk_ci (ws' := (tk_H c3 q S)) (va_runV (As := []) (rest := []) ⟨hx, hb, hml, hown, hts⟩ (c_X6_partner l G c3 q S r26 h27 H.size) (cwV 0 hts gL_areSides_X6_partner rfl rfl rfl hv_X6_partner ⟨Nat.le_of_ble_eq_true rfl, Nat.le_of_ble_eq_true rfl⟩) (tk_pV hE hP hD 0 rfl rfl) rfl rfl hl.1 rfl (lv_room (Nat.le_of_ble_eq_true rfl)) dL_areSides_229 ⟨Nat.zero_le _, Nat.zero_le _⟩) hD hS hA (fun H locs hP hD hS => ?_)
          refine lv_aload_n hx hb dL_areSides_232 rfl (lv_at hl 0 rfl) ?_
          obtain ⟨r29, h30, hf⟩ := tk_b1s hf
          refine tk_ci (ws' := (tk_H c3 q S)) (va_runV (As := []) (rest := [.int r26]) ⟨hx, hb, hml, hown, hts⟩ (c_X6_declarer l G c3 q S r29 h30 H.size) (cwV 0 hts gL_areSides_X6_declarer rfl rfl rfl hv_X6_declarer ⟨Nat.le_of_ble_eq_true rfl, Nat.le_of_ble_eq_true rfl⟩) (tk_pV hE hP hD 0 rfl rfl) rfl rfl hl.1 rfl (lv_room (Nat.le_of_ble_eq_true rfl)) dL_areSides_233 ⟨Nat.zero_le _, Nat.zero_le _⟩) hD hS hA (fun H locs hP hD hS => ?_)
          refine lv_icmp_eq (tgt := 272) hx hb dL_areSides_236 (by decide) (fun h32 => ?_) (fun h32 => ?_)
          · have hf := tk_pos hf h32
            refine lv_iconst (v := 0) hx hb dL_areSides_272 (by decide) ?_
            exact tk_rz hQ (tk_s1 hf) rfl (by decide) hx hb hr hlocks hP hD hS dL_areSides_273
          · have hf := tk_neg hf h32
            exact J_239 H locs hP hD hS ls (lv_sub hl [0] rfl) hf
  have J_81 : ∀ (n_81 : Nat), ∀ (x2_81 : Int32) (x4_81 : Int32) (H : Heap) (locs : List Loc) (_ : va_P G vwCl (tk_H c3 q S) H) (_ : va_D A (tk_H c3 q S)) (_ : va_S A s.heap H locs) (ls : Array Slot) (_ : lv_has ls 7 [(0, .ref (q 0)), (2, .int x2_81), (4, .int x4_81)]) (_ : f_L_areSides_81 n_81 x2_81 x4_81 S = some r0), W p l e rm_L_areSides s m ([.ref (q 0)] : List Value).toArray below meth c H locs 0 0 Q (F0 m 81 ls []) := by
    intro n_81
    induction n_81 with
    | zero =>
      intro x2_81 x4_81 H locs hP hD hS ls hl hf
      exact absurd hf (by intro h9; cases h9)
    | succ n_81 ih_81 =>
      have J_204 : ∀ (x2_204 : Int32) (x4_204 : Int32) (H : Heap) (locs : List Loc) (_ : va_P G vwCl (tk_H c3 q S) H) (_ : va_D A (tk_H c3 q S)) (_ : va_S A s.heap H locs) (ls : Array Slot) (_ : lv_has ls 7 [(0, .ref (q 0)), (2, .int x2_204), (4, .int x4_204)]) (_ : f_L_areSides_204 (f_L_areSides_81 n_81) x2_204 x4_204 S = some r0), W p l e rm_L_areSides s m ([.ref (q 0)] : List Value).toArray below meth c H locs 0 0 Q (F0 m 204 ls []) := by
        intro x2_204 x4_204 H locs hP hD hS ls hl hf
        unfold f_L_areSides_204 at hf
        refine lv_iinc (v := (x4_204 + (1 : Int32))) (lv' := [(4, .int (x4_204 + (1 : Int32))), (0, .ref (q 0)), (2, .int x2_204)]) hx hb dL_areSides_204 hl (k := 2) rfl rfl (by decide) rfl (fun ls hl => ?_)
        refine lv_goto (tgt := 81) hx hb dL_areSides_207 (by decide) ?_
        exact ih_81 x2_204 (x4_204 + (1 : Int32)) H locs hP hD hS ls (lv_sub hl [1, 2, 0] rfl) hf
      have J_153 : ∀ (n_153 : Nat), ∀ (x2_153 : Int32) (x4_153 : Int32) (x5_153 : Int32) (H : Heap) (locs : List Loc) (_ : va_P G vwCl (tk_H c3 q S) H) (_ : va_D A (tk_H c3 q S)) (_ : va_S A s.heap H locs) (ls : Array Slot) (_ : lv_has ls 7 [(0, .ref (q 0)), (2, .int x2_153), (4, .int x4_153), (5, .int x5_153)]) (_ : f_L_areSides_153 (f_L_areSides_81 n_81) n_153 x2_153 x4_153 x5_153 S = some r0), W p l e rm_L_areSides s m ([.ref (q 0)] : List Value).toArray below meth c H locs 0 0 Q (F0 m 153 ls []) := by
        intro n_153
        induction n_153 with
        | zero =>
          intro x2_153 x4_153 x5_153 H locs hP hD hS ls hl hf
          exact absurd hf (by intro h9; cases h9)
        | succ n_153 ih_153 =>
          have J_197 : ∀ (x4_197 : Int32) (x5_197 : Int32) (k0_197 : Int32) (H : Heap) (locs : List Loc) (_ : va_P G vwCl (tk_H c3 q S) H) (_ : va_D A (tk_H c3 q S)) (_ : va_S A s.heap H locs) (ls : Array Slot) (_ : lv_has ls 7 [(0, .ref (q 0)), (4, .int x4_197), (5, .int x5_197)]) (_ : f_L_areSides_197 (f_L_areSides_81 n_81) (f_L_areSides_153 (f_L_areSides_81 n_81) n_153) x4_197 x5_197 k0_197 S = some r0), W p l e rm_L_areSides s m ([.ref (q 0)] : List Value).toArray below meth c H locs 0 0 Q (F0 m 197 ls [.int k0_197]) := by
            intro x4_197 x5_197 k0_197 H locs hP hD hS ls hl hf
            unfold f_L_areSides_197 at hf
            refine lv_istore_n (lv' := [(2, .int k0_197), (0, .ref (q 0)), (4, .int x4_197), (5, .int x5_197)]) hx hb dL_areSides_197 rfl hl (by decide) rfl (fun ls hl => ?_)
            refine lv_iinc (v := (x5_197 + (1 : Int32))) (lv' := [(5, .int (x5_197 + (1 : Int32))), (2, .int k0_197), (0, .ref (q 0)), (4, .int x4_197)]) hx hb dL_areSides_198 hl (k := 3) rfl rfl (by decide) rfl (fun ls hl => ?_)
            refine lv_goto (tgt := 153) hx hb dL_areSides_201 (by decide) ?_
            exact ih_153 k0_197 x4_197 (x5_197 + (1 : Int32)) H locs hP hD hS ls (lv_sub hl [2, 1, 3, 0] rfl) hf
          have J_192 : ∀ (x4_192 : Int32) (x5_192 : Int32) (H : Heap) (locs : List Loc) (_ : va_P G vwCl (tk_H c3 q S) H) (_ : va_D A (tk_H c3 q S)) (_ : va_S A s.heap H locs) (ls : Array Slot) (_ : lv_has ls 7 [(0, .ref (q 0)), (4, .int x4_192), (5, .int x5_192)]) (_ : f_L_areSides_192 (f_L_areSides_81 n_81) (f_L_areSides_153 (f_L_areSides_81 n_81) n_153) x4_192 x5_192 S = some r0), W p l e rm_L_areSides s m ([.ref (q 0)] : List Value).toArray below meth c H locs 0 0 Q (F0 m 192 ls []) := by
            intro x4_192 x5_192 H locs hP hD hS ls hl hf
            unfold f_L_areSides_192 at hf
            refine lv_iconst (v := 1) hx hb dL_areSides_192 (by decide) ?_
            refine lv_goto (tgt := 197) hx hb dL_areSides_193 (by decide) ?_
            exact J_197 x4_192 x5_192 (1 : Int32) H locs hP hD hS ls (lv_sub hl [0, 1, 2] rfl) hf
          intro x2_153 x4_153 x5_153 H locs hP hD hS ls hl hf
          rw [f_L_areSides_153_s] at hf
          refine lv_iload hx hb dL_areSides_153 (lv_at hl 3 rfl) ?_
          refine lv_iconst (v := 4) hx hb dL_areSides_155 (by decide) ?_
          refine lv_icmp_ge (tgt := 204) hx hb dL_areSides_156 (by decide) (fun h33 => ?_) (fun h33 => ?_)
          · have hf := tk_pos hf h33
            exact J_204 x2_153 x4_153 H locs hP hD hS ls (lv_sub hl [0, 1, 2] rfl) hf
          · have hf := tk_neg hf h33
            refine lv_iload_n hx hb dL_areSides_159 rfl (lv_at hl 1 rfl) ?_
            refine lv_if_eq (tgt := 204) hx hb dL_areSides_160 (by decide) (fun h34 => ?_) (fun h34 => ?_)
            · have hf := tk_pos hf h34
              exact J_204 x2_153 x4_153 H locs hP hD hS ls (lv_sub hl [0, 1, 2] rfl) hf
            · have hf := tk_neg hf h34
              refine lv_aload_n hx hb dL_areSides_163 rfl (lv_at hl 0 rfl) ?_
              refine lv_iload hx hb dL_areSides_164 (lv_at hl 2 rfl) ?_
              refine lv_iload hx hb dL_areSides_166 (lv_at hl 3 rfl) ?_
              obtain ⟨r35, h36, hf⟩ := tk_b1s hf
              refine tk_ci (ws' := (tk_H c3 q S)) (va_runV (As := [.int x4_153, .int x5_153]) (rest := []) ⟨hx, hb, hml, hown, hts⟩ (c0_X6_knows l G c3 q S x4_153 x5_153 r35 h36 H.size) (cwV 2 hts gL_areSides_X6_knows rfl rfl rfl hv_X6_knows ⟨Nat.le_of_ble_eq_true rfl, Nat.le_of_ble_eq_true rfl⟩) (tk_pV hE hP hD 0 rfl rfl) rfl rfl hl.1 rfl (lv_room (Nat.le_of_ble_eq_true rfl)) dL_areSides_168 ⟨Nat.zero_le _, Nat.zero_le _⟩) hD hS hA (fun H locs hP hD hS => ?_)
              refine lv_istore (lv' := [(6, .int r35), (0, .ref (q 0)), (2, .int x2_153), (4, .int x4_153), (5, .int x5_153)]) hx hb dL_areSides_171 hl (by decide) rfl (fun ls hl => ?_)
              refine lv_iload hx hb dL_areSides_173 (lv_at hl 0 rfl) ?_
              refine lv_iconst (v := -1) hx hb dL_areSides_175 (by decide) ?_
              refine lv_icmp_eq (tgt := 192) hx hb dL_areSides_176 (by decide) (fun h38 => ?_) (fun h38 => ?_)
              · have hf := tk_pos hf h38
                exact J_192 x4_153 x5_153 H locs hP hD hS ls (lv_sub hl [1, 3, 4] rfl) hf
              · have hf := tk_neg hf h38
                refine lv_iload hx hb dL_areSides_179 (lv_at hl 0 rfl) ?_
                refine lv_aload_n hx hb dL_areSides_181 rfl (lv_at hl 1 rfl) ?_
                refine lv_iload hx hb dL_areSides_182 (lv_at hl 4 rfl) ?_
                refine lv_iload hx hb dL_areSides_184 (lv_at hl 4 rfl) ?_
                obtain ⟨r39, h40, hf⟩ := tk_b1s hf
                refine tk_ci (ws' := (tk_H c3 q S)) (va_runV (As := [.int x5_153, .int x5_153]) (rest := [.int r35]) ⟨hx, hb, hml, hown, hts⟩ (c0_X6_knows l G c3 q S x5_153 x5_153 r39 h40 H.size) (cwV 2 hts gL_areSides_X6_knows rfl rfl rfl hv_X6_knows ⟨Nat.le_of_ble_eq_true rfl, Nat.le_of_ble_eq_true rfl⟩) (tk_pV hE hP hD 0 rfl rfl) rfl rfl hl.1 rfl (lv_room (Nat.le_of_ble_eq_true rfl)) dL_areSides_186 ⟨Nat.zero_le _, Nat.zero_le _⟩) hD hS hA (fun H locs hP hD hS => ?_)
                refine lv_icmp_ne (tgt := 196) hx hb dL_areSides_189 (by decide) (fun h42 => ?_) (fun h42 => ?_)
                · have hf := tk_neg hf h42
                  refine lv_iconst (v := 0) hx hb dL_areSides_196 (by decide) ?_
                  exact J_197 x4_153 x5_153 (0 : Int32) H locs hP hD hS ls (lv_sub hl [1, 3, 4] rfl) hf
                · have hf := tk_pos hf h42
                  exact J_192 x4_153 x5_153 H locs hP hD hS ls (lv_sub hl [1, 3, 4] rfl) hf
      have J_149 : ∀ (x4_149 : Int32) (k0_149 : Int32) (H : Heap) (locs : List Loc) (_ : va_P G vwCl (tk_H c3 q S) H) (_ : va_D A (tk_H c3 q S)) (_ : va_S A s.heap H locs) (ls : Array Slot) (_ : lv_has ls 7 [(0, .ref (q 0)), (4, .int x4_149)]) (_ : f_L_areSides_149 (f_L_areSides_81 n_81) x4_149 k0_149 S = some r0), W p l e rm_L_areSides s m ([.ref (q 0)] : List Value).toArray below meth c H locs 0 0 Q (F0 m 149 ls [.int k0_149]) := by
        intro x4_149 k0_149 H locs hP hD hS ls hl hf
        unfold f_L_areSides_149 at hf
        refine lv_istore_n (lv' := [(2, .int k0_149), (0, .ref (q 0)), (4, .int x4_149)]) hx hb dL_areSides_149 rfl hl (by decide) rfl (fun ls hl => ?_)
        refine lv_iconst (v := 0) hx hb dL_areSides_150 (by decide) ?_
        refine lv_istore (lv' := [(5, .int (0 : Int32)), (2, .int k0_149), (0, .ref (q 0)), (4, .int x4_149)]) hx hb dL_areSides_151 hl (by decide) rfl (fun ls hl => ?_)
        exact J_153 64 k0_149 x4_149 (0 : Int32) H locs hP hD hS ls (lv_sub hl [2, 1, 3, 0] rfl) hf
      have J_141 : ∀ (x4_141 : Int32) (k0_141 : Int32) (k1_141 : Int32) (H : Heap) (locs : List Loc) (_ : va_P G vwCl (tk_H c3 q S) H) (_ : va_D A (tk_H c3 q S)) (_ : va_S A s.heap H locs) (ls : Array Slot) (_ : lv_has ls 7 [(0, .ref (q 0)), (4, .int x4_141)]) (_ : f_L_areSides_141 (f_L_areSides_81 n_81) x4_141 k0_141 k1_141 S = some r0), W p l e rm_L_areSides s m ([.ref (q 0)] : List Value).toArray below meth c H locs 0 0 Q (F0 m 141 ls [.int k1_141, .int k0_141]) := by
        intro x4_141 k0_141 k1_141 H locs hP hD hS ls hl hf
        unfold f_L_areSides_141 at hf
        refine lv_icmp_ne (tgt := 148) hx hb dL_areSides_141 (by decide) (fun h43 => ?_) (fun h43 => ?_)
        · have hf := tk_neg hf h43
          refine lv_iconst (v := 0) hx hb dL_areSides_148 (by decide) ?_
          exact J_149 x4_141 (0 : Int32) H locs hP hD hS ls (lv_sub hl [0, 1] rfl) hf
        · have hf := tk_pos hf h43
          refine lv_iconst (v := 1) hx hb dL_areSides_144 (by decide) ?_
          refine lv_goto (tgt := 149) hx hb dL_areSides_145 (by decide) ?_
          exact J_149 x4_141 (1 : Int32) H locs hP hD hS ls (lv_sub hl [0, 1] rfl) hf
      have J_114 : ∀ (x4_114 : Int32) (k0_114 : Int32) (H : Heap) (locs : List Loc) (_ : va_P G vwCl (tk_H c3 q S) H) (_ : va_D A (tk_H c3 q S)) (_ : va_S A s.heap H locs) (ls : Array Slot) (_ : lv_has ls 7 [(0, .ref (q 0)), (4, .int x4_114)]) (_ : f_L_areSides_114 (f_L_areSides_81 n_81) x4_114 k0_114 S = some r0), W p l e rm_L_areSides s m ([.ref (q 0)] : List Value).toArray below meth c H locs 0 0 Q (F0 m 114 ls [.int k0_114]) := by
        intro x4_114 k0_114 H locs hP hD hS ls hl hf
        unfold f_L_areSides_114 at hf
        refine lv_iconst (v := -1) hx hb dL_areSides_114 (by decide) ?_
        refine lv_goto (tgt := 141) hx hb dL_areSides_115 (by decide) ?_
        exact J_141 x4_114 k0_114 (-1 : Int32) H locs hP hD hS ls (lv_sub hl [0, 1] rfl) hf
      have J_136 : ∀ (x4_136 : Int32) (k0_136 : Int32) (H : Heap) (locs : List Loc) (_ : va_P G vwCl (tk_H c3 q S) H) (_ : va_D A (tk_H c3 q S)) (_ : va_S A s.heap H locs) (ls : Array Slot) (_ : lv_has ls 7 [(0, .ref (q 0)), (4, .int x4_136)]) (_ : f_L_areSides_136 (f_L_areSides_81 n_81) x4_136 k0_136 S = some r0), W p l e rm_L_areSides s m ([.ref (q 0)] : List Value).toArray below meth c H locs 0 0 Q (F0 m 136 ls [.int k0_136]) := by
        intro x4_136 k0_136 H locs hP hD hS ls hl hf
        unfold f_L_areSides_136 at hf
        refine lv_iconst (v := 0) hx hb dL_areSides_136 (by decide) ?_
        refine lv_goto (tgt := 141) hx hb dL_areSides_137 (by decide) ?_
        exact J_141 x4_136 k0_136 (0 : Int32) H locs hP hD hS ls (lv_sub hl [0, 1] rfl) hf
      intro x2_81 x4_81 H locs hP hD hS ls hl hf
      rw [f_L_areSides_81_s] at hf
      refine lv_iload hx hb dL_areSides_81 (lv_at hl 2 rfl) ?_
      refine lv_iconst (v := 4) hx hb dL_areSides_83 (by decide) ?_
      refine lv_icmp_ge (tgt := 210) hx hb dL_areSides_84 (by decide) (fun h44 => ?_) (fun h44 => ?_)
      · have hf := tk_pos hf h44
        exact J_210 x2_81 H locs hP hD hS ls (lv_sub hl [0, 1] rfl) hf
      · have hf := tk_neg hf h44
        refine lv_iload_n hx hb dL_areSides_87 rfl (lv_at hl 1 rfl) ?_
        refine lv_if_eq (tgt := 210) hx hb dL_areSides_88 (by decide) (fun h45 => ?_) (fun h45 => ?_)
        · have hf := tk_pos hf h45
          exact J_210 x2_81 H locs hP hD hS ls (lv_sub hl [0, 1] rfl) hf
        · have hf := tk_neg hf h45
          refine lv_aload_n hx hb dL_areSides_91 rfl (lv_at hl 0 rfl) ?_
          refine lv_iload hx hb dL_areSides_92 (lv_at hl 2 rfl) ?_
          refine lv_iload hx hb dL_areSides_94 (lv_at hl 2 rfl) ?_
          obtain ⟨r46, h47, hf⟩ := tk_b1s hf
          refine tk_ci (ws' := (tk_H c3 q S)) (va_runV (As := [.int x4_81, .int x4_81]) (rest := []) ⟨hx, hb, hml, hown, hts⟩ (c0_X6_knows l G c3 q S x4_81 x4_81 r46 h47 H.size) (cwV 2 hts gL_areSides_X6_knows rfl rfl rfl hv_X6_knows ⟨Nat.le_of_ble_eq_true rfl, Nat.le_of_ble_eq_true rfl⟩) (tk_pV hE hP hD 0 rfl rfl) rfl rfl hl.1 rfl (lv_room (Nat.le_of_ble_eq_true rfl)) dL_areSides_96 ⟨Nat.zero_le _, Nat.zero_le _⟩) hD hS hA (fun H locs hP hD hS => ?_)
          refine lv_aload_n hx hb dL_areSides_99 rfl (lv_at hl 0 rfl) ?_
          obtain ⟨r49, h50, hf⟩ := tk_b1s hf
          refine tk_ci (ws' := (tk_H c3 q S)) (va_runV (As := []) (rest := [.int r46]) ⟨hx, hb, hml, hown, hts⟩ (c_X6_declarer l G c3 q S r49 h50 H.size) (cwV 0 hts gL_areSides_X6_declarer rfl rfl rfl hv_X6_declarer ⟨Nat.le_of_ble_eq_true rfl, Nat.le_of_ble_eq_true rfl⟩) (tk_pV hE hP hD 0 rfl rfl) rfl rfl hl.1 rfl (lv_room (Nat.le_of_ble_eq_true rfl)) dL_areSides_100 ⟨Nat.zero_le _, Nat.zero_le _⟩) hD hS hA (fun H locs hP hD hS => ?_)
          refine lv_if_lt (tgt := 114) hx hb dL_areSides_103 (by decide) (fun h52 => ?_) (fun h52 => ?_)
          · have hf := tk_pos hf h52
            exact J_114 x4_81 r46 H locs hP hD hS ls (lv_sub hl [0, 2] rfl) hf
          · have hf := tk_neg hf h52
            refine lv_aload_n hx hb dL_areSides_106 rfl (lv_at hl 0 rfl) ?_
            obtain ⟨r53, h54, hf⟩ := tk_b1s hf
            refine tk_ci (ws' := (tk_H c3 q S)) (va_runV (As := []) (rest := [.int r46]) ⟨hx, hb, hml, hown, hts⟩ (c_X6_phase l G c3 q S r53 h54 H.size) (cwV 0 hts gL_areSides_X6_phase rfl rfl rfl hv_X6_phase ⟨Nat.le_of_ble_eq_true rfl, Nat.le_of_ble_eq_true rfl⟩) (tk_pV hE hP hD 0 rfl rfl) rfl rfl hl.1 rfl (lv_room (Nat.le_of_ble_eq_true rfl)) dL_areSides_107 ⟨Nat.zero_le _, Nat.zero_le _⟩) hD hS hA (fun H locs hP hD hS => ?_)
            refine lv_iconst (v := 2) hx hb dL_areSides_110 (by decide) ?_
            refine lv_icmp_ne (tgt := 118) hx hb dL_areSides_111 (by decide) (fun h56 => ?_) (fun h56 => ?_)
            · have hf := tk_neg hf h56
              refine lv_iload hx hb dL_areSides_118 (lv_at hl 2 rfl) ?_
              refine lv_aload_n hx hb dL_areSides_120 rfl (lv_at hl 0 rfl) ?_
              obtain ⟨r57, h58, hf⟩ := tk_b1s hf
              refine tk_ci (ws' := (tk_H c3 q S)) (va_runV (As := []) (rest := [.int x4_81, .int r46]) ⟨hx, hb, hml, hown, hts⟩ (c_X6_declarer l G c3 q S r57 h58 H.size) (cwV 0 hts gL_areSides_X6_declarer rfl rfl rfl hv_X6_declarer ⟨Nat.le_of_ble_eq_true rfl, Nat.le_of_ble_eq_true rfl⟩) (tk_pV hE hP hD 0 rfl rfl) rfl rfl hl.1 rfl (lv_room (Nat.le_of_ble_eq_true rfl)) dL_areSides_121 ⟨Nat.zero_le _, Nat.zero_le _⟩) hD hS hA (fun H locs hP hD hS => ?_)
              refine lv_icmp_eq (tgt := 136) hx hb dL_areSides_124 (by decide) (fun h60 => ?_) (fun h60 => ?_)
              · have hf := tk_pos hf h60
                exact J_136 x4_81 r46 H locs hP hD hS ls (lv_sub hl [0, 2] rfl) hf
              · have hf := tk_neg hf h60
                refine lv_iload hx hb dL_areSides_127 (lv_at hl 2 rfl) ?_
                refine lv_aload_n hx hb dL_areSides_129 rfl (lv_at hl 0 rfl) ?_
                obtain ⟨r61, h62, hf⟩ := tk_b1s hf
                refine tk_ci (ws' := (tk_H c3 q S)) (va_runV (As := []) (rest := [.int x4_81, .int r46]) ⟨hx, hb, hml, hown, hts⟩ (c_X6_partner l G c3 q S r61 h62 H.size) (cwV 0 hts gL_areSides_X6_partner rfl rfl rfl hv_X6_partner ⟨Nat.le_of_ble_eq_true rfl, Nat.le_of_ble_eq_true rfl⟩) (tk_pV hE hP hD 0 rfl rfl) rfl rfl hl.1 rfl (lv_room (Nat.le_of_ble_eq_true rfl)) dL_areSides_130 ⟨Nat.zero_le _, Nat.zero_le _⟩) hD hS hA (fun H locs hP hD hS => ?_)
                refine lv_icmp_ne (tgt := 140) hx hb dL_areSides_133 (by decide) (fun h64 => ?_) (fun h64 => ?_)
                · have hf := tk_neg hf h64
                  refine lv_iconst (v := 1) hx hb dL_areSides_140 (by decide) ?_
                  exact J_141 x4_81 r46 (1 : Int32) H locs hP hD hS ls (lv_sub hl [0, 2] rfl) hf
                · have hf := tk_pos hf h64
                  exact J_136 x4_81 r46 H locs hP hD hS ls (lv_sub hl [0, 2] rfl) hf
            · have hf := tk_pos hf h56
              exact J_114 x4_81 r46 H locs hP hD hS ls (lv_sub hl [0, 2] rfl) hf
  have J_77 : ∀ (k0_77 : Int32) (H : Heap) (locs : List Loc) (_ : va_P G vwCl (tk_H c3 q S) H) (_ : va_D A (tk_H c3 q S)) (_ : va_S A s.heap H locs) (ls : Array Slot) (_ : lv_has ls 7 [(0, .ref (q 0))]) (_ : f_L_areSides_77 k0_77 S = some r0), W p l e rm_L_areSides s m ([.ref (q 0)] : List Value).toArray below meth c H locs 0 0 Q (F0 m 77 ls [.int k0_77]) := by
    intro k0_77 H locs hP hD hS ls hl hf
    unfold f_L_areSides_77 at hf
    refine lv_istore_n (lv' := [(2, .int k0_77), (0, .ref (q 0))]) hx hb dL_areSides_77 rfl hl (by decide) rfl (fun ls hl => ?_)
    refine lv_iconst (v := 0) hx hb dL_areSides_78 (by decide) ?_
    refine lv_istore (lv' := [(4, .int (0 : Int32)), (2, .int k0_77), (0, .ref (q 0))]) hx hb dL_areSides_79 hl (by decide) rfl (fun ls hl => ?_)
    exact J_81 64 k0_77 (0 : Int32) H locs hP hD hS ls (lv_sub hl [2, 1, 0] rfl) hf
  have J_76 : ∀ (H : Heap) (locs : List Loc) (_ : va_P G vwCl (tk_H c3 q S) H) (_ : va_D A (tk_H c3 q S)) (_ : va_S A s.heap H locs) (ls : Array Slot) (_ : lv_has ls 7 [(0, .ref (q 0))]) (_ : f_L_areSides_76 S = some r0), W p l e rm_L_areSides s m ([.ref (q 0)] : List Value).toArray below meth c H locs 0 0 Q (F0 m 76 ls []) := by
    intro  H locs hP hD hS ls hl hf
    unfold f_L_areSides_76 at hf
    refine lv_iconst (v := 0) hx hb dL_areSides_76 (by decide) ?_
    exact J_77 (0 : Int32) H locs hP hD hS ls (lv_sub hl [0] rfl) hf
  have J_44 : ∀ (x1_44 : Int32) (k0_44 : Int32) (H : Heap) (locs : List Loc) (_ : va_P G vwCl (tk_H c3 q S) H) (_ : va_D A (tk_H c3 q S)) (_ : va_S A s.heap H locs) (ls : Array Slot) (_ : lv_has ls 7 [(0, .ref (q 0)), (1, .int x1_44)]) (_ : f_L_areSides_44 x1_44 k0_44 S = some r0), W p l e rm_L_areSides s m ([.ref (q 0)] : List Value).toArray below meth c H locs 0 0 Q (F0 m 44 ls [.int k0_44]) := by
    intro x1_44 k0_44 H locs hP hD hS ls hl hf
    unfold f_L_areSides_44 at hf
    refine lv_istore_n (lv' := [(2, .int k0_44), (0, .ref (q 0)), (1, .int x1_44)]) hx hb dL_areSides_44 rfl hl (by decide) rfl (fun ls hl => ?_)
    refine lv_aload_n hx hb dL_areSides_45 rfl (lv_at hl 1 rfl) ?_
    refine lv_iconst (v := 0) hx hb dL_areSides_46 (by decide) ?_
    obtain ⟨r65, h66, hf⟩ := tk_b1s hf
    refine tk_ci (ws' := (tk_H c3 q S)) (va_runV (As := [.int (0 : Int32)]) (rest := []) ⟨hx, hb, hml, hown, hts⟩ (c0_X6_byPacks l G c3 q S (0 : Int32) r65 h66 H.size) (cwV 1 hts gL_areSides_X6_byPacks rfl rfl rfl hv_X6_byPacks ⟨Nat.le_of_ble_eq_true rfl, Nat.le_of_ble_eq_true rfl⟩) (tk_pV hE hP hD 0 rfl rfl) rfl rfl hl.1 rfl (lv_room (Nat.le_of_ble_eq_true rfl)) dL_areSides_47 ⟨Nat.zero_le _, Nat.zero_le _⟩) hD hS hA (fun H locs hP hD hS => ?_)
    refine lv_aload_n hx hb dL_areSides_50 rfl (lv_at hl 1 rfl) ?_
    refine lv_iconst (v := 1) hx hb dL_areSides_51 (by decide) ?_
    obtain ⟨r68, h69, hf⟩ := tk_b1s hf
    refine tk_ci (ws' := (tk_H c3 q S)) (va_runV (As := [.int (1 : Int32)]) (rest := [.int r65]) ⟨hx, hb, hml, hown, hts⟩ (c0_X6_byPacks l G c3 q S (1 : Int32) r68 h69 H.size) (cwV 1 hts gL_areSides_X6_byPacks rfl rfl rfl hv_X6_byPacks ⟨Nat.le_of_ble_eq_true rfl, Nat.le_of_ble_eq_true rfl⟩) (tk_pV hE hP hD 0 rfl rfl) rfl rfl hl.1 rfl (lv_room (Nat.le_of_ble_eq_true rfl)) dL_areSides_52 ⟨Nat.zero_le _, Nat.zero_le _⟩) hD hS hA (fun H locs hP hD hS => ?_)
    refine lv_iadd hx hb dL_areSides_55 ?_
    refine lv_istore_n (lv' := [(3, .int (r65 + r68)), (2, .int k0_44), (0, .ref (q 0)), (1, .int x1_44)]) hx hb dL_areSides_56 rfl hl (by decide) rfl (fun ls hl => ?_)
    refine lv_iload_n hx hb dL_areSides_57 rfl (lv_at hl 1 rfl) ?_
    refine lv_if_eq (tgt := 76) hx hb dL_areSides_58 (by decide) (fun h71 => ?_) (fun h71 => ?_)
    · have hf := tk_pos hf h71
      exact J_76 H locs hP hD hS ls (lv_sub hl [2] rfl) hf
    · have hf := tk_neg hf h71
      refine lv_iload_n hx hb dL_areSides_61 rfl (lv_at hl 0 rfl) ?_
      refine lv_if_lt (tgt := 76) hx hb dL_areSides_62 (by decide) (fun h72 => ?_) (fun h72 => ?_)
      · have hf := tk_pos hf h72
        exact J_76 H locs hP hD hS ls (lv_sub hl [2] rfl) hf
      · have hf := tk_neg hf h72
        refine lv_iconst (v := 3) hx hb dL_areSides_65 (by decide) ?_
        refine lv_iload_n hx hb dL_areSides_66 rfl (lv_at hl 0 rfl) ?_
        refine lv_imul hx hb dL_areSides_67 ?_
        refine lv_iload_n hx hb dL_areSides_68 rfl (lv_at hl 3 rfl) ?_
        refine lv_icmp_gt (tgt := 76) hx hb dL_areSides_69 (by decide) (fun h73 => ?_) (fun h73 => ?_)
        · have hf := tk_pos hf h73
          exact J_76 H locs hP hD hS ls (lv_sub hl [2] rfl) hf
        · have hf := tk_neg hf h73
          refine lv_iconst (v := 1) hx hb dL_areSides_72 (by decide) ?_
          refine lv_goto (tgt := 77) hx hb dL_areSides_73 (by decide) ?_
          exact J_77 (1 : Int32) H locs hP hD hS ls (lv_sub hl [2] rfl) hf
  have J_39 : ∀ (x1_39 : Int32) (H : Heap) (locs : List Loc) (_ : va_P G vwCl (tk_H c3 q S) H) (_ : va_D A (tk_H c3 q S)) (_ : va_S A s.heap H locs) (ls : Array Slot) (_ : lv_has ls 7 [(0, .ref (q 0)), (1, .int x1_39)]) (_ : f_L_areSides_39 x1_39 S = some r0), W p l e rm_L_areSides s m ([.ref (q 0)] : List Value).toArray below meth c H locs 0 0 Q (F0 m 39 ls []) := by
    intro x1_39 H locs hP hD hS ls hl hf
    unfold f_L_areSides_39 at hf
    refine lv_iconst (v := 1) hx hb dL_areSides_39 (by decide) ?_
    refine lv_goto (tgt := 44) hx hb dL_areSides_40 (by decide) ?_
    exact J_44 x1_39 (1 : Int32) H locs hP hD hS ls (lv_sub hl [0, 1] rfl) hf
  have J_43 : ∀ (x1_43 : Int32) (H : Heap) (locs : List Loc) (_ : va_P G vwCl (tk_H c3 q S) H) (_ : va_D A (tk_H c3 q S)) (_ : va_S A s.heap H locs) (ls : Array Slot) (_ : lv_has ls 7 [(0, .ref (q 0)), (1, .int x1_43)]) (_ : f_L_areSides_43 x1_43 S = some r0), W p l e rm_L_areSides s m ([.ref (q 0)] : List Value).toArray below meth c H locs 0 0 Q (F0 m 43 ls []) := by
    intro x1_43 H locs hP hD hS ls hl hf
    unfold f_L_areSides_43 at hf
    refine lv_iconst (v := 0) hx hb dL_areSides_43 (by decide) ?_
    exact J_44 x1_43 (0 : Int32) H locs hP hD hS ls (lv_sub hl [0, 1] rfl) hf
  unfold f_L_areSides at hf
  refine lv_aload_n hx hb dL_areSides_0 rfl (lv_at hl 0 rfl) ?_
  refine lv_iconst (v := 0) hx hb dL_areSides_1 (by decide) ?_
  obtain ⟨r74, h75, hf⟩ := tk_b1s hf
  refine tk_ci (ws' := (tk_H c3 q S)) (va_runV (As := [.int (0 : Int32)]) (rest := []) ⟨hx, hb, hml, hown, hts⟩ (c0_X6_thirds l G c3 q S (0 : Int32) r74 h75 H.size) (cwV 1 hts gL_areSides_X6_thirds rfl rfl rfl hv_X6_thirds ⟨Nat.le_of_ble_eq_true rfl, Nat.le_of_ble_eq_true rfl⟩) (tk_pV hE hP hD 0 rfl rfl) rfl rfl hl.1 rfl (lv_room (Nat.le_of_ble_eq_true rfl)) dL_areSides_2 ⟨Nat.zero_le _, Nat.zero_le _⟩) hD hS hA (fun H locs hP hD hS => ?_)
  refine lv_aload_n hx hb dL_areSides_5 rfl (lv_at hl 0 rfl) ?_
  refine lv_iconst (v := 1) hx hb dL_areSides_6 (by decide) ?_
  obtain ⟨r77, h78, hf⟩ := tk_b1s hf
  refine tk_ci (ws' := (tk_H c3 q S)) (va_runV (As := [.int (1 : Int32)]) (rest := [.int r74]) ⟨hx, hb, hml, hown, hts⟩ (c0_X6_thirds l G c3 q S (1 : Int32) r77 h78 H.size) (cwV 1 hts gL_areSides_X6_thirds rfl rfl rfl hv_X6_thirds ⟨Nat.le_of_ble_eq_true rfl, Nat.le_of_ble_eq_true rfl⟩) (tk_pV hE hP hD 0 rfl rfl) rfl rfl hl.1 rfl (lv_room (Nat.le_of_ble_eq_true rfl)) dL_areSides_7 ⟨Nat.zero_le _, Nat.zero_le _⟩) hD hS hA (fun H locs hP hD hS => ?_)
  refine lv_iadd hx hb dL_areSides_10 ?_
  refine lv_istore_n (lv' := [(1, .int (r74 + r77)), (0, .ref (q 0))]) hx hb dL_areSides_11 rfl hl (by decide) rfl (fun ls hl => ?_)
  refine lv_iload_n hx hb dL_areSides_12 rfl (lv_at hl 0 rfl) ?_
  refine lv_if_lt (tgt := 43) hx hb dL_areSides_13 (by decide) (fun h80 => ?_) (fun h80 => ?_)
  · have hf := tk_pos hf h80
    exact J_43 (r74 + r77) H locs hP hD hS ls (lv_sub hl [1, 0] rfl) hf
  · have hf := tk_neg hf h80
    refine lv_iload_n hx hb dL_areSides_16 rfl (lv_at hl 0 rfl) ?_
    refine lv_sipush (v := 210) hx hb dL_areSides_17 (by decide) ?_
    refine lv_icmp_gt (tgt := 43) hx hb dL_areSides_20 (by decide) (fun h81 => ?_) (fun h81 => ?_)
    · have hf := tk_pos hf h81
      exact J_43 (r74 + r77) H locs hP hD hS ls (lv_sub hl [1, 0] rfl) hf
    · have hf := tk_neg hf h81
      refine lv_aload_n hx hb dL_areSides_23 rfl (lv_at hl 1 rfl) ?_
      obtain ⟨r82, h83, hf⟩ := tk_b1s hf
      refine tk_ci (ws' := (tk_H c3 q S)) (va_runV (As := []) (rest := []) ⟨hx, hb, hml, hown, hts⟩ (c_X6_tricks l G c3 q S r82 h83 H.size) (cwV 0 hts gL_areSides_X6_tricks rfl rfl rfl hv_X6_tricks ⟨Nat.le_of_ble_eq_true rfl, Nat.le_of_ble_eq_true rfl⟩) (tk_pV hE hP hD 0 rfl rfl) rfl rfl hl.1 rfl (lv_room (Nat.le_of_ble_eq_true rfl)) dL_areSides_24 ⟨Nat.zero_le _, Nat.zero_le _⟩) hD hS hA (fun H locs hP hD hS => ?_)
      refine lv_bipush (v := 12) hx hb dL_areSides_27 (by decide) ?_
      refine lv_icmp_lt (tgt := 39) hx hb dL_areSides_29 (by decide) (fun h85 => ?_) (fun h85 => ?_)
      · have hf := tk_pos hf h85
        exact J_39 (r74 + r77) H locs hP hD hS ls (lv_sub hl [1, 0] rfl) hf
      · have hf := tk_neg hf h85
        refine lv_iload_n hx hb dL_areSides_32 rfl (lv_at hl 0 rfl) ?_
        refine lv_sipush (v := 210) hx hb dL_areSides_33 (by decide) ?_
        refine lv_icmp_ne (tgt := 43) hx hb dL_areSides_36 (by decide) (fun h86 => ?_) (fun h86 => ?_)
        · have hf := tk_neg hf h86
          exact J_43 (r74 + r77) H locs hP hD hS ls (lv_sub hl [1, 0] rfl) hf
        · have hf := tk_pos hf h86
          exact J_39 (r74 + r77) H locs hP hD hS ls (lv_sub hl [1, 0] rfl) hf
abbrev rm_L_wins : Room := { frames := 1, cells := 0, slots := 0, locals := 20 }
set_option maxHeartbeats 4000000 in
set_option maxRecDepth 100000 in
theorem c_L_wins (l : Launch) (G : va_G) (c3 : ClassId × ClassId × ClassId) (ws : va_W) (p0 : Int32) (p1 : Int32) (p2 : Int32) (p3 : Int32) (r0 : Int32) (hf : f_L_wins p0 p1 p2 p3 = some r0) : tk_Mi l yL_wins wsL_wins rm_L_wins G c3 [.int p0, .int p1, .int p2, .int p3] ws ws r0 := by
  refine tk_ofi (cc := cL_wins) (maxL := 9) (ret := some .int) (by decide) rfl (Nat.le_of_ble_eq_true rfl) ?_
  intro p e s m below meth c A Q ls H locs hx hb hml hr hts hown hlocks hE hA hP hD hS hZ hQ hl
  have hl : lv_has ls 9 [(0, .int p0), (1, .int p1), (2, .int p2), (3, .int p3)] := hl
  have hown : s.vm.findClass RL = some m.cls := hown
  have J_9 : ∀ (n_9 : Nat), ∀ (x1_9 : Int32) (x2_9 : Int32) (x3_9 : Int32) (x4_9 : Int32) (x5_9 : Int32) (x6_9 : Int32) (H : Heap) (locs : List Loc) (_ : va_P G vwCl ws H) (_ : va_D A ws) (_ : va_S A s.heap H locs) (ls : Array Slot) (_ : lv_has ls 9 [(1, .int x1_9), (2, .int x2_9), (3, .int x3_9), (4, .int x4_9), (5, .int x5_9), (6, .int x6_9)]) (_ : f_L_wins_9 n_9 x1_9 x2_9 x3_9 x4_9 x5_9 x6_9 = some r0), W p l e rm_L_wins s m ([.int p0, .int p1, .int p2, .int p3] : List Value).toArray below meth c H locs 0 0 Q (F0 m 9 ls []) := by
    intro n_9
    induction n_9 with
    | zero =>
      intro x1_9 x2_9 x3_9 x4_9 x5_9 x6_9 H locs hP hD hS ls hl hf
      exact absurd hf (by intro h9; cases h9)
    | succ n_9 ih_9 =>
      have J_108 : ∀ (x1_108 : Int32) (x2_108 : Int32) (x3_108 : Int32) (x5_108 : Int32) (x6_108 : Int32) (k0_108 : Int32) (H : Heap) (locs : List Loc) (_ : va_P G vwCl ws H) (_ : va_D A ws) (_ : va_S A s.heap H locs) (ls : Array Slot) (_ : lv_has ls 9 [(1, .int x1_108), (2, .int x2_108), (3, .int x3_108), (5, .int x5_108), (6, .int x6_108)]) (_ : f_L_wins_108 (f_L_wins_9 n_9) x1_108 x2_108 x3_108 x5_108 x6_108 k0_108 = some r0), W p l e rm_L_wins s m ([.int p0, .int p1, .int p2, .int p3] : List Value).toArray below meth c H locs 0 0 Q (F0 m 108 ls [.int k0_108]) := by
        intro x1_108 x2_108 x3_108 x5_108 x6_108 k0_108 H locs hP hD hS ls hl hf
        unfold f_L_wins_108 at hf
        refine lv_istore (lv' := [(4, .int k0_108), (1, .int x1_108), (2, .int x2_108), (3, .int x3_108), (5, .int x5_108), (6, .int x6_108)]) hx hb dL_wins_108 hl (by decide) rfl (fun ls hl => ?_)
        refine lv_iinc (v := (x6_108 + (1 : Int32))) (lv' := [(6, .int (x6_108 + (1 : Int32))), (4, .int k0_108), (1, .int x1_108), (2, .int x2_108), (3, .int x3_108), (5, .int x5_108)]) hx hb dL_wins_110 hl (k := 5) rfl rfl (by decide) rfl (fun ls hl => ?_)
        refine lv_goto (tgt := 9) hx hb dL_wins_113 (by decide) ?_
        exact ih_9 x1_108 x2_108 x3_108 k0_108 x5_108 (x6_108 + (1 : Int32)) H locs hP hD hS ls (lv_sub hl [2, 3, 4, 1, 5, 0] rfl) hf
      have J_94 : ∀ (x1_94 : Int32) (x2_94 : Int32) (x3_94 : Int32) (x4_94 : Int32) (x6_94 : Int32) (x7_94 : Int32) (x8_94 : Int32) (k0_94 : Int32) (H : Heap) (locs : List Loc) (_ : va_P G vwCl ws H) (_ : va_D A ws) (_ : va_S A s.heap H locs) (ls : Array Slot) (_ : lv_has ls 9 [(1, .int x1_94), (2, .int x2_94), (3, .int x3_94), (4, .int x4_94), (6, .int x6_94), (7, .int x7_94), (8, .int x8_94)]) (_ : f_L_wins_94 (f_L_wins_9 n_9) x1_94 x2_94 x3_94 x4_94 x6_94 x7_94 x8_94 k0_94 = some r0), W p l e rm_L_wins s m ([.int p0, .int p1, .int p2, .int p3] : List Value).toArray below meth c H locs 0 0 Q (F0 m 94 ls [.int k0_94]) := by
        intro x1_94 x2_94 x3_94 x4_94 x6_94 x7_94 x8_94 k0_94 H locs hP hD hS ls hl hf
        unfold f_L_wins_94 at hf
        refine lv_istore (lv' := [(5, .int k0_94), (1, .int x1_94), (2, .int x2_94), (3, .int x3_94), (4, .int x4_94), (6, .int x6_94), (7, .int x7_94), (8, .int x8_94)]) hx hb dL_wins_94 hl (by decide) rfl (fun ls hl => ?_)
        refine lv_iload hx hb dL_wins_96 (lv_at hl 7 rfl) ?_
        refine lv_if_eq (tgt := 106) hx hb dL_wins_98 (by decide) (fun h1 => ?_) (fun h1 => ?_)
        · have hf := tk_pos hf h1
          refine lv_iload hx hb dL_wins_106 (lv_at hl 4 rfl) ?_
          exact J_108 x1_94 x2_94 x3_94 k0_94 x6_94 x4_94 H locs hP hD hS ls (lv_sub hl [1, 2, 3, 0, 5] rfl) hf
        · have hf := tk_neg hf h1
          refine lv_iload hx hb dL_wins_101 (lv_at hl 6 rfl) ?_
          refine lv_goto (tgt := 108) hx hb dL_wins_103 (by decide) ?_
          exact J_108 x1_94 x2_94 x3_94 k0_94 x6_94 x7_94 H locs hP hD hS ls (lv_sub hl [1, 2, 3, 0, 5] rfl) hf
      have J_80 : ∀ (x1_80 : Int32) (x2_80 : Int32) (x3_80 : Int32) (x4_80 : Int32) (x5_80 : Int32) (x6_80 : Int32) (x7_80 : Int32) (k0_80 : Int32) (H : Heap) (locs : List Loc) (_ : va_P G vwCl ws H) (_ : va_D A ws) (_ : va_S A s.heap H locs) (ls : Array Slot) (_ : lv_has ls 9 [(1, .int x1_80), (2, .int x2_80), (3, .int x3_80), (4, .int x4_80), (5, .int x5_80), (6, .int x6_80), (7, .int x7_80)]) (_ : f_L_wins_80 (f_L_wins_9 n_9) x1_80 x2_80 x3_80 x4_80 x5_80 x6_80 x7_80 k0_80 = some r0), W p l e rm_L_wins s m ([.int p0, .int p1, .int p2, .int p3] : List Value).toArray below meth c H locs 0 0 Q (F0 m 80 ls [.int k0_80]) := by
        intro x1_80 x2_80 x3_80 x4_80 x5_80 x6_80 x7_80 k0_80 H locs hP hD hS ls hl hf
        unfold f_L_wins_80 at hf
        refine lv_istore (lv' := [(8, .int k0_80), (1, .int x1_80), (2, .int x2_80), (3, .int x3_80), (4, .int x4_80), (5, .int x5_80), (6, .int x6_80), (7, .int x7_80)]) hx hb dL_wins_80 hl (by decide) rfl (fun ls hl => ?_)
        refine lv_iload hx hb dL_wins_82 (lv_at hl 0 rfl) ?_
        refine lv_if_eq (tgt := 92) hx hb dL_wins_84 (by decide) (fun h2 => ?_) (fun h2 => ?_)
        · have hf := tk_pos hf h2
          refine lv_iload hx hb dL_wins_92 (lv_at hl 5 rfl) ?_
          exact J_94 x1_80 x2_80 x3_80 x4_80 x6_80 x7_80 k0_80 x5_80 H locs hP hD hS ls (lv_sub hl [1, 2, 3, 4, 6, 7, 0] rfl) hf
        · have hf := tk_neg hf h2
          refine lv_iload hx hb dL_wins_87 (lv_at hl 6 rfl) ?_
          refine lv_goto (tgt := 94) hx hb dL_wins_89 (by decide) ?_
          exact J_94 x1_80 x2_80 x3_80 x4_80 x6_80 x7_80 k0_80 x6_80 H locs hP hD hS ls (lv_sub hl [1, 2, 3, 4, 6, 7, 0] rfl) hf
      have J_36 : ∀ (x1_36 : Int32) (x2_36 : Int32) (x3_36 : Int32) (x4_36 : Int32) (x5_36 : Int32) (x6_36 : Int32) (k0_36 : Int32) (H : Heap) (locs : List Loc) (_ : va_P G vwCl ws H) (_ : va_D A ws) (_ : va_S A s.heap H locs) (ls : Array Slot) (_ : lv_has ls 9 [(1, .int x1_36), (2, .int x2_36), (3, .int x3_36), (4, .int x4_36), (5, .int x5_36), (6, .int x6_36)]) (_ : f_L_wins_36 (f_L_wins_9 n_9) x1_36 x2_36 x3_36 x4_36 x5_36 x6_36 k0_36 = some r0), W p l e rm_L_wins s m ([.int p0, .int p1, .int p2, .int p3] : List Value).toArray below meth c H locs 0 0 Q (F0 m 36 ls [.int k0_36]) := by
        intro x1_36 x2_36 x3_36 x4_36 x5_36 x6_36 k0_36 H locs hP hD hS ls hl hf
        unfold f_L_wins_36 at hf
        refine lv_istore (lv' := [(7, .int k0_36), (1, .int x1_36), (2, .int x2_36), (3, .int x3_36), (4, .int x4_36), (5, .int x5_36), (6, .int x6_36)]) hx hb dL_wins_36 hl (by decide) rfl (fun ls hl => ?_)
        refine lv_iload hx hb dL_wins_38 (lv_at hl 0 rfl) ?_
        obtain ⟨r3, h4, hf⟩ := tk_b1s hf
        refine tk_ci (ws' := ws) (va_runS (As := [.int k0_36]) (rest := []) ⟨hx, hb, hml, hown, hts⟩ (c_L_suit l G c3 ws k0_36 r3 h4 H.size) (va_cwS 1 hts gL_wins_L_suit rfl rfl rfl hs_L_suit ⟨Nat.le_of_ble_eq_true rfl, Nat.le_of_ble_eq_true rfl⟩) (tk_pS hE hP hD) rfl rfl hl.1 rfl (lv_room (Nat.le_of_ble_eq_true rfl)) dL_wins_40 ⟨Nat.zero_le _, Nat.zero_le _⟩) hD hS hA (fun H locs hP hD hS => ?_)
        refine lv_iload hx hb dL_wins_43 (lv_at hl 4 rfl) ?_
        obtain ⟨r6, h7, hf⟩ := tk_b1s hf
        refine tk_ci (ws' := ws) (va_runS (As := [.int x4_36]) (rest := [.int r3]) ⟨hx, hb, hml, hown, hts⟩ (c_L_suit l G c3 ws x4_36 r6 h7 H.size) (va_cwS 1 hts gL_wins_L_suit rfl rfl rfl hs_L_suit ⟨Nat.le_of_ble_eq_true rfl, Nat.le_of_ble_eq_true rfl⟩) (tk_pS hE hP hD) rfl rfl hl.1 rfl (lv_room (Nat.le_of_ble_eq_true rfl)) dL_wins_45 ⟨Nat.zero_le _, Nat.zero_le _⟩) hD hS hA (fun H locs hP hD hS => ?_)
        refine lv_icmp_ne (tgt := 66) hx hb dL_wins_48 (by decide) (fun h9 => ?_) (fun h9 => ?_)
        · have hf := tk_neg hf h9
          refine lv_iload hx hb dL_wins_66 (lv_at hl 0 rfl) ?_
          obtain ⟨r10, h11, hf⟩ := tk_b1s hf
          refine tk_ci (ws' := ws) (va_runS (As := [.int k0_36]) (rest := []) ⟨hx, hb, hml, hown, hts⟩ (c_L_suit l G c3 ws k0_36 r10 h11 H.size) (va_cwS 1 hts gL_wins_L_suit rfl rfl rfl hs_L_suit ⟨Nat.le_of_ble_eq_true rfl, Nat.le_of_ble_eq_true rfl⟩) (tk_pS hE hP hD) rfl rfl hl.1 rfl (lv_room (Nat.le_of_ble_eq_true rfl)) dL_wins_68 ⟨Nat.zero_le _, Nat.zero_le _⟩) hD hS hA (fun H locs hP hD hS => ?_)
          refine lv_iconst (v := 4) hx hb dL_wins_71 (by decide) ?_
          refine lv_icmp_ne (tgt := 79) hx hb dL_wins_72 (by decide) (fun h13 => ?_) (fun h13 => ?_)
          · have hf := tk_neg hf h13
            refine lv_iconst (v := 0) hx hb dL_wins_79 (by decide) ?_
            exact J_80 x1_36 x2_36 x3_36 x4_36 x5_36 x6_36 k0_36 (0 : Int32) H locs hP hD hS ls (lv_sub hl [1, 2, 3, 4, 5, 6, 0] rfl) hf
          · have hf := tk_pos hf h13
            refine lv_iconst (v := 1) hx hb dL_wins_75 (by decide) ?_
            refine lv_goto (tgt := 80) hx hb dL_wins_76 (by decide) ?_
            exact J_80 x1_36 x2_36 x3_36 x4_36 x5_36 x6_36 k0_36 (1 : Int32) H locs hP hD hS ls (lv_sub hl [1, 2, 3, 4, 5, 6, 0] rfl) hf
        · have hf := tk_pos hf h9
          refine lv_iload hx hb dL_wins_51 (lv_at hl 0 rfl) ?_
          refine lv_iload hx hb dL_wins_53 (lv_at hl 4 rfl) ?_
          refine lv_icmp_le (tgt := 62) hx hb dL_wins_55 (by decide) (fun h14 => ?_) (fun h14 => ?_)
          · have hf := tk_pos hf h14
            refine lv_iconst (v := 0) hx hb dL_wins_62 (by decide) ?_
            refine lv_goto (tgt := 80) hx hb dL_wins_63 (by decide) ?_
            exact J_80 x1_36 x2_36 x3_36 x4_36 x5_36 x6_36 k0_36 (0 : Int32) H locs hP hD hS ls (lv_sub hl [1, 2, 3, 4, 5, 6, 0] rfl) hf
          · have hf := tk_neg hf h14
            refine lv_iconst (v := 1) hx hb dL_wins_58 (by decide) ?_
            refine lv_goto (tgt := 80) hx hb dL_wins_59 (by decide) ?_
            exact J_80 x1_36 x2_36 x3_36 x4_36 x5_36 x6_36 k0_36 (1 : Int32) H locs hP hD hS ls (lv_sub hl [1, 2, 3, 4, 5, 6, 0] rfl) hf
      intro x1_9 x2_9 x3_9 x4_9 x5_9 x6_9 H locs hP hD hS ls hl hf
      rw [f_L_wins_9_s] at hf
      refine lv_iload hx hb dL_wins_9 (lv_at hl 5 rfl) ?_
      refine lv_iconst (v := 4) hx hb dL_wins_11 (by decide) ?_
      refine lv_icmp_ge (tgt := 116) hx hb dL_wins_12 (by decide) (fun h15 => ?_) (fun h15 => ?_)
      · have hf := tk_pos hf h15
        refine lv_iload hx hb dL_wins_116 (lv_at hl 4 rfl) ?_
        exact tk_ri hQ (tk_s1 hf) rfl hx hb hr hlocks hP hD hS dL_wins_118
      · have hf := tk_neg hf h15
        refine lv_iload hx hb dL_wins_15 (lv_at hl 5 rfl) ?_
        refine lv_iconst (v := 1) hx hb dL_wins_17 (by decide) ?_
        refine lv_icmp_ne (tgt := 25) hx hb dL_wins_18 (by decide) (fun h16 => ?_) (fun h16 => ?_)
        · have hf := tk_neg hf h16
          refine lv_iload hx hb dL_wins_25 (lv_at hl 5 rfl) ?_
          refine lv_iconst (v := 2) hx hb dL_wins_27 (by decide) ?_
          refine lv_icmp_ne (tgt := 35) hx hb dL_wins_28 (by decide) (fun h17 => ?_) (fun h17 => ?_)
          · have hf := tk_neg hf h17
            refine lv_iload_n hx hb dL_wins_35 rfl (lv_at hl 2 rfl) ?_
            exact J_36 x1_9 x2_9 x3_9 x4_9 x5_9 x6_9 x3_9 H locs hP hD hS ls (lv_sub hl [0, 1, 2, 3, 4, 5] rfl) hf
          · have hf := tk_pos hf h17
            refine lv_iload_n hx hb dL_wins_31 rfl (lv_at hl 1 rfl) ?_
            refine lv_goto (tgt := 36) hx hb dL_wins_32 (by decide) ?_
            exact J_36 x1_9 x2_9 x3_9 x4_9 x5_9 x6_9 x2_9 H locs hP hD hS ls (lv_sub hl [0, 1, 2, 3, 4, 5] rfl) hf
        · have hf := tk_pos hf h16
          refine lv_iload_n hx hb dL_wins_21 rfl (lv_at hl 0 rfl) ?_
          refine lv_goto (tgt := 36) hx hb dL_wins_22 (by decide) ?_
          exact J_36 x1_9 x2_9 x3_9 x4_9 x5_9 x6_9 x1_9 H locs hP hD hS ls (lv_sub hl [0, 1, 2, 3, 4, 5] rfl) hf
  unfold f_L_wins at hf
  refine lv_iload_n hx hb dL_wins_0 rfl (lv_at hl 0 rfl) ?_
  refine lv_istore (lv' := [(4, .int p0), (0, .int p0), (1, .int p1), (2, .int p2), (3, .int p3)]) hx hb dL_wins_1 hl (by decide) rfl (fun ls hl => ?_)
  refine lv_iconst (v := 0) hx hb dL_wins_3 (by decide) ?_
  refine lv_istore (lv' := [(5, .int (0 : Int32)), (4, .int p0), (0, .int p0), (1, .int p1), (2, .int p2), (3, .int p3)]) hx hb dL_wins_4 hl (by decide) rfl (fun ls hl => ?_)
  refine lv_iconst (v := 1) hx hb dL_wins_6 (by decide) ?_
  refine lv_istore (lv' := [(6, .int (1 : Int32)), (5, .int (0 : Int32)), (4, .int p0), (0, .int p0), (1, .int p1), (2, .int p2), (3, .int p3)]) hx hb dL_wins_7 hl (by decide) rfl (fun ls hl => ?_)
  exact J_9 64 p1 p2 p3 p0 (0 : Int32) (1 : Int32) H locs hP hD hS ls (lv_sub hl [4, 5, 6, 2, 1, 0] rfl) hf
abbrev rm_L_drawn : Room := { frames := 1, cells := 0, slots := 0, locals := 22 }
set_option maxHeartbeats 4000000 in
set_option maxRecDepth 100000 in
theorem c_L_drawn (l : Launch) (G : va_G) (c3 : ClassId × ClassId × ClassId) (ws : va_W) (p0 : Int64) (p1 : Int32) (r0 : Int32) (hf : f_L_drawn p0 p1 = some r0) : tk_Mi l yL_drawn wsL_drawn rm_L_drawn G c3 [.long p0, .int p1] ws ws r0 := by
  refine tk_ofi (cc := cL_drawn) (maxL := 5) (ret := some .int) (by decide) rfl (Nat.le_of_ble_eq_true rfl) ?_
  intro p e s m below meth c A Q ls H locs hx hb hml hr hts hown hlocks hE hA hP hD hS hZ hQ hl
  have hl : lv_has ls 5 [(0, .long p0), (2, .int p1)] := hl
  have hown : s.vm.findClass RL = some m.cls := hown
  have J_8 : ∀ (n_8 : Nat), ∀ (x0_8 : Int64) (x3_8 : Int32) (x4_8 : Int32) (H : Heap) (locs : List Loc) (_ : va_P G vwCl ws H) (_ : va_D A ws) (_ : va_S A s.heap H locs) (ls : Array Slot) (_ : lv_has ls 5 [(0, .long x0_8), (3, .int x3_8), (4, .int x4_8)]) (_ : f_L_drawn_8 n_8 x0_8 x3_8 x4_8 = some r0), W p l e rm_L_drawn s m ([.long p0, .int p1] : List Value).toArray below meth c H locs 0 0 Q (F0 m 8 ls []) := by
    intro n_8
    induction n_8 with
    | zero =>
      intro x0_8 x3_8 x4_8 H locs hP hD hS ls hl hf
      exact absurd hf (by intro h9; cases h9)
    | succ n_8 ih_8 =>
      intro x0_8 x3_8 x4_8 H locs hP hD hS ls hl hf
      rw [f_L_drawn_8_s] at hf
      refine lv_iload hx hb dL_drawn_8 (lv_at hl 2 rfl) ?_
      refine lv_bipush (v := 54) hx hb dL_drawn_10 (by decide) ?_
      refine lv_icmp_ge (tgt := 36) hx hb dL_drawn_12 (by decide) (fun h1 => ?_) (fun h1 => ?_)
      · have hf := tk_pos hf h1
        refine lv_iload_n hx hb dL_drawn_36 rfl (lv_at hl 1 rfl) ?_
        exact tk_ri hQ (tk_s1 hf) rfl hx hb hr hlocks hP hD hS dL_drawn_37
      · have hf := tk_neg hf h1
        refine lv_lload_n hx hb dL_drawn_15 rfl (lv_at hl 0 rfl) ?_
        refine lv_iload_n hx hb dL_drawn_16 rfl (lv_at hl 1 rfl) ?_
        obtain ⟨r2, h3, hf⟩ := tk_b1s hf
        refine tk_ci (ws' := ws) (va_runS (As := [.long x0_8, .int x3_8]) (rest := []) ⟨hx, hb, hml, hown, hts⟩ (c_L_has l G c3 ws x0_8 x3_8 r2 h3 H.size) (va_cwS 2 hts gL_drawn_L_has rfl rfl rfl hs_L_has ⟨Nat.le_of_ble_eq_true rfl, Nat.le_of_ble_eq_true rfl⟩) (tk_pS hE hP hD) rfl rfl hl.1 rfl (lv_room (Nat.le_of_ble_eq_true rfl)) dL_drawn_17 ⟨Nat.zero_le _, Nat.zero_le _⟩) hD hS hA (fun H locs hP hD hS => ?_)
        refine lv_if_ne (tgt := 36) hx hb dL_drawn_20 (by decide) (fun h5 => ?_) (fun h5 => ?_)
        · have hf := tk_neg hf h5
          refine lv_iload_n hx hb dL_drawn_36 rfl (lv_at hl 1 rfl) ?_
          exact tk_ri hQ (tk_s1 hf) rfl hx hb hr hlocks hP hD hS dL_drawn_37
        · have hf := tk_pos hf h5
          refine lv_iload_n hx hb dL_drawn_23 rfl (lv_at hl 1 rfl) ?_
          refine lv_iconst (v := 1) hx hb dL_drawn_24 (by decide) ?_
          refine lv_iadd hx hb dL_drawn_25 ?_
          refine lv_bipush (v := 54) hx hb dL_drawn_26 (by decide) ?_
          refine tk_irem hx hb dL_drawn_28 (by decide) ?_
          refine lv_istore_n (lv' := [(3, .int (tk_rem (x3_8 + (1 : Int32)) (54 : Int32))), (0, .long x0_8), (4, .int x4_8)]) hx hb dL_drawn_29 rfl hl (by decide) rfl (fun ls hl => ?_)
          refine lv_iinc (v := (x4_8 + (1 : Int32))) (lv' := [(4, .int (x4_8 + (1 : Int32))), (3, .int (tk_rem (x3_8 + (1 : Int32)) (54 : Int32))), (0, .long x0_8)]) hx hb dL_drawn_30 hl (k := 2) rfl rfl (by decide) rfl (fun ls hl => ?_)
          refine lv_goto (tgt := 8) hx hb dL_drawn_33 (by decide) ?_
          exact ih_8 x0_8 (tk_rem (x3_8 + (1 : Int32)) (54 : Int32)) (x4_8 + (1 : Int32)) H locs hP hD hS ls (lv_sub hl [2, 1, 0] rfl) hf
  unfold f_L_drawn at hf
  refine lv_iload_n hx hb dL_drawn_0 rfl (lv_at hl 1 rfl) ?_
  refine lv_bipush (v := 54) hx hb dL_drawn_1 (by decide) ?_
  refine tk_irem hx hb dL_drawn_3 (by decide) ?_
  refine lv_istore_n (lv' := [(3, .int (tk_rem p1 (54 : Int32))), (0, .long p0), (2, .int p1)]) hx hb dL_drawn_4 rfl hl (by decide) rfl (fun ls hl => ?_)
  refine lv_iconst (v := 0) hx hb dL_drawn_5 (by decide) ?_
  refine lv_istore (lv' := [(4, .int (0 : Int32)), (3, .int (tk_rem p1 (54 : Int32))), (0, .long p0), (2, .int p1)]) hx hb dL_drawn_6 hl (by decide) rfl (fun ls hl => ?_)
  exact J_8 64 p0 (tk_rem p1 (54 : Int32)) (0 : Int32) H locs hP hD hS ls (lv_sub hl [2, 1, 0] rfl) hf
abbrev rm_L_isScored : Room := { frames := 4, cells := 0, slots := 0, locals := 85 }
set_option maxHeartbeats 4000000 in
set_option maxRecDepth 100000 in
theorem c_L_isScored (l : Launch) (G : va_G) (c3 : ClassId × ClassId × ClassId) (q : Nat → Nat) (S : tk_ST) (r0 : Int32) (hf : f_L_isScored S = some r0) : tk_Mi l yL_isScored wsL_isScored rm_L_isScored G c3 [.ref (q 0), .ref (q 17)] (tk_H c3 q S) (tk_H c3 q S) r0 := by
  refine tk_ofi (cc := cL_isScored) (maxL := 12) (ret := some .boolean) (by decide) rfl (Nat.le_of_ble_eq_true rfl) ?_
  intro p e s m below meth c A Q ls H locs hx hb hml hr hts hown hlocks hE hA hP hD hS hZ hQ hl
  have hl : lv_has ls 12 [(0, .ref (q 0)), (1, .ref (q 17))] := hl
  have hown : s.vm.findClass RL = some m.cls := hown
  have J_253 : ∀ (n_253 : Nat), ∀ (x3_253 : Int32) (x5_253 : Int32) (x8_253 : Int32) (x10_253 : Int32) (H : Heap) (locs : List Loc) (_ : va_P G vwCl (tk_H c3 q S) H) (_ : va_D A (tk_H c3 q S)) (_ : va_S A s.heap H locs) (ls : Array Slot) (_ : lv_has ls 12 [(0, .ref (q 0)), (1, .ref (q 17)), (3, .int x3_253), (5, .int x5_253), (8, .int x8_253), (10, .int x10_253)]) (_ : f_L_isScored_253 n_253 x3_253 x5_253 x8_253 x10_253 S = some r0), W p l e rm_L_isScored s m ([.ref (q 0), .ref (q 17)] : List Value).toArray below meth c H locs 0 0 Q (F0 m 253 ls []) := by
    intro n_253
    induction n_253 with
    | zero =>
      intro x3_253 x5_253 x8_253 x10_253 H locs hP hD hS ls hl hf
      exact absurd hf (by intro h9; cases h9)
    | succ n_253 ih_253 =>
      have J_326 : ∀ (x5_326 : Int32) (x8_326 : Int32) (x10_326 : Int32) (k0_326 : Int32) (H : Heap) (locs : List Loc) (_ : va_P G vwCl (tk_H c3 q S) H) (_ : va_D A (tk_H c3 q S)) (_ : va_S A s.heap H locs) (ls : Array Slot) (_ : lv_has ls 12 [(0, .ref (q 0)), (1, .ref (q 17)), (5, .int x5_326), (8, .int x8_326), (10, .int x10_326)]) (_ : f_L_isScored_326 (f_L_isScored_253 n_253) x5_326 x8_326 x10_326 k0_326 S = some r0), W p l e rm_L_isScored s m ([.ref (q 0), .ref (q 17)] : List Value).toArray below meth c H locs 0 0 Q (F0 m 326 ls [.int k0_326]) := by
        intro x5_326 x8_326 x10_326 k0_326 H locs hP hD hS ls hl hf
        unfold f_L_isScored_326 at hf
        refine lv_istore_n (lv' := [(3, .int k0_326), (0, .ref (q 0)), (1, .ref (q 17)), (5, .int x5_326), (8, .int x8_326), (10, .int x10_326)]) hx hb dL_isScored_326 rfl hl (by decide) rfl (fun ls hl => ?_)
        refine lv_iinc (v := (x10_326 + (1 : Int32))) (lv' := [(10, .int (x10_326 + (1 : Int32))), (3, .int k0_326), (0, .ref (q 0)), (1, .ref (q 17)), (5, .int x5_326), (8, .int x8_326)]) hx hb dL_isScored_327 hl (k := 5) rfl rfl (by decide) rfl (fun ls hl => ?_)
        refine lv_goto (tgt := 253) hx hb dL_isScored_330 (by decide) ?_
        exact ih_253 k0_326 x5_326 x8_326 (x10_326 + (1 : Int32)) H locs hP hD hS ls (lv_sub hl [2, 3, 1, 4, 5, 0] rfl) hf
      have J_325 : ∀ (x5_325 : Int32) (x8_325 : Int32) (x10_325 : Int32) (H : Heap) (locs : List Loc) (_ : va_P G vwCl (tk_H c3 q S) H) (_ : va_D A (tk_H c3 q S)) (_ : va_S A s.heap H locs) (ls : Array Slot) (_ : lv_has ls 12 [(0, .ref (q 0)), (1, .ref (q 17)), (5, .int x5_325), (8, .int x8_325), (10, .int x10_325)]) (_ : f_L_isScored_325 (f_L_isScored_253 n_253) x5_325 x8_325 x10_325 S = some r0), W p l e rm_L_isScored s m ([.ref (q 0), .ref (q 17)] : List Value).toArray below meth c H locs 0 0 Q (F0 m 325 ls []) := by
        intro x5_325 x8_325 x10_325 H locs hP hD hS ls hl hf
        unfold f_L_isScored_325 at hf
        refine lv_iconst (v := 0) hx hb dL_isScored_325 (by decide) ?_
        exact J_326 x5_325 x8_325 x10_325 (0 : Int32) H locs hP hD hS ls (lv_sub hl [0, 1, 2, 3, 4] rfl) hf
      have J_317 : ∀ (x5_317 : Int32) (x8_317 : Int32) (x10_317 : Int32) (k0_317 : Int32) (k1_317 : Int32) (k2_317 : Int32) (H : Heap) (locs : List Loc) (_ : va_P G vwCl (tk_H c3 q S) H) (_ : va_D A (tk_H c3 q S)) (_ : va_S A s.heap H locs) (ls : Array Slot) (_ : lv_has ls 12 [(0, .ref (q 0)), (1, .ref (q 17)), (5, .int x5_317), (8, .int x8_317), (10, .int x10_317)]) (_ : f_L_isScored_317 (f_L_isScored_253 n_253) x5_317 x8_317 x10_317 k0_317 k1_317 k2_317 S = some r0), W p l e rm_L_isScored s m ([.ref (q 0), .ref (q 17)] : List Value).toArray below meth c H locs 0 0 Q (F0 m 317 ls [.int k2_317, .int k1_317, .int k0_317]) := by
        intro x5_317 x8_317 x10_317 k0_317 k1_317 k2_317 H locs hP hD hS ls hl hf
        unfold f_L_isScored_317 at hf
        refine lv_iadd hx hb dL_isScored_317 ?_
        refine lv_icmp_ne (tgt := 325) hx hb dL_isScored_318 (by decide) (fun h1 => ?_) (fun h1 => ?_)
        · have hf := tk_neg hf h1
          exact J_325 x5_317 x8_317 x10_317 H locs hP hD hS ls (lv_sub hl [0, 1, 2, 3, 4] rfl) hf
        · have hf := tk_pos hf h1
          refine lv_iconst (v := 1) hx hb dL_isScored_321 (by decide) ?_
          refine lv_goto (tgt := 326) hx hb dL_isScored_322 (by decide) ?_
          exact J_326 x5_317 x8_317 x10_317 (1 : Int32) H locs hP hD hS ls (lv_sub hl [0, 1, 2, 3, 4] rfl) hf
      have J_283 : ∀ (x3_283 : Int32) (x5_283 : Int32) (x8_283 : Int32) (x10_283 : Int32) (k0_283 : Int32) (H : Heap) (locs : List Loc) (_ : va_P G vwCl (tk_H c3 q S) H) (_ : va_D A (tk_H c3 q S)) (_ : va_S A s.heap H locs) (ls : Array Slot) (_ : lv_has ls 12 [(0, .ref (q 0)), (1, .ref (q 17)), (3, .int x3_283), (5, .int x5_283), (8, .int x8_283), (10, .int x10_283)]) (_ : f_L_isScored_283 (f_L_isScored_253 n_253) x3_283 x5_283 x8_283 x10_283 k0_283 S = some r0), W p l e rm_L_isScored s m ([.ref (q 0), .ref (q 17)] : List Value).toArray below meth c H locs 0 0 Q (F0 m 283 ls [.int k0_283]) := by
        intro x3_283 x5_283 x8_283 x10_283 k0_283 H locs hP hD hS ls hl hf
        unfold f_L_isScored_283 at hf
        refine lv_istore (lv' := [(11, .int k0_283), (0, .ref (q 0)), (1, .ref (q 17)), (3, .int x3_283), (5, .int x5_283), (8, .int x8_283), (10, .int x10_283)]) hx hb dL_isScored_283 hl (by decide) rfl (fun ls hl => ?_)
        refine lv_iload_n hx hb dL_isScored_285 rfl (lv_at hl 3 rfl) ?_
        refine lv_if_eq (tgt := 325) hx hb dL_isScored_286 (by decide) (fun h2 => ?_) (fun h2 => ?_)
        · have hf := tk_pos hf h2
          exact J_325 x5_283 x8_283 x10_283 H locs hP hD hS ls (lv_sub hl [1, 2, 4, 5, 6] rfl) hf
        · have hf := tk_neg hf h2
          refine lv_aload_n hx hb dL_isScored_289 rfl (lv_at hl 1 rfl) ?_
          refine lv_iload hx hb dL_isScored_290 (lv_at hl 6 rfl) ?_
          obtain ⟨r3, h4, hf⟩ := tk_b1s hf
          refine tk_ci (ws' := (tk_H c3 q S)) (va_runV (As := [.int x10_283]) (rest := []) ⟨hx, hb, hml, hown, hts⟩ (c0_X6_radli l G c3 q S x10_283 r3 h4 H.size) (cwV 1 hts gL_isScored_X6_radli rfl rfl rfl hv_X6_radli ⟨Nat.le_of_ble_eq_true rfl, Nat.le_of_ble_eq_true rfl⟩) (tk_pV hE hP hD 0 rfl rfl) rfl rfl hl.1 rfl (lv_room (Nat.le_of_ble_eq_true rfl)) dL_isScored_292 ⟨Nat.zero_le _, Nat.zero_le _⟩) hD hS hA (fun H locs hP hD hS => ?_)
          refine lv_aload_n hx hb dL_isScored_295 rfl (lv_at hl 2 rfl) ?_
          refine lv_iconst (v := 4) hx hb dL_isScored_296 (by decide) ?_
          refine lv_iload hx hb dL_isScored_297 (lv_at hl 6 rfl) ?_
          refine lv_iadd hx hb dL_isScored_299 ?_
          obtain ⟨h6, hf⟩ := tk_ok hf
          refine va_iald (f := (S.2.2.1 4)) hx hb hE.1 hP 17 0 rfl rfl h6 dL_isScored_300 ?_
          refine lv_iload hx hb dL_isScored_301 (lv_at hl 0 rfl) ?_
          refine lv_isub hx hb dL_isScored_303 ?_
          refine lv_aload_n hx hb dL_isScored_304 rfl (lv_at hl 1 rfl) ?_
          obtain ⟨r7, h8, hf⟩ := tk_b1s hf
          refine tk_ci (ws' := (tk_H c3 q S)) (va_runV (As := []) (rest := [.int (((S.2.2.1 4) ((4 : Int32) + x10_283).toNatClampNeg) - k0_283), .int r3]) ⟨hx, hb, hml, hown, hts⟩ (c_X6_level l G c3 q S r7 h8 H.size) (cwV 0 hts gL_isScored_X6_level rfl rfl rfl hv_X6_level ⟨Nat.le_of_ble_eq_true rfl, Nat.le_of_ble_eq_true rfl⟩) (tk_pV hE hP hD 0 rfl rfl) rfl rfl hl.1 rfl (lv_room (Nat.le_of_ble_eq_true rfl)) dL_isScored_305 ⟨Nat.zero_le _, Nat.zero_le _⟩) hD hS hA (fun H locs hP hD hS => ?_)
          refine lv_iconst (v := 3) hx hb dL_isScored_308 (by decide) ?_
          refine lv_icmp_le (tgt := 316) hx hb dL_isScored_309 (by decide) (fun h10 => ?_) (fun h10 => ?_)
          · have hf := tk_pos hf h10
            refine lv_iconst (v := 0) hx hb dL_isScored_316 (by decide) ?_
            exact J_317 x5_283 x8_283 x10_283 r3 (((S.2.2.1 4) ((4 : Int32) + x10_283).toNatClampNeg) - k0_283) (0 : Int32) H locs hP hD hS ls (lv_sub hl [1, 2, 4, 5, 6] rfl) hf
          · have hf := tk_neg hf h10
            refine lv_iconst (v := 1) hx hb dL_isScored_312 (by decide) ?_
            refine lv_goto (tgt := 317) hx hb dL_isScored_313 (by decide) ?_
            exact J_317 x5_283 x8_283 x10_283 r3 (((S.2.2.1 4) ((4 : Int32) + x10_283).toNatClampNeg) - k0_283) (1 : Int32) H locs hP hD hS ls (lv_sub hl [1, 2, 4, 5, 6] rfl) hf
      have J_282 : ∀ (x3_282 : Int32) (x5_282 : Int32) (x8_282 : Int32) (x10_282 : Int32) (H : Heap) (locs : List Loc) (_ : va_P G vwCl (tk_H c3 q S) H) (_ : va_D A (tk_H c3 q S)) (_ : va_S A s.heap H locs) (ls : Array Slot) (_ : lv_has ls 12 [(0, .ref (q 0)), (1, .ref (q 17)), (3, .int x3_282), (5, .int x5_282), (8, .int x8_282), (10, .int x10_282)]) (_ : f_L_isScored_282 (f_L_isScored_253 n_253) x3_282 x5_282 x8_282 x10_282 S = some r0), W p l e rm_L_isScored s m ([.ref (q 0), .ref (q 17)] : List Value).toArray below meth c H locs 0 0 Q (F0 m 282 ls []) := by
        intro x3_282 x5_282 x8_282 x10_282 H locs hP hD hS ls hl hf
        unfold f_L_isScored_282 at hf
        refine lv_iconst (v := 0) hx hb dL_isScored_282 (by decide) ?_
        exact J_283 x3_282 x5_282 x8_282 x10_282 (0 : Int32) H locs hP hD hS ls (lv_sub hl [0, 1, 2, 3, 4, 5] rfl) hf
      intro x3_253 x5_253 x8_253 x10_253 H locs hP hD hS ls hl hf
      rw [f_L_isScored_253_s] at hf
      refine lv_iload hx hb dL_isScored_253 (lv_at hl 5 rfl) ?_
      refine lv_iconst (v := 4) hx hb dL_isScored_255 (by decide) ?_
      refine lv_icmp_ge (tgt := 333) hx hb dL_isScored_256 (by decide) (fun h11 => ?_) (fun h11 => ?_)
      · have hf := tk_pos hf h11
        refine lv_iload_n hx hb dL_isScored_333 rfl (lv_at hl 2 rfl) ?_
        obtain ⟨h12, hf⟩ := tk_yes hf
        exact tk_rz hQ (tk_s1 hf) rfl h12 hx hb hr hlocks hP hD hS dL_isScored_334
      · have hf := tk_neg hf h11
        refine lv_iload hx hb dL_isScored_259 (lv_at hl 5 rfl) ?_
        refine lv_aload_n hx hb dL_isScored_261 rfl (lv_at hl 0 rfl) ?_
        obtain ⟨r13, h14, hf⟩ := tk_b1s hf
        refine tk_ci (ws' := (tk_H c3 q S)) (va_runV (As := []) (rest := [.int x10_253]) ⟨hx, hb, hml, hown, hts⟩ (c_X6_declarer l G c3 q S r13 h14 H.size) (cwV 0 hts gL_isScored_X6_declarer rfl rfl rfl hv_X6_declarer ⟨Nat.le_of_ble_eq_true rfl, Nat.le_of_ble_eq_true rfl⟩) (tk_pV hE hP hD 0 rfl rfl) rfl rfl hl.1 rfl (lv_room (Nat.le_of_ble_eq_true rfl)) dL_isScored_262 ⟨Nat.zero_le _, Nat.zero_le _⟩) hD hS hA (fun H locs hP hD hS => ?_)
        refine lv_icmp_ne (tgt := 282) hx hb dL_isScored_265 (by decide) (fun h16 => ?_) (fun h16 => ?_)
        · have hf := tk_neg hf h16
          exact J_282 x3_253 x5_253 x8_253 x10_253 H locs hP hD hS ls (lv_sub hl [0, 1, 2, 3, 4, 5] rfl) hf
        · have hf := tk_pos hf h16
          refine lv_iload hx hb dL_isScored_268 (lv_at hl 4 rfl) ?_
          refine lv_if_le (tgt := 282) hx hb dL_isScored_270 (by decide) (fun h17 => ?_) (fun h17 => ?_)
          · have hf := tk_pos hf h17
            exact J_282 x3_253 x5_253 x8_253 x10_253 H locs hP hD hS ls (lv_sub hl [0, 1, 2, 3, 4, 5] rfl) hf
          · have hf := tk_neg hf h17
            refine lv_iload hx hb dL_isScored_273 (lv_at hl 3 rfl) ?_
            refine lv_if_eq (tgt := 282) hx hb dL_isScored_275 (by decide) (fun h18 => ?_) (fun h18 => ?_)
            · have hf := tk_pos hf h18
              exact J_282 x3_253 x5_253 x8_253 x10_253 H locs hP hD hS ls (lv_sub hl [0, 1, 2, 3, 4, 5] rfl) hf
            · have hf := tk_neg hf h18
              refine lv_iconst (v := 1) hx hb dL_isScored_278 (by decide) ?_
              refine lv_goto (tgt := 283) hx hb dL_isScored_279 (by decide) ?_
              exact J_283 x3_253 x5_253 x8_253 x10_253 (1 : Int32) H locs hP hD hS ls (lv_sub hl [0, 1, 2, 3, 4, 5] rfl) hf
  have J_249 : ∀ (x5_249 : Int32) (x8_249 : Int32) (k0_249 : Int32) (H : Heap) (locs : List Loc) (_ : va_P G vwCl (tk_H c3 q S) H) (_ : va_D A (tk_H c3 q S)) (_ : va_S A s.heap H locs) (ls : Array Slot) (_ : lv_has ls 12 [(0, .ref (q 0)), (1, .ref (q 17)), (5, .int x5_249), (8, .int x8_249)]) (_ : f_L_isScored_249 x5_249 x8_249 k0_249 S = some r0), W p l e rm_L_isScored s m ([.ref (q 0), .ref (q 17)] : List Value).toArray below meth c H locs 0 0 Q (F0 m 249 ls [.int k0_249]) := by
    intro x5_249 x8_249 k0_249 H locs hP hD hS ls hl hf
    unfold f_L_isScored_249 at hf
    refine lv_istore_n (lv' := [(3, .int k0_249), (0, .ref (q 0)), (1, .ref (q 17)), (5, .int x5_249), (8, .int x8_249)]) hx hb dL_isScored_249 rfl hl (by decide) rfl (fun ls hl => ?_)
    refine lv_iconst (v := 0) hx hb dL_isScored_250 (by decide) ?_
    refine lv_istore (lv' := [(10, .int (0 : Int32)), (3, .int k0_249), (0, .ref (q 0)), (1, .ref (q 17)), (5, .int x5_249), (8, .int x8_249)]) hx hb dL_isScored_251 hl (by decide) rfl (fun ls hl => ?_)
    exact J_253 64 k0_249 x5_249 x8_249 (0 : Int32) H locs hP hD hS ls (lv_sub hl [2, 3, 1, 4, 5, 0] rfl) hf
  have J_248 : ∀ (x5_248 : Int32) (x8_248 : Int32) (H : Heap) (locs : List Loc) (_ : va_P G vwCl (tk_H c3 q S) H) (_ : va_D A (tk_H c3 q S)) (_ : va_S A s.heap H locs) (ls : Array Slot) (_ : lv_has ls 12 [(0, .ref (q 0)), (1, .ref (q 17)), (5, .int x5_248), (8, .int x8_248)]) (_ : f_L_isScored_248 x5_248 x8_248 S = some r0), W p l e rm_L_isScored s m ([.ref (q 0), .ref (q 17)] : List Value).toArray below meth c H locs 0 0 Q (F0 m 248 ls []) := by
    intro x5_248 x8_248 H locs hP hD hS ls hl hf
    unfold f_L_isScored_248 at hf
    refine lv_iconst (v := 0) hx hb dL_isScored_248 (by decide) ?_
    exact J_249 x5_248 x8_248 (0 : Int32) H locs hP hD hS ls (lv_sub hl [0, 1, 2, 3] rfl) hf
  have J_223 : ∀ (x5_223 : Int32) (x8_223 : Int32) (x9_223 : Int32) (H : Heap) (locs : List Loc) (_ : va_P G vwCl (tk_H c3 q S) H) (_ : va_D A (tk_H c3 q S)) (_ : va_S A s.heap H locs) (ls : Array Slot) (_ : lv_has ls 12 [(0, .ref (q 0)), (1, .ref (q 17)), (5, .int x5_223), (8, .int x8_223), (9, .int x9_223)]) (_ : f_L_isScored_223 x5_223 x8_223 x9_223 S = some r0), W p l e rm_L_isScored s m ([.ref (q 0), .ref (q 17)] : List Value).toArray below meth c H locs 0 0 Q (F0 m 223 ls []) := by
    intro x5_223 x8_223 x9_223 H locs hP hD hS ls hl hf
    unfold f_L_isScored_223 at hf
    refine lv_iload hx hb dL_isScored_223 (lv_at hl 4 rfl) ?_
    refine lv_bipush (v := -70) hx hb dL_isScored_225 (by decide) ?_
    refine lv_icmp_lt (tgt := 248) hx hb dL_isScored_227 (by decide) (fun h19 => ?_) (fun h19 => ?_)
    · have hf := tk_pos hf h19
      exact J_248 x5_223 x8_223 H locs hP hD hS ls (lv_sub hl [0, 1, 2, 3] rfl) hf
    · have hf := tk_neg hf h19
      refine lv_iload hx hb dL_isScored_230 (lv_at hl 4 rfl) ?_
      refine lv_bipush (v := 70) hx hb dL_isScored_232 (by decide) ?_
      refine lv_icmp_gt (tgt := 248) hx hb dL_isScored_234 (by decide) (fun h20 => ?_) (fun h20 => ?_)
      · have hf := tk_pos hf h20
        exact J_248 x5_223 x8_223 H locs hP hD hS ls (lv_sub hl [0, 1, 2, 3] rfl) hf
      · have hf := tk_neg hf h20
        refine lv_iload hx hb dL_isScored_237 (lv_at hl 4 rfl) ?_
        refine lv_iconst (v := 5) hx hb dL_isScored_239 (by decide) ?_
        refine tk_irem hx hb dL_isScored_240 (by decide) ?_
        refine lv_if_ne (tgt := 248) hx hb dL_isScored_241 (by decide) (fun h21 => ?_) (fun h21 => ?_)
        · have hf := tk_neg hf h21
          exact J_248 x5_223 x8_223 H locs hP hD hS ls (lv_sub hl [0, 1, 2, 3] rfl) hf
        · have hf := tk_pos hf h21
          refine lv_iconst (v := 1) hx hb dL_isScored_244 (by decide) ?_
          refine lv_goto (tgt := 249) hx hb dL_isScored_245 (by decide) ?_
          exact J_249 x5_223 x8_223 (1 : Int32) H locs hP hD hS ls (lv_sub hl [0, 1, 2, 3] rfl) hf
  have J_203 : ∀ (x2_203 : Int32) (x3_203 : Int32) (x5_203 : Int32) (x7_203 : Int32) (x8_203 : Int32) (k0_203 : Int32) (H : Heap) (locs : List Loc) (_ : va_P G vwCl (tk_H c3 q S) H) (_ : va_D A (tk_H c3 q S)) (_ : va_S A s.heap H locs) (ls : Array Slot) (_ : lv_has ls 12 [(0, .ref (q 0)), (1, .ref (q 17)), (2, .int x2_203), (3, .int x3_203), (5, .int x5_203), (7, .int x7_203), (8, .int x8_203)]) (_ : f_L_isScored_203 x2_203 x3_203 x5_203 x7_203 x8_203 k0_203 S = some r0), W p l e rm_L_isScored s m ([.ref (q 0), .ref (q 17)] : List Value).toArray below meth c H locs 0 0 Q (F0 m 203 ls [.int k0_203]) := by
    intro x2_203 x3_203 x5_203 x7_203 x8_203 k0_203 H locs hP hD hS ls hl hf
    unfold f_L_isScored_203 at hf
    refine lv_iload hx hb dL_isScored_203 (lv_at hl 5 rfl) ?_
    refine lv_isub hx hb dL_isScored_205 ?_
    refine lv_istore (lv' := [(9, .int (k0_203 - x7_203)), (0, .ref (q 0)), (1, .ref (q 17)), (2, .int x2_203), (3, .int x3_203), (5, .int x5_203), (7, .int x7_203), (8, .int x8_203)]) hx hb dL_isScored_206 hl (by decide) rfl (fun ls hl => ?_)
    refine lv_iload_n hx hb dL_isScored_208 rfl (lv_at hl 4 rfl) ?_
    refine lv_if_eq (tgt := 248) hx hb dL_isScored_209 (by decide) (fun h22 => ?_) (fun h22 => ?_)
    · have hf := tk_pos hf h22
      exact J_248 x5_203 x8_203 H locs hP hD hS ls (lv_sub hl [1, 2, 5, 7] rfl) hf
    · have hf := tk_neg hf h22
      refine lv_iload hx hb dL_isScored_212 (lv_at hl 7 rfl) ?_
      refine lv_if_eq (tgt := 223) hx hb dL_isScored_214 (by decide) (fun h23 => ?_) (fun h23 => ?_)
      · have hf := tk_pos hf h23
        exact J_223 x5_203 x8_203 (k0_203 - x7_203) H locs hP hD hS ls (lv_sub hl [1, 2, 5, 7, 0] rfl) hf
      · have hf := tk_neg hf h23
        refine lv_iload_n hx hb dL_isScored_217 rfl (lv_at hl 3 rfl) ?_
        refine lv_iconst (v := 2) hx hb dL_isScored_218 (by decide) ?_
        refine tk_irem hx hb dL_isScored_219 (by decide) ?_
        refine lv_if_ne (tgt := 248) hx hb dL_isScored_220 (by decide) (fun h24 => ?_) (fun h24 => ?_)
        · have hf := tk_neg hf h24
          exact J_248 x5_203 x8_203 H locs hP hD hS ls (lv_sub hl [1, 2, 5, 7] rfl) hf
        · have hf := tk_pos hf h24
          exact J_223 x5_203 x8_203 (k0_203 - x7_203) H locs hP hD hS ls (lv_sub hl [1, 2, 5, 7, 0] rfl) hf
  have J_179 : ∀ (x2_179 : Int32) (x3_179 : Int32) (x5_179 : Int32) (k0_179 : Int32) (H : Heap) (locs : List Loc) (_ : va_P G vwCl (tk_H c3 q S) H) (_ : va_D A (tk_H c3 q S)) (_ : va_S A s.heap H locs) (ls : Array Slot) (_ : lv_has ls 12 [(0, .ref (q 0)), (1, .ref (q 17)), (2, .int x2_179), (3, .int x3_179), (5, .int x5_179)]) (_ : f_L_isScored_179 x2_179 x3_179 x5_179 k0_179 S = some r0), W p l e rm_L_isScored s m ([.ref (q 0), .ref (q 17)] : List Value).toArray below meth c H locs 0 0 Q (F0 m 179 ls [.int k0_179]) := by
    intro x2_179 x3_179 x5_179 k0_179 H locs hP hD hS ls hl hf
    unfold f_L_isScored_179 at hf
    refine lv_istore (lv' := [(7, .int k0_179), (0, .ref (q 0)), (1, .ref (q 17)), (2, .int x2_179), (3, .int x3_179), (5, .int x5_179)]) hx hb dL_isScored_179 hl (by decide) rfl (fun ls hl => ?_)
    refine lv_aload_n hx hb dL_isScored_181 rfl (lv_at hl 2 rfl) ?_
    refine lv_iconst (v := 4) hx hb dL_isScored_182 (by decide) ?_
    refine lv_aload_n hx hb dL_isScored_183 rfl (lv_at hl 1 rfl) ?_
    obtain ⟨r25, h26, hf⟩ := tk_b1s hf
    refine tk_ci (ws' := (tk_H c3 q S)) (va_runV (As := []) (rest := [.int (4 : Int32), .ref (q 17)]) ⟨hx, hb, hml, hown, hts⟩ (c_X6_declarer l G c3 q S r25 h26 H.size) (cwV 0 hts gL_isScored_X6_declarer rfl rfl rfl hv_X6_declarer ⟨Nat.le_of_ble_eq_true rfl, Nat.le_of_ble_eq_true rfl⟩) (tk_pV hE hP hD 0 rfl rfl) rfl rfl hl.1 rfl (lv_room (Nat.le_of_ble_eq_true rfl)) dL_isScored_184 ⟨Nat.zero_le _, Nat.zero_le _⟩) hD hS hA (fun H locs hP hD hS => ?_)
    refine lv_iadd hx hb dL_isScored_187 ?_
    obtain ⟨h28, hf⟩ := tk_ok hf
    refine va_iald (f := (S.2.2.1 4)) hx hb hE.1 hP 17 0 rfl rfl h28 dL_isScored_188 ?_
    refine lv_istore (lv' := [(8, .int ((S.2.2.1 4) ((4 : Int32) + r25).toNatClampNeg)), (7, .int k0_179), (0, .ref (q 0)), (1, .ref (q 17)), (2, .int x2_179), (3, .int x3_179), (5, .int x5_179)]) hx hb dL_isScored_189 hl (by decide) rfl (fun ls hl => ?_)
    refine lv_iload hx hb dL_isScored_191 (lv_at hl 0 rfl) ?_
    refine lv_if_le (tgt := 202) hx hb dL_isScored_193 (by decide) (fun h29 => ?_) (fun h29 => ?_)
    · have hf := tk_pos hf h29
      refine lv_iload_n hx hb dL_isScored_202 rfl (lv_at hl 4 rfl) ?_
      exact J_203 x2_179 x3_179 x5_179 k0_179 ((S.2.2.1 4) ((4 : Int32) + r25).toNatClampNeg) x2_179 H locs hP hD hS ls (lv_sub hl [2, 3, 4, 5, 6, 1, 0] rfl) hf
    · have hf := tk_neg hf h29
      refine lv_iload_n hx hb dL_isScored_196 rfl (lv_at hl 4 rfl) ?_
      refine lv_iconst (v := 2) hx hb dL_isScored_197 (by decide) ?_
      refine lv_idiv hx hb dL_isScored_198 (by decide) ?_
      refine lv_goto (tgt := 203) hx hb dL_isScored_199 (by decide) ?_
      exact J_203 x2_179 x3_179 x5_179 k0_179 ((S.2.2.1 4) ((4 : Int32) + r25).toNatClampNeg) (x2_179 / (2 : Int32)) H locs hP hD hS ls (lv_sub hl [2, 3, 4, 5, 6, 1, 0] rfl) hf
  have J_163 : ∀ (x2_163 : Int32) (x3_163 : Int32) (x5_163 : Int32) (k0_163 : Int32) (k1_163 : Int32) (H : Heap) (locs : List Loc) (_ : va_P G vwCl (tk_H c3 q S) H) (_ : va_D A (tk_H c3 q S)) (_ : va_S A s.heap H locs) (ls : Array Slot) (_ : lv_has ls 12 [(0, .ref (q 0)), (1, .ref (q 17)), (2, .int x2_163), (3, .int x3_163), (5, .int x5_163)]) (_ : f_L_isScored_163 x2_163 x3_163 x5_163 k0_163 k1_163 S = some r0), W p l e rm_L_isScored s m ([.ref (q 0), .ref (q 17)] : List Value).toArray below meth c H locs 0 0 Q (F0 m 163 ls [.int k1_163, .int k0_163]) := by
    intro x2_163 x3_163 x5_163 k0_163 k1_163 H locs hP hD hS ls hl hf
    unfold f_L_isScored_163 at hf
    refine lv_iadd hx hb dL_isScored_163 ?_
    refine lv_istore (lv' := [(7, .int (k0_163 + k1_163)), (0, .ref (q 0)), (1, .ref (q 17)), (2, .int x2_163), (3, .int x3_163), (5, .int x5_163)]) hx hb dL_isScored_164 hl (by decide) rfl (fun ls hl => ?_)
    refine lv_iload hx hb dL_isScored_166 (lv_at hl 5 rfl) ?_
    refine lv_if_eq (tgt := 176) hx hb dL_isScored_168 (by decide) (fun h30 => ?_) (fun h30 => ?_)
    · have hf := tk_pos hf h30
      refine lv_iload hx hb dL_isScored_176 (lv_at hl 0 rfl) ?_
      refine lv_ineg hx hb dL_isScored_178 ?_
      exact J_179 x2_163 x3_163 x5_163 (-(k0_163 + k1_163)) H locs hP hD hS ls (lv_sub hl [1, 2, 3, 4, 5] rfl) hf
    · have hf := tk_neg hf h30
      refine lv_iload hx hb dL_isScored_171 (lv_at hl 0 rfl) ?_
      refine lv_goto (tgt := 179) hx hb dL_isScored_173 (by decide) ?_
      exact J_179 x2_163 x3_163 x5_163 (k0_163 + k1_163) H locs hP hD hS ls (lv_sub hl [1, 2, 3, 4, 5] rfl) hf
  have J_126 : ∀ (x2_126 : Int32) (x3_126 : Int32) (x5_126 : Int32) (k0_126 : Int32) (H : Heap) (locs : List Loc) (_ : va_P G vwCl (tk_H c3 q S) H) (_ : va_D A (tk_H c3 q S)) (_ : va_S A s.heap H locs) (ls : Array Slot) (_ : lv_has ls 12 [(0, .ref (q 0)), (1, .ref (q 17)), (2, .int x2_126), (3, .int x3_126), (5, .int x5_126)]) (_ : f_L_isScored_126 x2_126 x3_126 x5_126 k0_126 S = some r0), W p l e rm_L_isScored s m ([.ref (q 0), .ref (q 17)] : List Value).toArray below meth c H locs 0 0 Q (F0 m 126 ls [.int k0_126]) := by
    intro x2_126 x3_126 x5_126 k0_126 H locs hP hD hS ls hl hf
    unfold f_L_isScored_126 at hf
    refine lv_istore (lv' := [(6, .int k0_126), (0, .ref (q 0)), (1, .ref (q 17)), (2, .int x2_126), (3, .int x3_126), (5, .int x5_126)]) hx hb dL_isScored_126 hl (by decide) rfl (fun ls hl => ?_)
    refine lv_iload hx hb dL_isScored_128 (lv_at hl 0 rfl) ?_
    refine lv_aload_n hx hb dL_isScored_130 rfl (lv_at hl 1 rfl) ?_
    obtain ⟨r31, h32, hf⟩ := tk_b1s hf
    refine tk_ci (ws' := (tk_H c3 q S)) (va_runV (As := []) (rest := [.int k0_126]) ⟨hx, hb, hml, hown, hts⟩ (c_X6_level l G c3 q S r31 h32 H.size) (cwV 0 hts gL_isScored_X6_level rfl rfl rfl hv_X6_level ⟨Nat.le_of_ble_eq_true rfl, Nat.le_of_ble_eq_true rfl⟩) (tk_pV hE hP hD 0 rfl rfl) rfl rfl hl.1 rfl (lv_room (Nat.le_of_ble_eq_true rfl)) dL_isScored_131 ⟨Nat.zero_le _, Nat.zero_le _⟩) hD hS hA (fun H locs hP hD hS => ?_)
    refine lv_iconst (v := 4) hx hb dL_isScored_134 (by decide) ?_
    refine lv_icmp_ne (tgt := 143) hx hb dL_isScored_135 (by decide) (fun h34 => ?_) (fun h34 => ?_)
    · have hf := tk_neg hf h34
      refine lv_aload_n hx hb dL_isScored_143 rfl (lv_at hl 1 rfl) ?_
      obtain ⟨r35, h36, hf⟩ := tk_b1s hf
      refine tk_ci (ws' := (tk_H c3 q S)) (va_runV (As := []) (rest := [.int k0_126]) ⟨hx, hb, hml, hown, hts⟩ (c_X6_level l G c3 q S r35 h36 H.size) (cwV 0 hts gL_isScored_X6_level rfl rfl rfl hv_X6_level ⟨Nat.le_of_ble_eq_true rfl, Nat.le_of_ble_eq_true rfl⟩) (tk_pV hE hP hD 0 rfl rfl) rfl rfl hl.1 rfl (lv_room (Nat.le_of_ble_eq_true rfl)) dL_isScored_144 ⟨Nat.zero_le _, Nat.zero_le _⟩) hD hS hA (fun H locs hP hD hS => ?_)
      refine lv_iconst (v := 5) hx hb dL_isScored_147 (by decide) ?_
      refine lv_icmp_ne (tgt := 156) hx hb dL_isScored_148 (by decide) (fun h38 => ?_) (fun h38 => ?_)
      · have hf := tk_neg hf h38
        refine lv_bipush (v := 10) hx hb dL_isScored_156 (by decide) ?_
        refine lv_aload_n hx hb dL_isScored_158 rfl (lv_at hl 1 rfl) ?_
        obtain ⟨r39, h40, hf⟩ := tk_b1s hf
        refine tk_ci (ws' := (tk_H c3 q S)) (va_runV (As := []) (rest := [.int (10 : Int32), .int k0_126]) ⟨hx, hb, hml, hown, hts⟩ (c_X6_level l G c3 q S r39 h40 H.size) (cwV 0 hts gL_isScored_X6_level rfl rfl rfl hv_X6_level ⟨Nat.le_of_ble_eq_true rfl, Nat.le_of_ble_eq_true rfl⟩) (tk_pV hE hP hD 0 rfl rfl) rfl rfl hl.1 rfl (lv_room (Nat.le_of_ble_eq_true rfl)) dL_isScored_159 ⟨Nat.zero_le _, Nat.zero_le _⟩) hD hS hA (fun H locs hP hD hS => ?_)
        refine lv_imul hx hb dL_isScored_162 ?_
        exact J_163 x2_126 x3_126 x5_126 k0_126 ((10 : Int32) * r39) H locs hP hD hS ls (lv_sub hl [1, 2, 3, 4, 5] rfl) hf
      · have hf := tk_pos hf h38
        refine lv_bipush (v := 80) hx hb dL_isScored_151 (by decide) ?_
        refine lv_goto (tgt := 163) hx hb dL_isScored_153 (by decide) ?_
        exact J_163 x2_126 x3_126 x5_126 k0_126 (80 : Int32) H locs hP hD hS ls (lv_sub hl [1, 2, 3, 4, 5] rfl) hf
    · have hf := tk_pos hf h34
      refine lv_bipush (v := 50) hx hb dL_isScored_138 (by decide) ?_
      refine lv_goto (tgt := 163) hx hb dL_isScored_140 (by decide) ?_
      exact J_163 x2_126 x3_126 x5_126 k0_126 (50 : Int32) H locs hP hD hS ls (lv_sub hl [1, 2, 3, 4, 5] rfl) hf
  have J_124 : ∀ (x2_124 : Int32) (x3_124 : Int32) (x5_124 : Int32) (k0_124 : Int32) (H : Heap) (locs : List Loc) (_ : va_P G vwCl (tk_H c3 q S) H) (_ : va_D A (tk_H c3 q S)) (_ : va_S A s.heap H locs) (ls : Array Slot) (_ : lv_has ls 12 [(0, .ref (q 0)), (1, .ref (q 17)), (2, .int x2_124), (3, .int x3_124), (5, .int x5_124)]) (_ : f_L_isScored_124 x2_124 x3_124 x5_124 k0_124 S = some r0), W p l e rm_L_isScored s m ([.ref (q 0), .ref (q 17)] : List Value).toArray below meth c H locs 0 0 Q (F0 m 124 ls [.int k0_124]) := by
    intro x2_124 x3_124 x5_124 k0_124 H locs hP hD hS ls hl hf
    unfold f_L_isScored_124 at hf
    refine lv_iconst (v := 3) hx hb dL_isScored_124 (by decide) ?_
    refine lv_idiv hx hb dL_isScored_125 (by decide) ?_
    exact J_126 x2_124 x3_124 x5_124 (k0_124 / (3 : Int32)) H locs hP hD hS ls (lv_sub hl [0, 1, 2, 3, 4] rfl) hf
  have J_92 : ∀ (x2_92 : Int32) (x3_92 : Int32) (x4_92 : Int32) (k0_92 : Int32) (H : Heap) (locs : List Loc) (_ : va_P G vwCl (tk_H c3 q S) H) (_ : va_D A (tk_H c3 q S)) (_ : va_S A s.heap H locs) (ls : Array Slot) (_ : lv_has ls 12 [(0, .ref (q 0)), (1, .ref (q 17)), (2, .int x2_92), (3, .int x3_92), (4, .int x4_92)]) (_ : f_L_isScored_92 x2_92 x3_92 x4_92 k0_92 S = some r0), W p l e rm_L_isScored s m ([.ref (q 0), .ref (q 17)] : List Value).toArray below meth c H locs 0 0 Q (F0 m 92 ls [.int k0_92]) := by
    intro x2_92 x3_92 x4_92 k0_92 H locs hP hD hS ls hl hf
    unfold f_L_isScored_92 at hf
    refine lv_istore (lv' := [(5, .int k0_92), (0, .ref (q 0)), (1, .ref (q 17)), (2, .int x2_92), (3, .int x3_92), (4, .int x4_92)]) hx hb dL_isScored_92 hl (by decide) rfl (fun ls hl => ?_)
    refine lv_aload_n hx hb dL_isScored_94 rfl (lv_at hl 1 rfl) ?_
    obtain ⟨r42, h43, hf⟩ := tk_b1s hf
    refine tk_ci (ws' := (tk_H c3 q S)) (va_runV (As := []) (rest := []) ⟨hx, hb, hml, hown, hts⟩ (c_X6_level l G c3 q S r42 h43 H.size) (cwV 0 hts gL_isScored_X6_level rfl rfl rfl hv_X6_level ⟨Nat.le_of_ble_eq_true rfl, Nat.le_of_ble_eq_true rfl⟩) (tk_pV hE hP hD 0 rfl rfl) rfl rfl hl.1 rfl (lv_room (Nat.le_of_ble_eq_true rfl)) dL_isScored_95 ⟨Nat.zero_le _, Nat.zero_le _⟩) hD hS hA (fun H locs hP hD hS => ?_)
    refine lv_iconst (v := 5) hx hb dL_isScored_98 (by decide) ?_
    refine lv_icmp_ne (tgt := 106) hx hb dL_isScored_99 (by decide) (fun h45 => ?_) (fun h45 => ?_)
    · have hf := tk_neg hf h45
      refine lv_iload hx hb dL_isScored_106 (lv_at hl 0 rfl) ?_
      refine lv_if_eq (tgt := 119) hx hb dL_isScored_108 (by decide) (fun h46 => ?_) (fun h46 => ?_)
      · have hf := tk_pos hf h46
        refine lv_bipush (v := 105) hx hb dL_isScored_119 (by decide) ?_
        refine lv_iload hx hb dL_isScored_121 (lv_at hl 5 rfl) ?_
        refine lv_isub hx hb dL_isScored_123 ?_
        exact J_124 x2_92 x3_92 k0_92 ((105 : Int32) - x4_92) H locs hP hD hS ls (lv_sub hl [1, 2, 3, 4, 0] rfl) hf
      · have hf := tk_neg hf h46
        refine lv_iload hx hb dL_isScored_111 (lv_at hl 5 rfl) ?_
        refine lv_bipush (v := 105) hx hb dL_isScored_113 (by decide) ?_
        refine lv_isub hx hb dL_isScored_115 ?_
        refine lv_goto (tgt := 124) hx hb dL_isScored_116 (by decide) ?_
        exact J_124 x2_92 x3_92 k0_92 (x4_92 - (105 : Int32)) H locs hP hD hS ls (lv_sub hl [1, 2, 3, 4, 0] rfl) hf
    · have hf := tk_pos hf h45
      refine lv_iconst (v := 0) hx hb dL_isScored_102 (by decide) ?_
      refine lv_goto (tgt := 126) hx hb dL_isScored_103 (by decide) ?_
      exact J_126 x2_92 x3_92 k0_92 (0 : Int32) H locs hP hD hS ls (lv_sub hl [1, 2, 3, 4, 0] rfl) hf
  have J_10 : ∀ (n_10 : Nat), ∀ (x2_10 : Int32) (x3_10 : Int32) (x4_10 : Int32) (H : Heap) (locs : List Loc) (_ : va_P G vwCl (tk_H c3 q S) H) (_ : va_D A (tk_H c3 q S)) (_ : va_S A s.heap H locs) (ls : Array Slot) (_ : lv_has ls 12 [(0, .ref (q 0)), (1, .ref (q 17)), (2, .int x2_10), (3, .int x3_10), (4, .int x4_10)]) (_ : f_L_isScored_10 n_10 x2_10 x3_10 x4_10 S = some r0), W p l e rm_L_isScored s m ([.ref (q 0), .ref (q 17)] : List Value).toArray below meth c H locs 0 0 Q (F0 m 10 ls []) := by
    intro n_10
    induction n_10 with
    | zero =>
      intro x2_10 x3_10 x4_10 H locs hP hD hS ls hl hf
      exact absurd hf (by intro h9; cases h9)
    | succ n_10 ih_10 =>
      have J_66 : ∀ (x2_66 : Int32) (x4_66 : Int32) (k0_66 : Int32) (H : Heap) (locs : List Loc) (_ : va_P G vwCl (tk_H c3 q S) H) (_ : va_D A (tk_H c3 q S)) (_ : va_S A s.heap H locs) (ls : Array Slot) (_ : lv_has ls 12 [(0, .ref (q 0)), (1, .ref (q 17)), (2, .int x2_66), (4, .int x4_66)]) (_ : f_L_isScored_66 (f_L_isScored_10 n_10) x2_66 x4_66 k0_66 S = some r0), W p l e rm_L_isScored s m ([.ref (q 0), .ref (q 17)] : List Value).toArray below meth c H locs 0 0 Q (F0 m 66 ls [.int k0_66]) := by
        intro x2_66 x4_66 k0_66 H locs hP hD hS ls hl hf
        unfold f_L_isScored_66 at hf
        refine lv_istore_n (lv' := [(3, .int k0_66), (0, .ref (q 0)), (1, .ref (q 17)), (2, .int x2_66), (4, .int x4_66)]) hx hb dL_isScored_66 rfl hl (by decide) rfl (fun ls hl => ?_)
        refine lv_iinc (v := (x4_66 + (1 : Int32))) (lv' := [(4, .int (x4_66 + (1 : Int32))), (3, .int k0_66), (0, .ref (q 0)), (1, .ref (q 17)), (2, .int x2_66)]) hx hb dL_isScored_67 hl (k := 4) rfl rfl (by decide) rfl (fun ls hl => ?_)
        refine lv_goto (tgt := 10) hx hb dL_isScored_70 (by decide) ?_
        exact ih_10 x2_66 k0_66 (x4_66 + (1 : Int32)) H locs hP hD hS ls (lv_sub hl [2, 3, 4, 1, 0] rfl) hf
      have J_65 : ∀ (x2_65 : Int32) (x4_65 : Int32) (H : Heap) (locs : List Loc) (_ : va_P G vwCl (tk_H c3 q S) H) (_ : va_D A (tk_H c3 q S)) (_ : va_S A s.heap H locs) (ls : Array Slot) (_ : lv_has ls 12 [(0, .ref (q 0)), (1, .ref (q 17)), (2, .int x2_65), (4, .int x4_65)]) (_ : f_L_isScored_65 (f_L_isScored_10 n_10) x2_65 x4_65 S = some r0), W p l e rm_L_isScored s m ([.ref (q 0), .ref (q 17)] : List Value).toArray below meth c H locs 0 0 Q (F0 m 65 ls []) := by
        intro x2_65 x4_65 H locs hP hD hS ls hl hf
        unfold f_L_isScored_65 at hf
        refine lv_iconst (v := 0) hx hb dL_isScored_65 (by decide) ?_
        exact J_66 x2_65 x4_65 (0 : Int32) H locs hP hD hS ls (lv_sub hl [0, 1, 2, 3] rfl) hf
      have J_39 : ∀ (x2_39 : Int32) (x3_39 : Int32) (x4_39 : Int32) (k0_39 : Int32) (H : Heap) (locs : List Loc) (_ : va_P G vwCl (tk_H c3 q S) H) (_ : va_D A (tk_H c3 q S)) (_ : va_S A s.heap H locs) (ls : Array Slot) (_ : lv_has ls 12 [(0, .ref (q 0)), (1, .ref (q 17)), (2, .int x2_39), (3, .int x3_39), (4, .int x4_39)]) (_ : f_L_isScored_39 (f_L_isScored_10 n_10) x2_39 x3_39 x4_39 k0_39 S = some r0), W p l e rm_L_isScored s m ([.ref (q 0), .ref (q 17)] : List Value).toArray below meth c H locs 0 0 Q (F0 m 39 ls [.int k0_39]) := by
        intro x2_39 x3_39 x4_39 k0_39 H locs hP hD hS ls hl hf
        unfold f_L_isScored_39 at hf
        refine lv_istore (lv' := [(5, .int k0_39), (0, .ref (q 0)), (1, .ref (q 17)), (2, .int x2_39), (3, .int x3_39), (4, .int x4_39)]) hx hb dL_isScored_39 hl (by decide) rfl (fun ls hl => ?_)
        refine lv_iload_n hx hb dL_isScored_41 rfl (lv_at hl 4 rfl) ?_
        refine lv_if_eq (tgt := 65) hx hb dL_isScored_42 (by decide) (fun h47 => ?_) (fun h47 => ?_)
        · have hf := tk_pos hf h47
          exact J_65 x2_39 x4_39 H locs hP hD hS ls (lv_sub hl [1, 2, 3, 5] rfl) hf
        · have hf := tk_neg hf h47
          refine lv_aload_n hx hb dL_isScored_45 rfl (lv_at hl 1 rfl) ?_
          refine lv_iload hx hb dL_isScored_46 (lv_at hl 5 rfl) ?_
          obtain ⟨r48, h49, hf⟩ := tk_b1s hf
          refine tk_ci (ws' := (tk_H c3 q S)) (va_runV (As := [.int x4_39]) (rest := []) ⟨hx, hb, hml, hown, hts⟩ (c0_X6_score l G c3 q S x4_39 r48 h49 H.size) (cwV 1 hts gL_isScored_X6_score rfl rfl rfl hv_X6_score ⟨Nat.le_of_ble_eq_true rfl, Nat.le_of_ble_eq_true rfl⟩) (tk_pV hE hP hD 0 rfl rfl) rfl rfl hl.1 rfl (lv_room (Nat.le_of_ble_eq_true rfl)) dL_isScored_48 ⟨Nat.zero_le _, Nat.zero_le _⟩) hD hS hA (fun H locs hP hD hS => ?_)
          refine lv_aload_n hx hb dL_isScored_51 rfl (lv_at hl 2 rfl) ?_
          refine lv_iload hx hb dL_isScored_52 (lv_at hl 5 rfl) ?_
          obtain ⟨h51, hf⟩ := tk_ok hf
          refine va_iald (f := (S.2.2.1 4)) hx hb hE.1 hP 17 0 rfl rfl h51 dL_isScored_54 ?_
          refine lv_iload hx hb dL_isScored_55 (lv_at hl 0 rfl) ?_
          refine lv_iadd hx hb dL_isScored_57 ?_
          refine lv_icmp_ne (tgt := 65) hx hb dL_isScored_58 (by decide) (fun h52 => ?_) (fun h52 => ?_)
          · have hf := tk_neg hf h52
            exact J_65 x2_39 x4_39 H locs hP hD hS ls (lv_sub hl [1, 2, 3, 5] rfl) hf
          · have hf := tk_pos hf h52
            refine lv_iconst (v := 1) hx hb dL_isScored_61 (by decide) ?_
            refine lv_goto (tgt := 66) hx hb dL_isScored_62 (by decide) ?_
            exact J_66 x2_39 x4_39 (1 : Int32) H locs hP hD hS ls (lv_sub hl [1, 2, 3, 5] rfl) hf
      have J_34 : ∀ (x2_34 : Int32) (x3_34 : Int32) (x4_34 : Int32) (H : Heap) (locs : List Loc) (_ : va_P G vwCl (tk_H c3 q S) H) (_ : va_D A (tk_H c3 q S)) (_ : va_S A s.heap H locs) (ls : Array Slot) (_ : lv_has ls 12 [(0, .ref (q 0)), (1, .ref (q 17)), (2, .int x2_34), (3, .int x3_34), (4, .int x4_34)]) (_ : f_L_isScored_34 (f_L_isScored_10 n_10) x2_34 x3_34 x4_34 S = some r0), W p l e rm_L_isScored s m ([.ref (q 0), .ref (q 17)] : List Value).toArray below meth c H locs 0 0 Q (F0 m 34 ls []) := by
        intro x2_34 x3_34 x4_34 H locs hP hD hS ls hl hf
        unfold f_L_isScored_34 at hf
        refine lv_iload_n hx hb dL_isScored_34 rfl (lv_at hl 2 rfl) ?_
        refine lv_goto (tgt := 39) hx hb dL_isScored_35 (by decide) ?_
        exact J_39 x2_34 x3_34 x4_34 x2_34 H locs hP hD hS ls (lv_sub hl [0, 1, 2, 3, 4] rfl) hf
      intro x2_10 x3_10 x4_10 H locs hP hD hS ls hl hf
      rw [f_L_isScored_10_s] at hf
      refine lv_iload hx hb dL_isScored_10 (lv_at hl 4 rfl) ?_
      refine lv_iconst (v := 4) hx hb dL_isScored_12 (by decide) ?_
      refine lv_icmp_ge (tgt := 73) hx hb dL_isScored_13 (by decide) (fun h53 => ?_) (fun h53 => ?_)
      · have hf := tk_pos hf h53
        refine lv_aload_n hx hb dL_isScored_73 rfl (lv_at hl 0 rfl) ?_
        refine lv_iconst (v := 0) hx hb dL_isScored_74 (by decide) ?_
        obtain ⟨r54, h55, hf⟩ := tk_b1s hf
        refine tk_ci (ws' := (tk_H c3 q S)) (va_runV (As := [.int (0 : Int32)]) (rest := []) ⟨hx, hb, hml, hown, hts⟩ (c0_X6_thirds l G c3 q S (0 : Int32) r54 h55 H.size) (cwV 1 hts gL_isScored_X6_thirds rfl rfl rfl hv_X6_thirds ⟨Nat.le_of_ble_eq_true rfl, Nat.le_of_ble_eq_true rfl⟩) (tk_pV hE hP hD 0 rfl rfl) rfl rfl hl.1 rfl (lv_room (Nat.le_of_ble_eq_true rfl)) dL_isScored_75 ⟨Nat.zero_le _, Nat.zero_le _⟩) hD hS hA (fun H locs hP hD hS => ?_)
        refine lv_istore (lv' := [(4, .int r54), (0, .ref (q 0)), (1, .ref (q 17)), (2, .int x2_10), (3, .int x3_10)]) hx hb dL_isScored_78 hl (by decide) rfl (fun ls hl => ?_)
        refine lv_iload hx hb dL_isScored_80 (lv_at hl 0 rfl) ?_
        refine lv_bipush (v := 105) hx hb dL_isScored_82 (by decide) ?_
        refine lv_icmp_le (tgt := 91) hx hb dL_isScored_84 (by decide) (fun h57 => ?_) (fun h57 => ?_)
        · have hf := tk_pos hf h57
          refine lv_iconst (v := 0) hx hb dL_isScored_91 (by decide) ?_
          exact J_92 x2_10 x3_10 r54 (0 : Int32) H locs hP hD hS ls (lv_sub hl [1, 2, 3, 4, 0] rfl) hf
        · have hf := tk_neg hf h57
          refine lv_iconst (v := 1) hx hb dL_isScored_87 (by decide) ?_
          refine lv_goto (tgt := 92) hx hb dL_isScored_88 (by decide) ?_
          exact J_92 x2_10 x3_10 r54 (1 : Int32) H locs hP hD hS ls (lv_sub hl [1, 2, 3, 4, 0] rfl) hf
      · have hf := tk_neg hf h53
        refine lv_iload hx hb dL_isScored_16 (lv_at hl 4 rfl) ?_
        refine lv_aload_n hx hb dL_isScored_18 rfl (lv_at hl 0 rfl) ?_
        obtain ⟨r58, h59, hf⟩ := tk_b1s hf
        refine tk_ci (ws' := (tk_H c3 q S)) (va_runV (As := []) (rest := [.int x4_10]) ⟨hx, hb, hml, hown, hts⟩ (c_X6_declarer l G c3 q S r58 h59 H.size) (cwV 0 hts gL_isScored_X6_declarer rfl rfl rfl hv_X6_declarer ⟨Nat.le_of_ble_eq_true rfl, Nat.le_of_ble_eq_true rfl⟩) (tk_pV hE hP hD 0 rfl rfl) rfl rfl hl.1 rfl (lv_room (Nat.le_of_ble_eq_true rfl)) dL_isScored_19 ⟨Nat.zero_le _, Nat.zero_le _⟩) hD hS hA (fun H locs hP hD hS => ?_)
        refine lv_icmp_eq (tgt := 34) hx hb dL_isScored_22 (by decide) (fun h61 => ?_) (fun h61 => ?_)
        · have hf := tk_pos hf h61
          exact J_34 x2_10 x3_10 x4_10 H locs hP hD hS ls (lv_sub hl [0, 1, 2, 3, 4] rfl) hf
        · have hf := tk_neg hf h61
          refine lv_iload hx hb dL_isScored_25 (lv_at hl 4 rfl) ?_
          refine lv_aload_n hx hb dL_isScored_27 rfl (lv_at hl 0 rfl) ?_
          obtain ⟨r62, h63, hf⟩ := tk_b1s hf
          refine tk_ci (ws' := (tk_H c3 q S)) (va_runV (As := []) (rest := [.int x4_10]) ⟨hx, hb, hml, hown, hts⟩ (c_X6_partner l G c3 q S r62 h63 H.size) (cwV 0 hts gL_isScored_X6_partner rfl rfl rfl hv_X6_partner ⟨Nat.le_of_ble_eq_true rfl, Nat.le_of_ble_eq_true rfl⟩) (tk_pV hE hP hD 0 rfl rfl) rfl rfl hl.1 rfl (lv_room (Nat.le_of_ble_eq_true rfl)) dL_isScored_28 ⟨Nat.zero_le _, Nat.zero_le _⟩) hD hS hA (fun H locs hP hD hS => ?_)
          refine lv_icmp_ne (tgt := 38) hx hb dL_isScored_31 (by decide) (fun h65 => ?_) (fun h65 => ?_)
          · have hf := tk_neg hf h65
            refine lv_iconst (v := 0) hx hb dL_isScored_38 (by decide) ?_
            exact J_39 x2_10 x3_10 x4_10 (0 : Int32) H locs hP hD hS ls (lv_sub hl [0, 1, 2, 3, 4] rfl) hf
          · have hf := tk_pos hf h65
            exact J_34 x2_10 x3_10 x4_10 H locs hP hD hS ls (lv_sub hl [0, 1, 2, 3, 4] rfl) hf
  unfold f_L_isScored at hf
  refine lv_aload_n hx hb dL_isScored_0 rfl (lv_at hl 0 rfl) ?_
  obtain ⟨r66, h67, hf⟩ := tk_b1s hf
  refine tk_ci (ws' := (tk_H c3 q S)) (va_runV (As := []) (rest := []) ⟨hx, hb, hml, hown, hts⟩ (c_X6_result l G c3 q S r66 h67 H.size) (cwV 0 hts gL_isScored_X6_result rfl rfl rfl hv_X6_result ⟨Nat.le_of_ble_eq_true rfl, Nat.le_of_ble_eq_true rfl⟩) (tk_pV hE hP hD 0 rfl rfl) rfl rfl hl.1 rfl (lv_room (Nat.le_of_ble_eq_true rfl)) dL_isScored_1 ⟨Nat.zero_le _, Nat.zero_le _⟩) hD hS hA (fun H locs hP hD hS => ?_)
  refine lv_istore_n (lv' := [(2, .int r66), (0, .ref (q 0)), (1, .ref (q 17))]) hx hb dL_isScored_4 rfl hl (by decide) rfl (fun ls hl => ?_)
  refine lv_iconst (v := 1) hx hb dL_isScored_5 (by decide) ?_
  refine lv_istore_n (lv' := [(3, .int (1 : Int32)), (2, .int r66), (0, .ref (q 0)), (1, .ref (q 17))]) hx hb dL_isScored_6 rfl hl (by decide) rfl (fun ls hl => ?_)
  refine lv_iconst (v := 0) hx hb dL_isScored_7 (by decide) ?_
  refine lv_istore (lv' := [(4, .int (0 : Int32)), (3, .int (1 : Int32)), (2, .int r66), (0, .ref (q 0)), (1, .ref (q 17))]) hx hb dL_isScored_8 hl (by decide) rfl (fun ls hl => ?_)
  exact J_10 64 r66 (1 : Int32) (0 : Int32) H locs hP hD hS ls (lv_sub hl [3, 4, 2, 1, 0] rfl) hf
abbrev rm_L_isPlayed : Room := { frames := 8, cells := 1, slots := 6, locals := 179 }
set_option maxHeartbeats 4000000 in
set_option maxRecDepth 100000 in
theorem c_L_isPlayed (l : Launch) (hlst : l.stackTraces = false) (G : va_G) (c3 : ClassId × ClassId × ClassId) (q : Nat → Nat) (S : tk_ST) (p1 : Int32) (r0 : Int32) (S0 : tk_ST) (hf : f_L_isPlayed p1 S = some (r0, S0)) : tk_Li l yL_isPlayed wsL_isPlayed rm_L_isPlayed G c3 [.ref (q 0), .int p1] (tk_H c3 q S) (tk_H c3 q S0) r0 := by
  refine tk_ofLj (cc := cL_isPlayed) (maxL := 16) (ret := some .boolean) (by decide) rfl (Nat.le_of_ble_eq_true rfl) ?_
  intro p e s m below meth c A Q ls H locs hx hb hml hr hts hown hlocks hE hA hP hD hS hZ hQ hl
  obtain ⟨hZ, hC⟩ := hZ
  have hl : lv_has ls 16 [(0, .ref (q 0)), (1, .int p1)] := hl
  have hown : s.vm.findClass RL = some m.cls := hown
  have J_320 : ∀ (x12_320 : Int32) (x15_320 : Int32) (k0_320 : Int32) (k1_320 : Int32) (S_320 : tk_ST) (H : Heap) (locs : List Loc) (_ : va_P G vwCl (tk_H c3 q S_320) H) (_ : va_D A (tk_H c3 q S_320)) (_ : va_S A s.heap H locs) (ls : Array Slot) (_ : lv_has ls 16 [(0, .ref (q 0)), (12, .int x12_320), (15, .int x15_320)]) (_ : f_L_isPlayed_320 x12_320 x15_320 k0_320 k1_320 S_320 = some (r0, S0)), W p l e rm_L_isPlayed s m ([.ref (q 0), .int p1] : List Value).toArray below meth c H locs (0 + 1) (0 + 6) Q (F0 m 320 ls [.int k1_320, .int k0_320]) := by
    intro x12_320 x15_320 k0_320 k1_320 S_320 H locs hP hD hS ls hl hf
    unfold f_L_isPlayed_320 at hf
    refine lv_icmp_ne (tgt := 346) hx hb dL_isPlayed_320 (by decide) (fun h1 => ?_) (fun h1 => ?_)
    · have hf := tk_neg hf h1
      refine lv_iconst (v := 0) hx hb dL_isPlayed_346 (by decide) ?_
      exact tk_rLz hQ (tk_s2 hf).1 (congrArg (tk_H c3 q) (tk_s2 hf).2) (by decide) (by decide) (by decide) hx hb hr hlocks hP hD hS dL_isPlayed_347
    · have hf := tk_pos hf h1
      refine lv_aload_n hx hb dL_isPlayed_323 rfl (lv_at hl 0 rfl) ?_
      refine lv_iconst (v := 0) hx hb dL_isPlayed_324 (by decide) ?_
      obtain ⟨r2, h3, hf⟩ := tk_b1s hf
      refine tk_ci (ws' := (tk_H c3 q S_320)) (va_runV (As := [.int (0 : Int32)]) (rest := []) ⟨hx, hb, hml, hown, hts⟩ (c0_X6_thirds l G c3 q S_320 (0 : Int32) r2 h3 H.size) (cwV 1 hts gL_isPlayed_X6_thirds rfl rfl rfl hv_X6_thirds ⟨Nat.le_of_ble_eq_true rfl, Nat.le_of_ble_eq_true rfl⟩) (tk_pV hE hP hD 0 rfl rfl) rfl rfl hl.1 rfl (lv_room (Nat.le_of_ble_eq_true rfl)) dL_isPlayed_325 ⟨Nat.le_of_ble_eq_true rfl, Nat.le_of_ble_eq_true rfl⟩) hD hS hA (fun H locs hP hD hS => ?_)
      refine lv_aload_n hx hb dL_isPlayed_328 rfl (lv_at hl 0 rfl) ?_
      refine lv_iconst (v := 1) hx hb dL_isPlayed_329 (by decide) ?_
      obtain ⟨r5, h6, hf⟩ := tk_b1s hf
      refine tk_ci (ws' := (tk_H c3 q S_320)) (va_runV (As := [.int (1 : Int32)]) (rest := [.int r2]) ⟨hx, hb, hml, hown, hts⟩ (c0_X6_thirds l G c3 q S_320 (1 : Int32) r5 h6 H.size) (cwV 1 hts gL_isPlayed_X6_thirds rfl rfl rfl hv_X6_thirds ⟨Nat.le_of_ble_eq_true rfl, Nat.le_of_ble_eq_true rfl⟩) (tk_pV hE hP hD 0 rfl rfl) rfl rfl hl.1 rfl (lv_room (Nat.le_of_ble_eq_true rfl)) dL_isPlayed_330 ⟨Nat.le_of_ble_eq_true rfl, Nat.le_of_ble_eq_true rfl⟩) hD hS hA (fun H locs hP hD hS => ?_)
      refine lv_iadd hx hb dL_isPlayed_333 ?_
      refine lv_iload hx hb dL_isPlayed_334 (lv_at hl 1 rfl) ?_
      refine lv_iload hx hb dL_isPlayed_336 (lv_at hl 2 rfl) ?_
      refine lv_iadd hx hb dL_isPlayed_338 ?_
      refine lv_icmp_ne (tgt := 346) hx hb dL_isPlayed_339 (by decide) (fun h8 => ?_) (fun h8 => ?_)
      · have hf := tk_neg hf h8
        refine lv_iconst (v := 0) hx hb dL_isPlayed_346 (by decide) ?_
        exact tk_rLz hQ (tk_s2 hf).1 (congrArg (tk_H c3 q) (tk_s2 hf).2) (by decide) (by decide) (by decide) hx hb hr hlocks hP hD hS dL_isPlayed_347
      · have hf := tk_pos hf h8
        refine lv_iconst (v := 1) hx hb dL_isPlayed_342 (by decide) ?_
        refine lv_goto (tgt := 347) hx hb dL_isPlayed_343 (by decide) ?_
        exact tk_rLz hQ (tk_s2 hf).1 (congrArg (tk_H c3 q) (tk_s2 hf).2) (by decide) (by decide) (by decide) hx hb hr hlocks hP hD hS dL_isPlayed_347
  have J_168 : ∀ (x2_168 : Int32) (x3_168 : Int32) (x4_168 : Int32) (x7_168 : Int32) (x9_168 : Int32) (x10_168 : Int32) (x11_168 : Int32) (x12_168 : Int32) (x13_168 : Int32) (k0_168 : Int32) (S_168 : tk_ST) (H : Heap) (locs : List Loc) (_ : va_P G vwCl (tk_H c3 q S_168) H) (_ : va_D A (tk_H c3 q S_168)) (_ : va_S A s.heap H locs) (ls : Array Slot) (_ : lv_has ls 16 [(0, .ref (q 0)), (2, .int x2_168), (3, .int x3_168), (4, .int x4_168), (7, .int x7_168), (9, .int x9_168), (10, .int x10_168), (11, .int x11_168), (12, .int x12_168), (13, .int x13_168)]) (_ : f_L_isPlayed_168 x2_168 x3_168 x4_168 x7_168 x9_168 x10_168 x11_168 x12_168 x13_168 k0_168 S_168 = some (r0, S0)), W p l e rm_L_isPlayed s m ([.ref (q 0), .int p1] : List Value).toArray below meth c H locs (0 + 1) (0 + 6) Q (F0 m 168 ls [.int k0_168]) := by
    intro x2_168 x3_168 x4_168 x7_168 x9_168 x10_168 x11_168 x12_168 x13_168 k0_168 S_168 H locs hP hD hS ls hl hf
    unfold f_L_isPlayed_168 at hf
    refine lv_istore (lv' := [(14, .int k0_168), (0, .ref (q 0)), (2, .int x2_168), (3, .int x3_168), (4, .int x4_168), (7, .int x7_168), (9, .int x9_168), (10, .int x10_168), (11, .int x11_168), (12, .int x12_168), (13, .int x13_168)]) hx hb dL_isPlayed_168 hl (by decide) rfl (fun ls hl => ?_)
    refine lv_iload_n hx hb dL_isPlayed_170 rfl (lv_at hl 3 rfl) ?_
    refine lv_iconst (v := 3) hx hb dL_isPlayed_171 (by decide) ?_
    refine lv_icmp_ge (tgt := 224) hx hb dL_isPlayed_172 (by decide) (fun h9 => ?_) (fun h9 => ?_)
    · have hf := tk_pos hf h9
      refine lv_iconst (v := 3) hx hb dL_isPlayed_224 (by decide) ?_
      refine lv_aload_n hx hb dL_isPlayed_225 rfl (lv_at hl 1 rfl) ?_
      refine lv_iload hx hb dL_isPlayed_226 (lv_at hl 6 rfl) ?_
      obtain ⟨r10, h11, hf⟩ := tk_b1s hf
      refine tk_ci (ws' := (tk_H c3 q S_168)) (va_runV (As := [.int x9_168]) (rest := [.int (3 : Int32)]) ⟨hx, hb, hml, hown, hts⟩ (c0_X6_valueOf l G c3 q S_168 x9_168 r10 h11 H.size) (cwV 1 hts gL_isPlayed_X6_valueOf rfl rfl rfl hv_X6_valueOf ⟨Nat.le_of_ble_eq_true rfl, Nat.le_of_ble_eq_true rfl⟩) (tk_pV hE hP hD 0 rfl rfl) rfl rfl hl.1 rfl (lv_room (Nat.le_of_ble_eq_true rfl)) dL_isPlayed_228 ⟨Nat.le_of_ble_eq_true rfl, Nat.le_of_ble_eq_true rfl⟩) hD hS hA (fun H locs hP hD hS => ?_)
      refine lv_aload_n hx hb dL_isPlayed_231 rfl (lv_at hl 1 rfl) ?_
      refine lv_iload hx hb dL_isPlayed_232 (lv_at hl 7 rfl) ?_
      obtain ⟨r13, h14, hf⟩ := tk_b1s hf
      refine tk_ci (ws' := (tk_H c3 q S_168)) (va_runV (As := [.int x10_168]) (rest := [.int r10, .int (3 : Int32)]) ⟨hx, hb, hml, hown, hts⟩ (c0_X6_valueOf l G c3 q S_168 x10_168 r13 h14 H.size) (cwV 1 hts gL_isPlayed_X6_valueOf rfl rfl rfl hv_X6_valueOf ⟨Nat.le_of_ble_eq_true rfl, Nat.le_of_ble_eq_true rfl⟩) (tk_pV hE hP hD 0 rfl rfl) rfl rfl hl.1 rfl (lv_room (Nat.le_of_ble_eq_true rfl)) dL_isPlayed_234 ⟨Nat.le_of_ble_eq_true rfl, Nat.le_of_ble_eq_true rfl⟩) hD hS hA (fun H locs hP hD hS => ?_)
      refine lv_iadd hx hb dL_isPlayed_237 ?_
      refine lv_aload_n hx hb dL_isPlayed_238 rfl (lv_at hl 1 rfl) ?_
      refine lv_iload hx hb dL_isPlayed_239 (lv_at hl 8 rfl) ?_
      obtain ⟨r16, h17, hf⟩ := tk_b1s hf
      refine tk_ci (ws' := (tk_H c3 q S_168)) (va_runV (As := [.int x11_168]) (rest := [.int (r10 + r13), .int (3 : Int32)]) ⟨hx, hb, hml, hown, hts⟩ (c0_X6_valueOf l G c3 q S_168 x11_168 r16 h17 H.size) (cwV 1 hts gL_isPlayed_X6_valueOf rfl rfl rfl hv_X6_valueOf ⟨Nat.le_of_ble_eq_true rfl, Nat.le_of_ble_eq_true rfl⟩) (tk_pV hE hP hD 0 rfl rfl) rfl rfl hl.1 rfl (lv_room (Nat.le_of_ble_eq_true rfl)) dL_isPlayed_241 ⟨Nat.le_of_ble_eq_true rfl, Nat.le_of_ble_eq_true rfl⟩) hD hS hA (fun H locs hP hD hS => ?_)
      refine lv_iadd hx hb dL_isPlayed_244 ?_
      refine lv_aload_n hx hb dL_isPlayed_245 rfl (lv_at hl 1 rfl) ?_
      refine lv_iload hx hb dL_isPlayed_246 (lv_at hl 5 rfl) ?_
      obtain ⟨r19, h20, hf⟩ := tk_b1s hf
      refine tk_ci (ws' := (tk_H c3 q S_168)) (va_runV (As := [.int x7_168]) (rest := [.int ((r10 + r13) + r16), .int (3 : Int32)]) ⟨hx, hb, hml, hown, hts⟩ (c0_X6_valueOf l G c3 q S_168 x7_168 r19 h20 H.size) (cwV 1 hts gL_isPlayed_X6_valueOf rfl rfl rfl hv_X6_valueOf ⟨Nat.le_of_ble_eq_true rfl, Nat.le_of_ble_eq_true rfl⟩) (tk_pV hE hP hD 0 rfl rfl) rfl rfl hl.1 rfl (lv_room (Nat.le_of_ble_eq_true rfl)) dL_isPlayed_248 ⟨Nat.le_of_ble_eq_true rfl, Nat.le_of_ble_eq_true rfl⟩) hD hS hA (fun H locs hP hD hS => ?_)
      refine lv_iadd hx hb dL_isPlayed_251 ?_
      refine lv_imul hx hb dL_isPlayed_252 ?_
      refine lv_bipush (v := 8) hx hb dL_isPlayed_253 (by decide) ?_
      refine lv_isub hx hb dL_isPlayed_255 ?_
      refine lv_istore (lv' := [(15, .int (((3 : Int32) * (((r10 + r13) + r16) + r19)) - (8 : Int32))), (14, .int k0_168), (0, .ref (q 0)), (2, .int x2_168), (3, .int x3_168), (4, .int x4_168), (7, .int x7_168), (9, .int x9_168), (10, .int x10_168), (11, .int x11_168), (12, .int x12_168), (13, .int x13_168)]) hx hb dL_isPlayed_256 hl (by decide) rfl (fun ls hl => ?_)
      refine lv_iload hx hb dL_isPlayed_258 (lv_at hl 1 rfl) ?_
      refine lv_if_eq (tgt := 346) hx hb dL_isPlayed_260 (by decide) (fun h22 => ?_) (fun h22 => ?_)
      · have hf := tk_pos hf h22
        refine lv_iconst (v := 0) hx hb dL_isPlayed_346 (by decide) ?_
        exact tk_rLz hQ (tk_s2 hf).1 (congrArg (tk_H c3 q) (tk_s2 hf).2) (by decide) (by decide) (by decide) hx hb hr hlocks hP hD hS dL_isPlayed_347
      · have hf := tk_neg hf h22
        refine lv_iload hx hb dL_isPlayed_263 (lv_at hl 11 rfl) ?_
        refine lv_iload_n hx hb dL_isPlayed_265 rfl (lv_at hl 3 rfl) ?_
        refine lv_iconst (v := 1) hx hb dL_isPlayed_266 (by decide) ?_
        refine lv_iadd hx hb dL_isPlayed_267 ?_
        refine lv_iload hx hb dL_isPlayed_268 (lv_at hl 7 rfl) ?_
        refine lv_iload hx hb dL_isPlayed_270 (lv_at hl 8 rfl) ?_
        refine lv_iload hx hb dL_isPlayed_272 (lv_at hl 9 rfl) ?_
        refine lv_iload hx hb dL_isPlayed_274 (lv_at hl 6 rfl) ?_
        obtain ⟨r23, h24, hf⟩ := tk_b1s hf
        refine tk_ci (ws' := (tk_H c3 q S_168)) (va_runS (As := [.int x9_168, .int x10_168, .int x11_168, .int x7_168]) (rest := [.int (x2_168 + (1 : Int32)), .int x13_168]) ⟨hx, hb, hml, hown, hts⟩ (c_L_wins l G c3 (tk_H c3 q S_168) x9_168 x10_168 x11_168 x7_168 r23 h24 H.size) (va_cwS 4 hts gL_isPlayed_L_wins rfl rfl rfl hs_L_wins ⟨Nat.le_of_ble_eq_true rfl, Nat.le_of_ble_eq_true rfl⟩) (tk_pS hE hP hD) rfl rfl hl.1 rfl (lv_room (Nat.le_of_ble_eq_true rfl)) dL_isPlayed_276 ⟨Nat.le_of_ble_eq_true rfl, Nat.le_of_ble_eq_true rfl⟩) hD hS hA (fun H locs hP hD hS => ?_)
        refine lv_iadd hx hb dL_isPlayed_279 ?_
        refine lv_iconst (v := 4) hx hb dL_isPlayed_280 (by decide) ?_
        refine tk_irem hx hb dL_isPlayed_281 (by decide) ?_
        refine lv_icmp_ne (tgt := 346) hx hb dL_isPlayed_282 (by decide) (fun h26 => ?_) (fun h26 => ?_)
        · have hf := tk_neg hf h26
          refine lv_iconst (v := 0) hx hb dL_isPlayed_346 (by decide) ?_
          exact tk_rLz hQ (tk_s2 hf).1 (congrArg (tk_H c3 q) (tk_s2 hf).2) (by decide) (by decide) (by decide) hx hb hr hlocks hP hD hS dL_isPlayed_347
        · have hf := tk_pos hf h26
          refine lv_aload_n hx hb dL_isPlayed_285 rfl (lv_at hl 2 rfl) ?_
          obtain ⟨r27, h28, hf⟩ := tk_b1s hf
          refine tk_ci (ws' := (tk_H c3 q S_168)) (va_runV (As := []) (rest := []) ⟨hx, hb, hml, hown, hts⟩ (c_X6_tricks l G c3 q S_168 r27 h28 H.size) (cwV 0 hts gL_isPlayed_X6_tricks rfl rfl rfl hv_X6_tricks ⟨Nat.le_of_ble_eq_true rfl, Nat.le_of_ble_eq_true rfl⟩) (tk_pV hE hP hD 0 rfl rfl) rfl rfl hl.1 rfl (lv_room (Nat.le_of_ble_eq_true rfl)) dL_isPlayed_286 ⟨Nat.le_of_ble_eq_true rfl, Nat.le_of_ble_eq_true rfl⟩) hD hS hA (fun H locs hP hD hS => ?_)
          refine lv_iload hx hb dL_isPlayed_289 (lv_at hl 5 rfl) ?_
          refine lv_iconst (v := 1) hx hb dL_isPlayed_291 (by decide) ?_
          refine lv_iadd hx hb dL_isPlayed_292 ?_
          refine lv_icmp_ne (tgt := 346) hx hb dL_isPlayed_293 (by decide) (fun h30 => ?_) (fun h30 => ?_)
          · have hf := tk_neg hf h30
            refine lv_iconst (v := 0) hx hb dL_isPlayed_346 (by decide) ?_
            exact tk_rLz hQ (tk_s2 hf).1 (congrArg (tk_H c3 q) (tk_s2 hf).2) (by decide) (by decide) (by decide) hx hb hr hlocks hP hD hS dL_isPlayed_347
          · have hf := tk_pos hf h30
            refine lv_aload_n hx hb dL_isPlayed_296 rfl (lv_at hl 2 rfl) ?_
            obtain ⟨r31, h32, hf⟩ := tk_b1s hf
            refine tk_ci (ws' := (tk_H c3 q S_168)) (va_runV (As := []) (rest := []) ⟨hx, hb, hml, hown, hts⟩ (c_X6_inTrick l G c3 q S_168 r31 h32 H.size) (cwV 0 hts gL_isPlayed_X6_inTrick rfl rfl rfl hv_X6_inTrick ⟨Nat.le_of_ble_eq_true rfl, Nat.le_of_ble_eq_true rfl⟩) (tk_pV hE hP hD 0 rfl rfl) rfl rfl hl.1 rfl (lv_room (Nat.le_of_ble_eq_true rfl)) dL_isPlayed_297 ⟨Nat.le_of_ble_eq_true rfl, Nat.le_of_ble_eq_true rfl⟩) hD hS hA (fun H locs hP hD hS => ?_)
            refine lv_if_ne (tgt := 346) hx hb dL_isPlayed_300 (by decide) (fun h34 => ?_) (fun h34 => ?_)
            · have hf := tk_neg hf h34
              refine lv_iconst (v := 0) hx hb dL_isPlayed_346 (by decide) ?_
              exact tk_rLz hQ (tk_s2 hf).1 (congrArg (tk_H c3 q) (tk_s2 hf).2) (by decide) (by decide) (by decide) hx hb hr hlocks hP hD hS dL_isPlayed_347
            · have hf := tk_pos hf h34
              refine lv_aload_n hx hb dL_isPlayed_303 rfl (lv_at hl 2 rfl) ?_
              obtain ⟨r35, h36, hf⟩ := tk_b1s hf
              refine tk_ci (ws' := (tk_H c3 q S_168)) (va_runV (As := []) (rest := []) ⟨hx, hb, hml, hown, hts⟩ (c_X6_turn l G c3 q S_168 r35 h36 H.size) (cwV 0 hts gL_isPlayed_X6_turn rfl rfl rfl hv_X6_turn ⟨Nat.le_of_ble_eq_true rfl, Nat.le_of_ble_eq_true rfl⟩) (tk_pV hE hP hD 0 rfl rfl) rfl rfl hl.1 rfl (lv_room (Nat.le_of_ble_eq_true rfl)) dL_isPlayed_304 ⟨Nat.le_of_ble_eq_true rfl, Nat.le_of_ble_eq_true rfl⟩) hD hS hA (fun H locs hP hD hS => ?_)
              refine lv_iload hx hb dL_isPlayed_307 (lv_at hl 5 rfl) ?_
              refine lv_bipush (v := 11) hx hb dL_isPlayed_309 (by decide) ?_
              refine lv_icmp_ne (tgt := 318) hx hb dL_isPlayed_311 (by decide) (fun h38 => ?_) (fun h38 => ?_)
              · have hf := tk_neg hf h38
                refine lv_iload hx hb dL_isPlayed_318 (lv_at hl 11 rfl) ?_
                exact J_320 x12_168 (((3 : Int32) * (((r10 + r13) + r16) + r19)) - (8 : Int32)) r35 x13_168 S_168 H locs hP hD hS ls (lv_sub hl [2, 10, 0] rfl) hf
              · have hf := tk_pos hf h38
                refine lv_iconst (v := -1) hx hb dL_isPlayed_314 (by decide) ?_
                refine lv_goto (tgt := 320) hx hb dL_isPlayed_315 (by decide) ?_
                exact J_320 x12_168 (((3 : Int32) * (((r10 + r13) + r16) + r19)) - (8 : Int32)) r35 (-1 : Int32) S_168 H locs hP hD hS ls (lv_sub hl [2, 10, 0] rfl) hf
    · have hf := tk_neg hf h9
      refine lv_iload hx hb dL_isPlayed_175 (lv_at hl 0 rfl) ?_
      refine lv_if_eq (tgt := 222) hx hb dL_isPlayed_177 (by decide) (fun h39 => ?_) (fun h39 => ?_)
      · have hf := tk_pos hf h39
        refine lv_iconst (v := 0) hx hb dL_isPlayed_222 (by decide) ?_
        exact tk_rLz hQ (tk_s2 hf).1 (congrArg (tk_H c3 q) (tk_s2 hf).2) (by decide) (by decide) (by decide) hx hb hr hlocks hP hD hS dL_isPlayed_223
      · have hf := tk_neg hf h39
        refine lv_iload hx hb dL_isPlayed_180 (lv_at hl 10 rfl) ?_
        refine lv_iconst (v := -1) hx hb dL_isPlayed_182 (by decide) ?_
        refine lv_icmp_ne (tgt := 222) hx hb dL_isPlayed_183 (by decide) (fun h40 => ?_) (fun h40 => ?_)
        · have hf := tk_neg hf h40
          refine lv_iconst (v := 0) hx hb dL_isPlayed_222 (by decide) ?_
          exact tk_rLz hQ (tk_s2 hf).1 (congrArg (tk_H c3 q) (tk_s2 hf).2) (by decide) (by decide) (by decide) hx hb hr hlocks hP hD hS dL_isPlayed_223
        · have hf := tk_pos hf h40
          refine lv_aload_n hx hb dL_isPlayed_186 rfl (lv_at hl 1 rfl) ?_
          obtain ⟨r41, h42, hf⟩ := tk_b1s hf
          refine tk_ci (ws' := (tk_H c3 q S_168)) (va_runV (As := []) (rest := []) ⟨hx, hb, hml, hown, hts⟩ (c_X6_inTrick l G c3 q S_168 r41 h42 H.size) (cwV 0 hts gL_isPlayed_X6_inTrick rfl rfl rfl hv_X6_inTrick ⟨Nat.le_of_ble_eq_true rfl, Nat.le_of_ble_eq_true rfl⟩) (tk_pV hE hP hD 0 rfl rfl) rfl rfl hl.1 rfl (lv_room (Nat.le_of_ble_eq_true rfl)) dL_isPlayed_187 ⟨Nat.le_of_ble_eq_true rfl, Nat.le_of_ble_eq_true rfl⟩) hD hS hA (fun H locs hP hD hS => ?_)
          refine lv_iload_n hx hb dL_isPlayed_190 rfl (lv_at hl 3 rfl) ?_
          refine lv_iconst (v := 1) hx hb dL_isPlayed_191 (by decide) ?_
          refine lv_iadd hx hb dL_isPlayed_192 ?_
          refine lv_icmp_ne (tgt := 222) hx hb dL_isPlayed_193 (by decide) (fun h44 => ?_) (fun h44 => ?_)
          · have hf := tk_neg hf h44
            refine lv_iconst (v := 0) hx hb dL_isPlayed_222 (by decide) ?_
            exact tk_rLz hQ (tk_s2 hf).1 (congrArg (tk_H c3 q) (tk_s2 hf).2) (by decide) (by decide) (by decide) hx hb hr hlocks hP hD hS dL_isPlayed_223
          · have hf := tk_pos hf h44
            refine lv_aload_n hx hb dL_isPlayed_196 rfl (lv_at hl 1 rfl) ?_
            refine lv_iload_n hx hb dL_isPlayed_197 rfl (lv_at hl 3 rfl) ?_
            obtain ⟨r45, h46, hf⟩ := tk_b1s hf
            refine tk_ci (ws' := (tk_H c3 q S_168)) (va_runV (As := [.int x3_168]) (rest := []) ⟨hx, hb, hml, hown, hts⟩ (c0_X6_trickAt l G c3 q S_168 x3_168 r45 h46 H.size) (cwV 1 hts gL_isPlayed_X6_trickAt rfl rfl rfl hv_X6_trickAt ⟨Nat.le_of_ble_eq_true rfl, Nat.le_of_ble_eq_true rfl⟩) (tk_pV hE hP hD 0 rfl rfl) rfl rfl hl.1 rfl (lv_room (Nat.le_of_ble_eq_true rfl)) dL_isPlayed_198 ⟨Nat.le_of_ble_eq_true rfl, Nat.le_of_ble_eq_true rfl⟩) hD hS hA (fun H locs hP hD hS => ?_)
            refine lv_iload hx hb dL_isPlayed_201 (lv_at hl 5 rfl) ?_
            refine lv_icmp_ne (tgt := 222) hx hb dL_isPlayed_203 (by decide) (fun h48 => ?_) (fun h48 => ?_)
            · have hf := tk_neg hf h48
              refine lv_iconst (v := 0) hx hb dL_isPlayed_222 (by decide) ?_
              exact tk_rLz hQ (tk_s2 hf).1 (congrArg (tk_H c3 q) (tk_s2 hf).2) (by decide) (by decide) (by decide) hx hb hr hlocks hP hD hS dL_isPlayed_223
            · have hf := tk_pos hf h48
              refine lv_aload_n hx hb dL_isPlayed_206 rfl (lv_at hl 1 rfl) ?_
              obtain ⟨r49, h50, hf⟩ := tk_b1s hf
              refine tk_ci (ws' := (tk_H c3 q S_168)) (va_runV (As := []) (rest := []) ⟨hx, hb, hml, hown, hts⟩ (c_X6_turn l G c3 q S_168 r49 h50 H.size) (cwV 0 hts gL_isPlayed_X6_turn rfl rfl rfl hv_X6_turn ⟨Nat.le_of_ble_eq_true rfl, Nat.le_of_ble_eq_true rfl⟩) (tk_pV hE hP hD 0 rfl rfl) rfl rfl hl.1 rfl (lv_room (Nat.le_of_ble_eq_true rfl)) dL_isPlayed_207 ⟨Nat.le_of_ble_eq_true rfl, Nat.le_of_ble_eq_true rfl⟩) hD hS hA (fun H locs hP hD hS => ?_)
              refine lv_iload_n hx hb dL_isPlayed_210 rfl (lv_at hl 2 rfl) ?_
              refine lv_iconst (v := 1) hx hb dL_isPlayed_211 (by decide) ?_
              refine lv_iadd hx hb dL_isPlayed_212 ?_
              refine lv_iconst (v := 4) hx hb dL_isPlayed_213 (by decide) ?_
              refine tk_irem hx hb dL_isPlayed_214 (by decide) ?_
              refine lv_icmp_ne (tgt := 222) hx hb dL_isPlayed_215 (by decide) (fun h52 => ?_) (fun h52 => ?_)
              · have hf := tk_neg hf h52
                refine lv_iconst (v := 0) hx hb dL_isPlayed_222 (by decide) ?_
                exact tk_rLz hQ (tk_s2 hf).1 (congrArg (tk_H c3 q) (tk_s2 hf).2) (by decide) (by decide) (by decide) hx hb hr hlocks hP hD hS dL_isPlayed_223
              · have hf := tk_pos hf h52
                refine lv_iconst (v := 1) hx hb dL_isPlayed_218 (by decide) ?_
                refine lv_goto (tgt := 223) hx hb dL_isPlayed_219 (by decide) ?_
                exact tk_rLz hQ (tk_s2 hf).1 (congrArg (tk_H c3 q) (tk_s2 hf).2) (by decide) (by decide) (by decide) hx hb hr hlocks hP hD hS dL_isPlayed_223
  have J_87 : ∀ (x2_87 : Int32) (x3_87 : Int32) (x4_87 : Int32) (x5_87 : Int64) (x7_87 : Int32) (x8_87 : Int32) (x9_87 : Int32) (x10_87 : Int32) (k0_87 : Int32) (S_87 : tk_ST) (H : Heap) (locs : List Loc) (_ : va_P G vwCl (tk_H c3 q S_87) H) (_ : va_D A (tk_H c3 q S_87)) (_ : va_S A s.heap H locs) (ls : Array Slot) (_ : lv_has ls 16 [(0, .ref (q 0)), (2, .int x2_87), (3, .int x3_87), (4, .int x4_87), (5, .long x5_87), (7, .int x7_87), (8, .int x8_87), (9, .int x9_87), (10, .int x10_87)]) (_ : f_L_isPlayed_87 x2_87 x3_87 x4_87 x5_87 x7_87 x8_87 x9_87 x10_87 k0_87 S_87 = some (r0, S0)), W p l e rm_L_isPlayed s m ([.ref (q 0), .int p1] : List Value).toArray below meth c H locs 0 0 Q (F0 m 87 ls [.int k0_87]) := by
    intro x2_87 x3_87 x4_87 x5_87 x7_87 x8_87 x9_87 x10_87 k0_87 S_87 H locs hP hD hS ls hl hf
    unfold f_L_isPlayed_87 at hf
    refine lv_istore (lv' := [(11, .int k0_87), (0, .ref (q 0)), (2, .int x2_87), (3, .int x3_87), (4, .int x4_87), (5, .long x5_87), (7, .int x7_87), (8, .int x8_87), (9, .int x9_87), (10, .int x10_87)]) hx hb dL_isPlayed_87 hl (by decide) rfl (fun ls hl => ?_)
    refine lv_aload_n hx hb dL_isPlayed_89 rfl (lv_at hl 1 rfl) ?_
    refine lv_iconst (v := 0) hx hb dL_isPlayed_90 (by decide) ?_
    obtain ⟨r53, h54, hf⟩ := tk_b1s hf
    refine tk_ci (ws' := (tk_H c3 q S_87)) (va_runV (As := [.int (0 : Int32)]) (rest := []) ⟨hx, hb, hml, hown, hts⟩ (c0_X6_thirds l G c3 q S_87 (0 : Int32) r53 h54 H.size) (cwV 1 hts gL_isPlayed_X6_thirds rfl rfl rfl hv_X6_thirds ⟨Nat.le_of_ble_eq_true rfl, Nat.le_of_ble_eq_true rfl⟩) (tk_pV hE hP hD 0 rfl rfl) rfl rfl hl.1 rfl (lv_room (Nat.le_of_ble_eq_true rfl)) dL_isPlayed_91 ⟨Nat.le_of_ble_eq_true rfl, Nat.le_of_ble_eq_true rfl⟩) hD hS hA (fun H locs hP hD hS => ?_)
    refine lv_aload_n hx hb dL_isPlayed_94 rfl (lv_at hl 1 rfl) ?_
    refine lv_iconst (v := 1) hx hb dL_isPlayed_95 (by decide) ?_
    obtain ⟨r56, h57, hf⟩ := tk_b1s hf
    refine tk_ci (ws' := (tk_H c3 q S_87)) (va_runV (As := [.int (1 : Int32)]) (rest := [.int r53]) ⟨hx, hb, hml, hown, hts⟩ (c0_X6_thirds l G c3 q S_87 (1 : Int32) r56 h57 H.size) (cwV 1 hts gL_isPlayed_X6_thirds rfl rfl rfl hv_X6_thirds ⟨Nat.le_of_ble_eq_true rfl, Nat.le_of_ble_eq_true rfl⟩) (tk_pV hE hP hD 0 rfl rfl) rfl rfl hl.1 rfl (lv_room (Nat.le_of_ble_eq_true rfl)) dL_isPlayed_96 ⟨Nat.le_of_ble_eq_true rfl, Nat.le_of_ble_eq_true rfl⟩) hD hS hA (fun H locs hP hD hS => ?_)
    refine lv_iadd hx hb dL_isPlayed_99 ?_
    refine lv_istore (lv' := [(12, .int (r53 + r56)), (11, .int k0_87), (0, .ref (q 0)), (2, .int x2_87), (3, .int x3_87), (4, .int x4_87), (5, .long x5_87), (7, .int x7_87), (8, .int x8_87), (9, .int x9_87), (10, .int x10_87)]) hx hb dL_isPlayed_100 hl (by decide) rfl (fun ls hl => ?_)
    refine lv_aload_n hx hb dL_isPlayed_102 rfl (lv_at hl 2 rfl) ?_
    refine lv_iload hx hb dL_isPlayed_103 (lv_at hl 7 rfl) ?_
    obtain ⟨r59, S60, h61, hf⟩ := tk_b2s hf
    refine tk_ciA (a := (tk_H c3 q S_87)) (a' := (tk_H c3 q S60)) (vx_runSW (As := [.ref (q 0), .int x7_87]) (rest := []) ⟨hx, hb, hml, hown, hts⟩ (c_L_plays l hlst G c3 q S_87 x7_87 r59 S60 h61 H.size) (vx_cwSW 2 hts gL_isPlayed_L_plays rfl rfl rfl hs_L_plays ⟨Nat.le_of_ble_eq_true rfl, Nat.le_of_ble_eq_true rfl⟩) (tk_pSL hE hZ hC hP hD hS hA) rfl rfl hl.1 rfl (lv_room (Nat.le_of_ble_eq_true rfl)) dL_isPlayed_105 ⟨Nat.le_of_ble_eq_true rfl, Nat.le_of_ble_eq_true rfl⟩) hP hD hS hA (fun H locs hP hD hS => ?_)
    refine lv_istore (lv' := [(13, .int r59), (12, .int (r53 + r56)), (11, .int k0_87), (0, .ref (q 0)), (2, .int x2_87), (3, .int x3_87), (4, .int x4_87), (5, .long x5_87), (7, .int x7_87), (8, .int x8_87), (9, .int x9_87), (10, .int x10_87)]) hx hb dL_isPlayed_108 hl (by decide) rfl (fun ls hl => ?_)
    refine lv_iload hx hb dL_isPlayed_110 (lv_at hl 9 rfl) ?_
    refine lv_if_ne (tgt := 147) hx hb dL_isPlayed_112 (by decide) (fun h62 => ?_) (fun h62 => ?_)
    · have hf := tk_neg hf h62
      refine lv_aload_n hx hb dL_isPlayed_147 rfl (lv_at hl 3 rfl) ?_
      refine lv_iload_n hx hb dL_isPlayed_148 rfl (lv_at hl 4 rfl) ?_
      obtain ⟨r63, h64, hf⟩ := tk_b1s hf
      refine tk_cl (ws' := (tk_H c3 q S60)) (va_runV (As := [.int x2_87]) (rest := []) ⟨hx, hb, hml, hown, hts⟩ (c0_X6_hand l G c3 q S60 x2_87 r63 h64 H.size) (cwV 1 hts gL_isPlayed_X6_hand rfl rfl rfl hv_X6_hand ⟨Nat.le_of_ble_eq_true rfl, Nat.le_of_ble_eq_true rfl⟩) (tk_pV hE hP hD 0 rfl rfl) rfl rfl hl.1 rfl (lv_room (Nat.le_of_ble_eq_true rfl)) dL_isPlayed_149 ⟨Nat.le_of_ble_eq_true rfl, Nat.le_of_ble_eq_true rfl⟩) hD hS hA (fun H locs hP hD hS => ?_)
      refine lv_lload hx hb dL_isPlayed_152 (lv_at hl 7 rfl) ?_
      refine lv_lconst (v := 1) hx hb dL_isPlayed_154 (by decide) ?_
      refine lv_iload hx hb dL_isPlayed_155 (lv_at hl 8 rfl) ?_
      refine lv_lshl (v := (1 : Int64) <<< (x7_87.toInt64 &&& 63)) hx hb dL_isPlayed_157 rfl ?_
      refine lv_lsub hx hb dL_isPlayed_158 ?_
      refine W.lcmp hx hb dL_isPlayed_159 ?_
      refine lv_if_ne (tgt := 167) hx hb dL_isPlayed_160 (by decide) (fun h66 => ?_) (fun h66 => ?_)
      · have hf := tk_neg hf h66
        refine lv_iconst (v := 0) hx hb dL_isPlayed_167 (by decide) ?_
        exact J_168 x2_87 x3_87 x4_87 x7_87 x9_87 x10_87 k0_87 (r53 + r56) r59 (0 : Int32) S60 H locs hP hD hS ls (lv_sub hl [3, 4, 5, 6, 8, 10, 11, 2, 1, 0] rfl) hf
      · have hf := tk_pos hf h66
        refine lv_iconst (v := 1) hx hb dL_isPlayed_163 (by decide) ?_
        refine lv_goto (tgt := 168) hx hb dL_isPlayed_164 (by decide) ?_
        exact J_168 x2_87 x3_87 x4_87 x7_87 x9_87 x10_87 k0_87 (r53 + r56) r59 (1 : Int32) S60 H locs hP hD hS ls (lv_sub hl [3, 4, 5, 6, 8, 10, 11, 2, 1, 0] rfl) hf
    · have hf := tk_pos hf h62
      refine lv_iload hx hb dL_isPlayed_115 (lv_at hl 0 rfl) ?_
      refine lv_bipush (v := -9) hx hb dL_isPlayed_117 (by decide) ?_
      refine lv_icmp_ne (tgt := 145) hx hb dL_isPlayed_119 (by decide) (fun h67 => ?_) (fun h67 => ?_)
      · have hf := tk_neg hf h67
        refine lv_iconst (v := 0) hx hb dL_isPlayed_145 (by decide) ?_
        exact tk_rLz hQ (tk_s2 hf).1 (congrArg (tk_H c3 q) (tk_s2 hf).2) (by decide) (by decide) (by decide) hx hb hr hlocks hP hD hS dL_isPlayed_146
      · have hf := tk_pos hf h67
        refine lv_aload_n hx hb dL_isPlayed_122 rfl (lv_at hl 3 rfl) ?_
        refine lv_iload_n hx hb dL_isPlayed_123 rfl (lv_at hl 4 rfl) ?_
        obtain ⟨r68, h69, hf⟩ := tk_b1s hf
        refine tk_cl (ws' := (tk_H c3 q S60)) (va_runV (As := [.int x2_87]) (rest := []) ⟨hx, hb, hml, hown, hts⟩ (c0_X6_hand l G c3 q S60 x2_87 r68 h69 H.size) (cwV 1 hts gL_isPlayed_X6_hand rfl rfl rfl hv_X6_hand ⟨Nat.le_of_ble_eq_true rfl, Nat.le_of_ble_eq_true rfl⟩) (tk_pV hE hP hD 0 rfl rfl) rfl rfl hl.1 rfl (lv_room (Nat.le_of_ble_eq_true rfl)) dL_isPlayed_124 ⟨Nat.le_of_ble_eq_true rfl, Nat.le_of_ble_eq_true rfl⟩) hD hS hA (fun H locs hP hD hS => ?_)
        refine lv_lload hx hb dL_isPlayed_127 (lv_at hl 7 rfl) ?_
        refine W.lcmp hx hb dL_isPlayed_129 ?_
        refine lv_if_ne (tgt := 145) hx hb dL_isPlayed_130 (by decide) (fun h71 => ?_) (fun h71 => ?_)
        · have hf := tk_neg hf h71
          refine lv_iconst (v := 0) hx hb dL_isPlayed_145 (by decide) ?_
          exact tk_rLz hQ (tk_s2 hf).1 (congrArg (tk_H c3 q) (tk_s2 hf).2) (by decide) (by decide) (by decide) hx hb hr hlocks hP hD hS dL_isPlayed_146
        · have hf := tk_pos hf h71
          refine lv_aload_n hx hb dL_isPlayed_133 rfl (lv_at hl 3 rfl) ?_
          obtain ⟨r72, h73, hf⟩ := tk_b1s hf
          refine tk_ci (ws' := (tk_H c3 q S60)) (va_runV (As := []) (rest := []) ⟨hx, hb, hml, hown, hts⟩ (c_X6_turn l G c3 q S60 r72 h73 H.size) (cwV 0 hts gL_isPlayed_X6_turn rfl rfl rfl hv_X6_turn ⟨Nat.le_of_ble_eq_true rfl, Nat.le_of_ble_eq_true rfl⟩) (tk_pV hE hP hD 0 rfl rfl) rfl rfl hl.1 rfl (lv_room (Nat.le_of_ble_eq_true rfl)) dL_isPlayed_134 ⟨Nat.le_of_ble_eq_true rfl, Nat.le_of_ble_eq_true rfl⟩) hD hS hA (fun H locs hP hD hS => ?_)
          refine lv_iload_n hx hb dL_isPlayed_137 rfl (lv_at hl 4 rfl) ?_
          refine lv_icmp_ne (tgt := 145) hx hb dL_isPlayed_138 (by decide) (fun h75 => ?_) (fun h75 => ?_)
          · have hf := tk_neg hf h75
            refine lv_iconst (v := 0) hx hb dL_isPlayed_145 (by decide) ?_
            exact tk_rLz hQ (tk_s2 hf).1 (congrArg (tk_H c3 q) (tk_s2 hf).2) (by decide) (by decide) (by decide) hx hb hr hlocks hP hD hS dL_isPlayed_146
          · have hf := tk_pos hf h75
            refine lv_iconst (v := 1) hx hb dL_isPlayed_141 (by decide) ?_
            refine lv_goto (tgt := 146) hx hb dL_isPlayed_142 (by decide) ?_
            exact tk_rLz hQ (tk_s2 hf).1 (congrArg (tk_H c3 q) (tk_s2 hf).2) (by decide) (by decide) (by decide) hx hb hr hlocks hP hD hS dL_isPlayed_146
  have J_70 : ∀ (x2_70 : Int32) (x3_70 : Int32) (x4_70 : Int32) (x5_70 : Int64) (x7_70 : Int32) (x8_70 : Int32) (x9_70 : Int32) (k0_70 : Int32) (S_70 : tk_ST) (H : Heap) (locs : List Loc) (_ : va_P G vwCl (tk_H c3 q S_70) H) (_ : va_D A (tk_H c3 q S_70)) (_ : va_S A s.heap H locs) (ls : Array Slot) (_ : lv_has ls 16 [(0, .ref (q 0)), (2, .int x2_70), (3, .int x3_70), (4, .int x4_70), (5, .long x5_70), (7, .int x7_70), (8, .int x8_70), (9, .int x9_70)]) (_ : f_L_isPlayed_70 x2_70 x3_70 x4_70 x5_70 x7_70 x8_70 x9_70 k0_70 S_70 = some (r0, S0)), W p l e rm_L_isPlayed s m ([.ref (q 0), .int p1] : List Value).toArray below meth c H locs 0 0 Q (F0 m 70 ls [.int k0_70]) := by
    intro x2_70 x3_70 x4_70 x5_70 x7_70 x8_70 x9_70 k0_70 S_70 H locs hP hD hS ls hl hf
    unfold f_L_isPlayed_70 at hf
    refine lv_istore (lv' := [(10, .int k0_70), (0, .ref (q 0)), (2, .int x2_70), (3, .int x3_70), (4, .int x4_70), (5, .long x5_70), (7, .int x7_70), (8, .int x8_70), (9, .int x9_70)]) hx hb dL_isPlayed_70 hl (by decide) rfl (fun ls hl => ?_)
    refine lv_iload_n hx hb dL_isPlayed_72 rfl (lv_at hl 3 rfl) ?_
    refine lv_iconst (v := 2) hx hb dL_isPlayed_73 (by decide) ?_
    refine lv_icmp_le (tgt := 85) hx hb dL_isPlayed_74 (by decide) (fun h76 => ?_) (fun h76 => ?_)
    · have hf := tk_pos hf h76
      refine lv_iload hx hb dL_isPlayed_85 (lv_at hl 6 rfl) ?_
      exact J_87 x2_70 x3_70 x4_70 x5_70 x7_70 x8_70 x9_70 k0_70 x7_70 S_70 H locs hP hD hS ls (lv_sub hl [1, 2, 3, 4, 5, 6, 7, 8, 0] rfl) hf
    · have hf := tk_neg hf h76
      refine lv_aload_n hx hb dL_isPlayed_77 rfl (lv_at hl 1 rfl) ?_
      refine lv_iconst (v := 2) hx hb dL_isPlayed_78 (by decide) ?_
      obtain ⟨r77, h78, hf⟩ := tk_b1s hf
      refine tk_ci (ws' := (tk_H c3 q S_70)) (va_runV (As := [.int (2 : Int32)]) (rest := []) ⟨hx, hb, hml, hown, hts⟩ (c0_X6_trickAt l G c3 q S_70 (2 : Int32) r77 h78 H.size) (cwV 1 hts gL_isPlayed_X6_trickAt rfl rfl rfl hv_X6_trickAt ⟨Nat.le_of_ble_eq_true rfl, Nat.le_of_ble_eq_true rfl⟩) (tk_pV hE hP hD 0 rfl rfl) rfl rfl hl.1 rfl (lv_room (Nat.le_of_ble_eq_true rfl)) dL_isPlayed_79 ⟨Nat.le_of_ble_eq_true rfl, Nat.le_of_ble_eq_true rfl⟩) hD hS hA (fun H locs hP hD hS => ?_)
      refine lv_goto (tgt := 87) hx hb dL_isPlayed_82 (by decide) ?_
      exact J_87 x2_70 x3_70 x4_70 x5_70 x7_70 x8_70 x9_70 k0_70 r77 S_70 H locs hP hD hS ls (lv_sub hl [1, 2, 3, 4, 5, 6, 7, 8, 0] rfl) hf
  have J_53 : ∀ (x2_53 : Int32) (x3_53 : Int32) (x4_53 : Int32) (x5_53 : Int64) (x7_53 : Int32) (x8_53 : Int32) (k0_53 : Int32) (S_53 : tk_ST) (H : Heap) (locs : List Loc) (_ : va_P G vwCl (tk_H c3 q S_53) H) (_ : va_D A (tk_H c3 q S_53)) (_ : va_S A s.heap H locs) (ls : Array Slot) (_ : lv_has ls 16 [(0, .ref (q 0)), (2, .int x2_53), (3, .int x3_53), (4, .int x4_53), (5, .long x5_53), (7, .int x7_53), (8, .int x8_53)]) (_ : f_L_isPlayed_53 x2_53 x3_53 x4_53 x5_53 x7_53 x8_53 k0_53 S_53 = some (r0, S0)), W p l e rm_L_isPlayed s m ([.ref (q 0), .int p1] : List Value).toArray below meth c H locs 0 0 Q (F0 m 53 ls [.int k0_53]) := by
    intro x2_53 x3_53 x4_53 x5_53 x7_53 x8_53 k0_53 S_53 H locs hP hD hS ls hl hf
    unfold f_L_isPlayed_53 at hf
    refine lv_istore (lv' := [(9, .int k0_53), (0, .ref (q 0)), (2, .int x2_53), (3, .int x3_53), (4, .int x4_53), (5, .long x5_53), (7, .int x7_53), (8, .int x8_53)]) hx hb dL_isPlayed_53 hl (by decide) rfl (fun ls hl => ?_)
    refine lv_iload_n hx hb dL_isPlayed_55 rfl (lv_at hl 3 rfl) ?_
    refine lv_iconst (v := 1) hx hb dL_isPlayed_56 (by decide) ?_
    refine lv_icmp_le (tgt := 68) hx hb dL_isPlayed_57 (by decide) (fun h80 => ?_) (fun h80 => ?_)
    · have hf := tk_pos hf h80
      refine lv_iload hx hb dL_isPlayed_68 (lv_at hl 6 rfl) ?_
      exact J_70 x2_53 x3_53 x4_53 x5_53 x7_53 x8_53 k0_53 x7_53 S_53 H locs hP hD hS ls (lv_sub hl [1, 2, 3, 4, 5, 6, 7, 0] rfl) hf
    · have hf := tk_neg hf h80
      refine lv_aload_n hx hb dL_isPlayed_60 rfl (lv_at hl 1 rfl) ?_
      refine lv_iconst (v := 1) hx hb dL_isPlayed_61 (by decide) ?_
      obtain ⟨r81, h82, hf⟩ := tk_b1s hf
      refine tk_ci (ws' := (tk_H c3 q S_53)) (va_runV (As := [.int (1 : Int32)]) (rest := []) ⟨hx, hb, hml, hown, hts⟩ (c0_X6_trickAt l G c3 q S_53 (1 : Int32) r81 h82 H.size) (cwV 1 hts gL_isPlayed_X6_trickAt rfl rfl rfl hv_X6_trickAt ⟨Nat.le_of_ble_eq_true rfl, Nat.le_of_ble_eq_true rfl⟩) (tk_pV hE hP hD 0 rfl rfl) rfl rfl hl.1 rfl (lv_room (Nat.le_of_ble_eq_true rfl)) dL_isPlayed_62 ⟨Nat.le_of_ble_eq_true rfl, Nat.le_of_ble_eq_true rfl⟩) hD hS hA (fun H locs hP hD hS => ?_)
      refine lv_goto (tgt := 70) hx hb dL_isPlayed_65 (by decide) ?_
      exact J_70 x2_53 x3_53 x4_53 x5_53 x7_53 x8_53 k0_53 r81 S_53 H locs hP hD hS ls (lv_sub hl [1, 2, 3, 4, 5, 6, 7, 0] rfl) hf
  unfold f_L_isPlayed at hf
  refine lv_aload_n hx hb dL_isPlayed_0 rfl (lv_at hl 0 rfl) ?_
  obtain ⟨r84, h85, hf⟩ := tk_b1s hf
  refine tk_ci (ws' := (tk_H c3 q S)) (va_runV (As := []) (rest := []) ⟨hx, hb, hml, hown, hts⟩ (c_X6_turn l G c3 q S r84 h85 H.size) (cwV 0 hts gL_isPlayed_X6_turn rfl rfl rfl hv_X6_turn ⟨Nat.le_of_ble_eq_true rfl, Nat.le_of_ble_eq_true rfl⟩) (tk_pV hE hP hD 0 rfl rfl) rfl rfl hl.1 rfl (lv_room (Nat.le_of_ble_eq_true rfl)) dL_isPlayed_1 ⟨Nat.le_of_ble_eq_true rfl, Nat.le_of_ble_eq_true rfl⟩) hD hS hA (fun H locs hP hD hS => ?_)
  refine lv_istore_n (lv' := [(2, .int r84), (0, .ref (q 0)), (1, .int p1)]) hx hb dL_isPlayed_4 rfl hl (by decide) rfl (fun ls hl => ?_)
  refine lv_aload_n hx hb dL_isPlayed_5 rfl (lv_at hl 1 rfl) ?_
  obtain ⟨r87, h88, hf⟩ := tk_b1s hf
  refine tk_ci (ws' := (tk_H c3 q S)) (va_runV (As := []) (rest := []) ⟨hx, hb, hml, hown, hts⟩ (c_X6_inTrick l G c3 q S r87 h88 H.size) (cwV 0 hts gL_isPlayed_X6_inTrick rfl rfl rfl hv_X6_inTrick ⟨Nat.le_of_ble_eq_true rfl, Nat.le_of_ble_eq_true rfl⟩) (tk_pV hE hP hD 0 rfl rfl) rfl rfl hl.1 rfl (lv_room (Nat.le_of_ble_eq_true rfl)) dL_isPlayed_6 ⟨Nat.le_of_ble_eq_true rfl, Nat.le_of_ble_eq_true rfl⟩) hD hS hA (fun H locs hP hD hS => ?_)
  refine lv_istore_n (lv' := [(3, .int r87), (2, .int r84), (0, .ref (q 0)), (1, .int p1)]) hx hb dL_isPlayed_9 rfl hl (by decide) rfl (fun ls hl => ?_)
  refine lv_aload_n hx hb dL_isPlayed_10 rfl (lv_at hl 2 rfl) ?_
  obtain ⟨r90, h91, hf⟩ := tk_b1s hf
  refine tk_ci (ws' := (tk_H c3 q S)) (va_runV (As := []) (rest := []) ⟨hx, hb, hml, hown, hts⟩ (c_X6_tricks l G c3 q S r90 h91 H.size) (cwV 0 hts gL_isPlayed_X6_tricks rfl rfl rfl hv_X6_tricks ⟨Nat.le_of_ble_eq_true rfl, Nat.le_of_ble_eq_true rfl⟩) (tk_pV hE hP hD 0 rfl rfl) rfl rfl hl.1 rfl (lv_room (Nat.le_of_ble_eq_true rfl)) dL_isPlayed_11 ⟨Nat.le_of_ble_eq_true rfl, Nat.le_of_ble_eq_true rfl⟩) hD hS hA (fun H locs hP hD hS => ?_)
  refine lv_istore (lv' := [(4, .int r90), (3, .int r87), (2, .int r84), (0, .ref (q 0)), (1, .int p1)]) hx hb dL_isPlayed_14 hl (by decide) rfl (fun ls hl => ?_)
  refine lv_aload_n hx hb dL_isPlayed_16 rfl (lv_at hl 3 rfl) ?_
  refine lv_iload_n hx hb dL_isPlayed_17 rfl (lv_at hl 2 rfl) ?_
  obtain ⟨r93, h94, hf⟩ := tk_b1s hf
  refine tk_cl (ws' := (tk_H c3 q S)) (va_runV (As := [.int r84]) (rest := []) ⟨hx, hb, hml, hown, hts⟩ (c0_X6_hand l G c3 q S r84 r93 h94 H.size) (cwV 1 hts gL_isPlayed_X6_hand rfl rfl rfl hv_X6_hand ⟨Nat.le_of_ble_eq_true rfl, Nat.le_of_ble_eq_true rfl⟩) (tk_pV hE hP hD 0 rfl rfl) rfl rfl hl.1 rfl (lv_room (Nat.le_of_ble_eq_true rfl)) dL_isPlayed_18 ⟨Nat.le_of_ble_eq_true rfl, Nat.le_of_ble_eq_true rfl⟩) hD hS hA (fun H locs hP hD hS => ?_)
  refine lv_lstore (lv' := [(5, .long r93), (4, .int r90), (3, .int r87), (2, .int r84), (0, .ref (q 0)), (1, .int p1)]) hx hb dL_isPlayed_21 hl (by decide) rfl (fun ls hl => ?_)
  refine lv_lload hx hb dL_isPlayed_23 (lv_at hl 0 rfl) ?_
  refine lv_iload_n hx hb dL_isPlayed_25 rfl (lv_at hl 5 rfl) ?_
  obtain ⟨r96, h97, hf⟩ := tk_b1s hf
  refine tk_ci (ws' := (tk_H c3 q S)) (va_runS (As := [.long r93, .int p1]) (rest := []) ⟨hx, hb, hml, hown, hts⟩ (c_L_drawn l G c3 (tk_H c3 q S) r93 p1 r96 h97 H.size) (va_cwS 2 hts gL_isPlayed_L_drawn rfl rfl rfl hs_L_drawn ⟨Nat.le_of_ble_eq_true rfl, Nat.le_of_ble_eq_true rfl⟩) (tk_pS hE hP hD) rfl rfl hl.1 rfl (lv_room (Nat.le_of_ble_eq_true rfl)) dL_isPlayed_26 ⟨Nat.le_of_ble_eq_true rfl, Nat.le_of_ble_eq_true rfl⟩) hD hS hA (fun H locs hP hD hS => ?_)
  refine lv_istore (lv' := [(7, .int r96), (5, .long r93), (4, .int r90), (3, .int r87), (2, .int r84), (0, .ref (q 0)), (1, .int p1)]) hx hb dL_isPlayed_29 hl (by decide) rfl (fun ls hl => ?_)
  refine lv_aload_n hx hb dL_isPlayed_31 rfl (lv_at hl 5 rfl) ?_
  refine lv_iload hx hb dL_isPlayed_32 (lv_at hl 0 rfl) ?_
  obtain ⟨r99, h100, hf⟩ := tk_b1s hf
  refine tk_ci (ws' := (tk_H c3 q S)) (va_runV (As := [.int r96]) (rest := []) ⟨hx, hb, hml, hown, hts⟩ (c0_X6_canPlay l G c3 q S r96 r99 h100 H.size) (cwV 1 hts gL_isPlayed_X6_canPlay rfl rfl rfl hv_X6_canPlay ⟨Nat.le_of_ble_eq_true rfl, Nat.le_of_ble_eq_true rfl⟩) (tk_pV hE hP hD 0 rfl rfl) rfl rfl hl.1 rfl (lv_room (Nat.le_of_ble_eq_true rfl)) dL_isPlayed_34 ⟨Nat.le_of_ble_eq_true rfl, Nat.le_of_ble_eq_true rfl⟩) hD hS hA (fun H locs hP hD hS => ?_)
  refine lv_istore (lv' := [(8, .int r99), (7, .int r96), (5, .long r93), (4, .int r90), (3, .int r87), (2, .int r84), (0, .ref (q 0)), (1, .int p1)]) hx hb dL_isPlayed_37 hl (by decide) rfl (fun ls hl => ?_)
  refine lv_iload_n hx hb dL_isPlayed_39 rfl (lv_at hl 4 rfl) ?_
  refine lv_if_le (tgt := 51) hx hb dL_isPlayed_40 (by decide) (fun h102 => ?_) (fun h102 => ?_)
  · have hf := tk_pos hf h102
    refine lv_iload hx hb dL_isPlayed_51 (lv_at hl 1 rfl) ?_
    exact J_53 r84 r87 r90 r93 r96 r99 r96 S H locs hP hD hS ls (lv_sub hl [6, 5, 4, 3, 2, 1, 0] rfl) hf
  · have hf := tk_neg hf h102
    refine lv_aload_n hx hb dL_isPlayed_43 rfl (lv_at hl 6 rfl) ?_
    refine lv_iconst (v := 0) hx hb dL_isPlayed_44 (by decide) ?_
    obtain ⟨r103, h104, hf⟩ := tk_b1s hf
    refine tk_ci (ws' := (tk_H c3 q S)) (va_runV (As := [.int (0 : Int32)]) (rest := []) ⟨hx, hb, hml, hown, hts⟩ (c0_X6_trickAt l G c3 q S (0 : Int32) r103 h104 H.size) (cwV 1 hts gL_isPlayed_X6_trickAt rfl rfl rfl hv_X6_trickAt ⟨Nat.le_of_ble_eq_true rfl, Nat.le_of_ble_eq_true rfl⟩) (tk_pV hE hP hD 0 rfl rfl) rfl rfl hl.1 rfl (lv_room (Nat.le_of_ble_eq_true rfl)) dL_isPlayed_45 ⟨Nat.le_of_ble_eq_true rfl, Nat.le_of_ble_eq_true rfl⟩) hD hS hA (fun H locs hP hD hS => ?_)
    refine lv_goto (tgt := 53) hx hb dL_isPlayed_48 (by decide) ?_
    exact J_53 r84 r87 r90 r93 r96 r99 r103 S H locs hP hD hS ls (lv_sub hl [6, 5, 4, 3, 2, 1, 0] rfl) hf
