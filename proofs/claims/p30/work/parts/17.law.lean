/-! THE CLAIM OUT OF ONE WALK OF THE LAW'S BODY. Your part is whole_start (and what it stands on); all else here is the same for every law, but numbers. -/
def R_law : String := "TarockHallLaw"
def lw_P (b : Addr) (xs : List Int32) (args : Array Value) (s : State) : Prop := args = #[.ref b] ∧ s.IntsAt b xs ∧ xs.length ≤ 260 ∧ (Jvm.Cond.and given_1 narrow_1).before args s = true
def lw_Q (_ : Array Value) (s : State) (o : Outcome) (t : State) : Prop := o = .returned (some (.int 1)) ∧ Framed s o t [] 600172 7300668
def lw_Z (below : List Frame) (a : Array Value) (s : State) : State → Prop := fun t => ∃ o, t.status = .running ∧ Ended t below o ∧ lw_Q a s o t
/-- the law's own end, with 1 on the stack, nothing written that was there before, its room as the claim has it -/
theorem lw_ret {p : Program} {l : Launch} {e : Env} {s : State} {m : MethodId} {below : List Frame} {meth : Method} {c : Code} {b : Nat} (hx : p.tables.exec = Jvm.exec) (hb : c.code = code) (hr : meth.sig.returnType = ret) (hlocks : meth.locks = false) {pc : Nat} {H : Heap} {ls : Array Slot} (hdg : decode code pc = .ok (.ireturn, 1)) : W p l e room_1 s m #[Value.ref b] below meth c H [] 600172 7300668 (lw_Z below #[Value.ref b] s) (F0 m pc ls [.int 1]) := by
  intro T hT X
  obtain ⟨fs, hret, hrun, hended, hW, hframe⟩ := X.leave (v := some (.int 1)) (hlocks := hlocks) (fun h => by rw [hr] at h; cases h)
  have hmeth' : T.vm.method? m = some meth := X.method'
  refine ⟨T.setFrames fs, ?_, .returned (some (.int 1)), hrun, hended, rfl, ⟨_, rfl⟩, hW, hframe⟩
  jvm_step X.here [X.here.top, hx, hb, hdg, hmeth', hr, ret, narrow_b1]
  (try refine ⟨rfl, ?_⟩); (try refine ⟨rfl, ?_⟩)
  first | (intro acts; rw [hret _ acts rfl rfl rfl]) | rw [hret _ _ rfl rfl rfl]
  exact Steps.refl _
/-- what holds at the law's entry: the machine, the code, the tables' words (any of lw_tbl by 'hts w (by decide +kernel)'), the script of L ints xs at the cell b, what the Statement gives of the start (any of its parts by flat_of_before) -/
def lw_At (p : Program) (s : State) (m : MethodId) (meth : Method) (c : Code) (b L : Nat) (xs : Nat → Int32) : Prop :=
  p.tables.exec = Jvm.exec ∧ c.code = code ∧ meth.sig.returnType = ret ∧ c.maxLocals = 14 ∧ s.vm.findClass R_law = some m.cls ∧ (∀ w ∈ lw_tbl, w.before #[Value.ref b] s = true) ∧ va_X b L xs s s.heap ∧ b < s.heap.size ∧ meth.locks = false ∧ (Jvm.Cond.and given_1 narrow_1).before #[Value.ref b] s = true
theorem tk_rm0 {cs ss : Nat} (h1 : cs ≤ 600000) (h2 : ss ≤ 600000) : cs + 0 ≤ room_1.cells ∧ ss + 0 ≤ room_1.slots := ⟨Nat.le_trans h1 (Nat.le_of_ble_eq_true rfl), Nat.le_trans h2 (Nat.le_of_ble_eq_true rfl)⟩
theorem tk_rm1 {cs ss : Nat} (h1 : cs ≤ 600000) (h2 : ss ≤ 600000) : cs + 1 ≤ room_1.cells ∧ ss + 6 ≤ room_1.slots := ⟨Nat.le_trans (Nat.succ_le_succ h1) (Nat.le_of_ble_eq_true rfl), Nat.le_trans (Nat.add_le_add_right h2 6) (Nat.le_of_ble_eq_true rfl)⟩
set_option maxRecDepth 20000 in
theorem tw_718 : Cond.constant RL 117 (65535) ∈ lw_tbl := List.mem_of_getElem? (i := 718) rfl
set_option maxRecDepth 20000 in
theorem tw_717 : Cond.constant RL 116 (268435455) ∈ lw_tbl := List.mem_of_getElem? (i := 717) rfl
set_option maxRecDepth 20000 in
theorem tw_716 : Cond.constant RL 115 (810013) ∈ lw_tbl := List.mem_of_getElem? (i := 716) rfl
set_option maxRecDepth 20000 in
theorem hs_L_areHands : yL_areHands.cls ≠ "java/lang/invoke/MethodHandle" ∧ yL_areHands.cls ≠ "java/lang/invoke/VarHandle" ∧ (parseMethodDescriptor yL_areHands.desc).map (fun d => d.parameters.length) = some 1 := by decide +kernel
set_option maxRecDepth 20000 in
theorem hs_L_areSides : yL_areSides.cls ≠ "java/lang/invoke/MethodHandle" ∧ yL_areSides.cls ≠ "java/lang/invoke/VarHandle" ∧ (parseMethodDescriptor yL_areSides.desc).map (fun d => d.parameters.length) = some 1 := by decide +kernel
set_option maxRecDepth 20000 in
theorem hs_L_isScored : yL_isScored.cls ≠ "java/lang/invoke/MethodHandle" ∧ yL_isScored.cls ≠ "java/lang/invoke/VarHandle" ∧ (parseMethodDescriptor yL_isScored.desc).map (fun d => d.parameters.length) = some 2 := by decide +kernel
set_option maxRecDepth 20000 in
theorem hv_X6_talonAt : yX6_talonAt.cls = RX6 ∧ yX6_talonAt.cls ≠ "java/lang/invoke/MethodHandle" ∧ yX6_talonAt.cls ≠ "java/lang/invoke/VarHandle" ∧ (parseMethodDescriptor yX6_talonAt.desc).map (fun d => d.parameters.length) = some 1 := by decide +kernel
set_option maxRecDepth 20000 in
theorem hv_X6_deal : yX6_deal.cls = RX6 ∧ yX6_deal.cls ≠ "java/lang/invoke/MethodHandle" ∧ yX6_deal.cls ≠ "java/lang/invoke/VarHandle" ∧ (parseMethodDescriptor yX6_deal.desc).map (fun d => d.parameters.length) = some 1 := by decide +kernel
set_option maxRecDepth 20000 in
theorem hs_L_bids : yL_bids.cls ≠ "java/lang/invoke/MethodHandle" ∧ yL_bids.cls ≠ "java/lang/invoke/VarHandle" ∧ (parseMethodDescriptor yL_bids.desc).map (fun d => d.parameters.length) = some 2 := by decide +kernel
set_option maxRecDepth 20000 in
theorem hv_X6_take : yX6_take.cls = RX6 ∧ yX6_take.cls ≠ "java/lang/invoke/MethodHandle" ∧ yX6_take.cls ≠ "java/lang/invoke/VarHandle" ∧ (parseMethodDescriptor yX6_take.desc).map (fun d => d.parameters.length) = some 1 := by decide +kernel
set_option maxRecDepth 20000 in
theorem hs_L_announces : yL_announces.cls ≠ "java/lang/invoke/MethodHandle" ∧ yL_announces.cls ≠ "java/lang/invoke/VarHandle" ∧ (parseMethodDescriptor yL_announces.desc).map (fun d => d.parameters.length) = some 2 := by decide +kernel
set_option maxRecDepth 20000 in
theorem hs_L_isPlayed : yL_isPlayed.cls ≠ "java/lang/invoke/MethodHandle" ∧ yL_isPlayed.cls ≠ "java/lang/invoke/VarHandle" ∧ (parseMethodDescriptor yL_isPlayed.desc).map (fun d => d.parameters.length) = some 2 := by decide +kernel
set_option maxRecDepth 20000 in
theorem hv_X6_playLowest : yX6_playLowest.cls = RX6 ∧ yX6_playLowest.cls ≠ "java/lang/invoke/MethodHandle" ∧ yX6_playLowest.cls ≠ "java/lang/invoke/VarHandle" ∧ (parseMethodDescriptor yX6_playLowest.desc).map (fun d => d.parameters.length) = some 1 := by decide +kernel
set_option maxRecDepth 20000 in
theorem hs_L_lays : yL_lays.cls ≠ "java/lang/invoke/MethodHandle" ∧ yL_lays.cls ≠ "java/lang/invoke/VarHandle" ∧ (parseMethodDescriptor yL_lays.desc).map (fun d => d.parameters.length) = some 2 := by decide +kernel
set_option maxRecDepth 20000 in
theorem hv_X6_call : yX6_call.cls = RX6 ∧ yX6_call.cls ≠ "java/lang/invoke/MethodHandle" ∧ yX6_call.cls ≠ "java/lang/invoke/VarHandle" ∧ (parseMethodDescriptor yX6_call.desc).map (fun d => d.parameters.length) = some 1 := by decide +kernel
def law_LS (p : Program) (l : Launch) (e : Env) (s : State) (m : MethodId) (below : List Frame) (meth : Method) (c : Code) (b L : Nat) (xs : Nat → Int32) (G : va_G) (c3 : ClassId × ClassId × ClassId) (q : Nat → Nat) (n : Nat) : Prop := ∀ (cs ss : Nat) (hc : cs + 2 * n ≤ 5000) (hs : ss + 12 * n ≤ 60000) (x3_71 : Int32) (x4_71 : Int32) (x5_71 : Int32) (x6_71 : Int32) (S : tk_ST) (H : Heap) (locs : List Loc) (hP : va_P G vwCl (tk_H c3 q S) H) (hD : va_D (fun x : Nat => s.heap.size ≤ x) (tk_H c3 q S)) (hS : va_S (fun x : Nat => s.heap.size ≤ x) s.heap H locs) (ls : Array Slot) (hl : lv_has ls 14 [(0, .ref b), (1, .ref (q 0)), (2, .ref (q 17)), (3, .int x3_71), (4, .int x4_71), (5, .int x5_71), (6, .int x6_71)]) (hf : f_law_71 L xs n x3_71 x4_71 x5_71 x6_71 S = some 1), W p l e room_1 s m #[Value.ref b] below meth c H locs cs ss (lw_Z below #[Value.ref b] s) (F0 m 71 ls [])
set_option maxHeartbeats 4000000 in
set_option maxRecDepth 100000 in
theorem law_1088 {p : Program} {e : Env} {s : State} {m : MethodId} {below : List Frame} {meth : Method} {c : Code} (l : Launch) (hlst : l.stackTraces = false) {b L : Nat} {xs : Nat → Int32} (C0 : lw_At p s m meth c b L xs) (G : va_G) (c3 : ClassId × ClassId × ClassId) (q : Nat → Nat) (hE : tk_E G c3 s) (hC : tk_C s) (hZ : tk_Z (fun x : Nat => s.heap.size ≤ x) s s.heap) (n : Nat) (ih : law_LS p l e s m below meth c b L xs G c3 q n) (cs ss : Nat) (hc : cs + 2 * n + 0 ≤ 5000) (hs : ss + 12 * n + 0 ≤ 60000) (x3_1088 : Int32) (x5_1088 : Int32) (x6_1088 : Int32) (k0_1088 : Int32) (S : tk_ST) (H : Heap) (locs : List Loc) (hP : va_P G vwCl (tk_H c3 q S) H) (hD : va_D (fun x : Nat => s.heap.size ≤ x) (tk_H c3 q S)) (hS : va_S (fun x : Nat => s.heap.size ≤ x) s.heap H locs) (ls : Array Slot) (hl : lv_has ls 14 [(0, .ref b), (1, .ref (q 0)), (2, .ref (q 17)), (3, .int x3_1088), (5, .int x5_1088), (6, .int x6_1088)]) (hf : f_law_1088 L xs (f_law_71 L xs n) x3_1088 x5_1088 x6_1088 k0_1088 S = some (1 : Int32)) : W p l e room_1 s m #[Value.ref b] below meth c H locs cs ss (lw_Z below #[Value.ref b] s) (F0 m 1088 ls [.int k0_1088]) := by
  obtain ⟨hx, hb, hr, hml, hown, hts0, hX, hbl, hlocks, hgv⟩ := id C0
  have hown : s.vm.findClass RL = some m.cls := hown
  have hts := fun w h => hts0 w (wsL_law_in w h)
  have hA : ∀ x : Nat, s.heap.size ≤ x → (fun x : Nat => s.heap.size ≤ x) x := fun _ h => h
  have hbA : ¬ (fun x : Nat => s.heap.size ≤ x) b := Nat.not_le.mpr hbl
  unfold f_law_1088 at hf
  refine lv_istore (lv' := [(4, .int k0_1088), (0, .ref b), (1, .ref (q 0)), (2, .ref (q 17)), (3, .int x3_1088), (5, .int x5_1088), (6, .int x6_1088)]) hx hb dL_law_1088 hl (by decide) rfl (fun ls hl => ?_)
  refine lv_iinc (v := (x6_1088 + (1 : Int32))) (lv' := [(6, .int (x6_1088 + (1 : Int32))), (4, .int k0_1088), (0, .ref b), (1, .ref (q 0)), (2, .ref (q 17)), (3, .int x3_1088), (5, .int x5_1088)]) hx hb dL_law_1090 hl (k := 6) rfl rfl (by decide) rfl (fun ls hl => ?_)
  refine lv_goto (tgt := 71) hx hb dL_law_1093 (by decide) ?_
  exact ih _ _ (by omega) (by omega) x3_1088 k0_1088 x5_1088 (x6_1088 + (1 : Int32)) S H locs hP hD hS ls (lv_sub hl [2, 3, 4, 5, 1, 6, 0] rfl) hf
set_option maxHeartbeats 4000000 in
set_option maxRecDepth 100000 in
theorem law_1083 {p : Program} {e : Env} {s : State} {m : MethodId} {below : List Frame} {meth : Method} {c : Code} (l : Launch) (hlst : l.stackTraces = false) {b L : Nat} {xs : Nat → Int32} (C0 : lw_At p s m meth c b L xs) (G : va_G) (c3 : ClassId × ClassId × ClassId) (q : Nat → Nat) (hE : tk_E G c3 s) (hC : tk_C s) (hZ : tk_Z (fun x : Nat => s.heap.size ≤ x) s s.heap) (n : Nat) (ih : law_LS p l e s m below meth c b L xs G c3 q n) (cs ss : Nat) (hc : cs + 2 * n + 0 ≤ 5000) (hs : ss + 12 * n + 0 ≤ 60000) (x3_1083 : Int32) (x5_1083 : Int32) (x6_1083 : Int32) (S : tk_ST) (H : Heap) (locs : List Loc) (hP : va_P G vwCl (tk_H c3 q S) H) (hD : va_D (fun x : Nat => s.heap.size ≤ x) (tk_H c3 q S)) (hS : va_S (fun x : Nat => s.heap.size ≤ x) s.heap H locs) (ls : Array Slot) (hl : lv_has ls 14 [(0, .ref b), (1, .ref (q 0)), (2, .ref (q 17)), (3, .int x3_1083), (5, .int x5_1083), (6, .int x6_1083)]) (hf : f_law_1083 L xs (f_law_71 L xs n) x3_1083 x5_1083 x6_1083 S = some (1 : Int32)) : W p l e room_1 s m #[Value.ref b] below meth c H locs cs ss (lw_Z below #[Value.ref b] s) (F0 m 1083 ls []) := by
  obtain ⟨hx, hb, hr, hml, hown, hts0, hX, hbl, hlocks, hgv⟩ := id C0
  have hown : s.vm.findClass RL = some m.cls := hown
  have hts := fun w h => hts0 w (wsL_law_in w h)
  have hA : ∀ x : Nat, s.heap.size ≤ x → (fun x : Nat => s.heap.size ≤ x) x := fun _ h => h
  have hbA : ¬ (fun x : Nat => s.heap.size ≤ x) b := Nat.not_le.mpr hbl
  unfold f_law_1083 at hf
  refine lv_iconst (v := 1) hx hb dL_law_1083 (by decide) ?_
  refine lv_goto (tgt := 1088) hx hb dL_law_1084 (by decide) ?_
  exact law_1088 l hlst C0 G c3 q hE hC hZ n ih _ _ (by omega) (by omega) x3_1083 x5_1083 x6_1083 (1 : Int32) S H locs hP hD hS ls (lv_sub hl [0, 1, 2, 3, 4, 5] rfl) hf
set_option maxHeartbeats 4000000 in
set_option maxRecDepth 100000 in
theorem law_1087 {p : Program} {e : Env} {s : State} {m : MethodId} {below : List Frame} {meth : Method} {c : Code} (l : Launch) (hlst : l.stackTraces = false) {b L : Nat} {xs : Nat → Int32} (C0 : lw_At p s m meth c b L xs) (G : va_G) (c3 : ClassId × ClassId × ClassId) (q : Nat → Nat) (hE : tk_E G c3 s) (hC : tk_C s) (hZ : tk_Z (fun x : Nat => s.heap.size ≤ x) s s.heap) (n : Nat) (ih : law_LS p l e s m below meth c b L xs G c3 q n) (cs ss : Nat) (hc : cs + 2 * n + 0 ≤ 5000) (hs : ss + 12 * n + 0 ≤ 60000) (x3_1087 : Int32) (x5_1087 : Int32) (x6_1087 : Int32) (S : tk_ST) (H : Heap) (locs : List Loc) (hP : va_P G vwCl (tk_H c3 q S) H) (hD : va_D (fun x : Nat => s.heap.size ≤ x) (tk_H c3 q S)) (hS : va_S (fun x : Nat => s.heap.size ≤ x) s.heap H locs) (ls : Array Slot) (hl : lv_has ls 14 [(0, .ref b), (1, .ref (q 0)), (2, .ref (q 17)), (3, .int x3_1087), (5, .int x5_1087), (6, .int x6_1087)]) (hf : f_law_1087 L xs (f_law_71 L xs n) x3_1087 x5_1087 x6_1087 S = some (1 : Int32)) : W p l e room_1 s m #[Value.ref b] below meth c H locs cs ss (lw_Z below #[Value.ref b] s) (F0 m 1087 ls []) := by
  obtain ⟨hx, hb, hr, hml, hown, hts0, hX, hbl, hlocks, hgv⟩ := id C0
  have hown : s.vm.findClass RL = some m.cls := hown
  have hts := fun w h => hts0 w (wsL_law_in w h)
  have hA : ∀ x : Nat, s.heap.size ≤ x → (fun x : Nat => s.heap.size ≤ x) x := fun _ h => h
  have hbA : ¬ (fun x : Nat => s.heap.size ≤ x) b := Nat.not_le.mpr hbl
  unfold f_law_1087 at hf
  refine lv_iconst (v := 0) hx hb dL_law_1087 (by decide) ?_
  exact law_1088 l hlst C0 G c3 q hE hC hZ n ih _ _ (by omega) (by omega) x3_1087 x5_1087 x6_1087 (0 : Int32) S H locs hP hD hS ls (lv_sub hl [0, 1, 2, 3, 4, 5] rfl) hf
set_option maxHeartbeats 4000000 in
set_option maxRecDepth 100000 in
theorem law_1043 {p : Program} {e : Env} {s : State} {m : MethodId} {below : List Frame} {meth : Method} {c : Code} (l : Launch) (hlst : l.stackTraces = false) {b L : Nat} {xs : Nat → Int32} (C0 : lw_At p s m meth c b L xs) (G : va_G) (c3 : ClassId × ClassId × ClassId) (q : Nat → Nat) (hE : tk_E G c3 s) (hC : tk_C s) (hZ : tk_Z (fun x : Nat => s.heap.size ≤ x) s s.heap) (n : Nat) (ih : law_LS p l e s m below meth c b L xs G c3 q n) (cs ss : Nat) (hc : cs + 2 * n + 0 ≤ 5000) (hs : ss + 12 * n + 0 ≤ 60000) (x3_1043 : Int32) (x4_1043 : Int32) (x5_1043 : Int32) (x6_1043 : Int32) (x9_1043 : Int32) (S : tk_ST) (H : Heap) (locs : List Loc) (hP : va_P G vwCl (tk_H c3 q S) H) (hD : va_D (fun x : Nat => s.heap.size ≤ x) (tk_H c3 q S)) (hS : va_S (fun x : Nat => s.heap.size ≤ x) s.heap H locs) (ls : Array Slot) (hl : lv_has ls 14 [(0, .ref b), (1, .ref (q 0)), (2, .ref (q 17)), (3, .int x3_1043), (4, .int x4_1043), (5, .int x5_1043), (6, .int x6_1043), (9, .int x9_1043)]) (hf : f_law_1043 L xs (f_law_71 L xs n) x3_1043 x4_1043 x5_1043 x6_1043 x9_1043 S = some (1 : Int32)) : W p l e room_1 s m #[Value.ref b] below meth c H locs cs ss (lw_Z below #[Value.ref b] s) (F0 m 1043 ls []) := by
  obtain ⟨hx, hb, hr, hml, hown, hts0, hX, hbl, hlocks, hgv⟩ := id C0
  have hown : s.vm.findClass RL = some m.cls := hown
  have hts := fun w h => hts0 w (wsL_law_in w h)
  have hA : ∀ x : Nat, s.heap.size ≤ x → (fun x : Nat => s.heap.size ≤ x) x := fun _ h => h
  have hbA : ¬ (fun x : Nat => s.heap.size ≤ x) b := Nat.not_le.mpr hbl
  unfold f_law_1043 at hf
  refine lv_iload hx hb dL_law_1043 (lv_at hl 4 rfl) ?_
  refine lv_if_eq (tgt := 1087) hx hb dL_law_1045 (by decide) (fun h1 => ?_) (fun h1 => ?_)
  · have hf := tk_pos hf h1
    exact law_1087 l hlst C0 G c3 q hE hC hZ n ih _ _ (by omega) (by omega) x3_1043 x5_1043 x6_1043 S H locs hP hD hS ls (lv_sub hl [0, 1, 2, 3, 5, 6] rfl) hf
  · have hf := tk_neg hf h1
    refine lv_aload_n hx hb dL_law_1048 rfl (lv_at hl 1 rfl) ?_
    obtain ⟨r2, h3, hf⟩ := tk_b1s hf
    refine tk_ci (ws' := (tk_H c3 q S)) (va_runS (As := [.ref (q 0)]) (rest := []) ⟨hx, hb, hml, hown, hts⟩ (c_L_areHands l G c3 q S r2 h3 H.size) (va_cwS 1 hts gL_law_L_areHands rfl rfl rfl hs_L_areHands ⟨Nat.le_of_ble_eq_true rfl, Nat.le_of_ble_eq_true rfl⟩) (tk_pS hE hP hD) rfl rfl hl.1 rfl (lv_room (Nat.le_of_ble_eq_true rfl)) dL_law_1049 (tk_rm0 (by omega) (by omega))) hD hS hA (fun H locs hP hD hS => ?_)
    refine lv_if_eq (tgt := 1087) hx hb dL_law_1052 (by decide) (fun h5 => ?_) (fun h5 => ?_)
    · have hf := tk_pos hf h5
      exact law_1087 l hlst C0 G c3 q hE hC hZ n ih _ _ (by omega) (by omega) x3_1043 x5_1043 x6_1043 S H locs hP hD hS ls (lv_sub hl [0, 1, 2, 3, 5, 6] rfl) hf
    · have hf := tk_neg hf h5
      refine lv_aload_n hx hb dL_law_1055 rfl (lv_at hl 1 rfl) ?_
      obtain ⟨r6, h7, hf⟩ := tk_b1s hf
      refine tk_ci (ws' := (tk_H c3 q S)) (va_runS (As := [.ref (q 0)]) (rest := []) ⟨hx, hb, hml, hown, hts⟩ (c_L_areSides l G c3 q S r6 h7 H.size) (va_cwS 1 hts gL_law_L_areSides rfl rfl rfl hs_L_areSides ⟨Nat.le_of_ble_eq_true rfl, Nat.le_of_ble_eq_true rfl⟩) (tk_pS hE hP hD) rfl rfl hl.1 rfl (lv_room (Nat.le_of_ble_eq_true rfl)) dL_law_1056 (tk_rm0 (by omega) (by omega))) hD hS hA (fun H locs hP hD hS => ?_)
      refine lv_if_eq (tgt := 1087) hx hb dL_law_1059 (by decide) (fun h9 => ?_) (fun h9 => ?_)
      · have hf := tk_pos hf h9
        exact law_1087 l hlst C0 G c3 q hE hC hZ n ih _ _ (by omega) (by omega) x3_1043 x5_1043 x6_1043 S H locs hP hD hS ls (lv_sub hl [0, 1, 2, 3, 5, 6] rfl) hf
      · have hf := tk_neg hf h9
        refine lv_iload hx hb dL_law_1062 (lv_at hl 7 rfl) ?_
        refine lv_iconst (v := 5) hx hb dL_law_1064 (by decide) ?_
        refine lv_icmp_ne (tgt := 1083) hx hb dL_law_1065 (by decide) (fun h10 => ?_) (fun h10 => ?_)
        · have hf := tk_neg hf h10
          exact law_1083 l hlst C0 G c3 q hE hC hZ n ih _ _ (by omega) (by omega) x3_1043 x5_1043 x6_1043 S H locs hP hD hS ls (lv_sub hl [0, 1, 2, 3, 5, 6] rfl) hf
        · have hf := tk_pos hf h10
          refine lv_aload_n hx hb dL_law_1068 rfl (lv_at hl 1 rfl) ?_
          obtain ⟨r11, h12, hf⟩ := tk_b1s hf
          refine tk_ci (ws' := (tk_H c3 q S)) (va_runV (As := []) (rest := []) ⟨hx, hb, hml, hown, hts⟩ (c_X6_phase l G c3 q S r11 h12 H.size) (cwV 0 hts gL_law_X6_phase rfl rfl rfl hv_X6_phase ⟨Nat.le_of_ble_eq_true rfl, Nat.le_of_ble_eq_true rfl⟩) (tk_pV hE hP hD 0 rfl rfl) rfl rfl hl.1 rfl (lv_room (Nat.le_of_ble_eq_true rfl)) dL_law_1069 (tk_rm0 (by omega) (by omega))) hD hS hA (fun H locs hP hD hS => ?_)
          refine lv_if_ne (tgt := 1083) hx hb dL_law_1072 (by decide) (fun h14 => ?_) (fun h14 => ?_)
          · have hf := tk_neg hf h14
            exact law_1083 l hlst C0 G c3 q hE hC hZ n ih _ _ (by omega) (by omega) x3_1043 x5_1043 x6_1043 S H locs hP hD hS ls (lv_sub hl [0, 1, 2, 3, 5, 6] rfl) hf
          · have hf := tk_pos hf h14
            refine lv_aload_n hx hb dL_law_1075 rfl (lv_at hl 1 rfl) ?_
            refine lv_aload_n hx hb dL_law_1076 rfl (lv_at hl 2 rfl) ?_
            obtain ⟨r15, h16, hf⟩ := tk_b1s hf
            refine tk_ci (ws' := (tk_H c3 q S)) (va_runS (As := [.ref (q 0), .ref (q 17)]) (rest := []) ⟨hx, hb, hml, hown, hts⟩ (c_L_isScored l G c3 q S r15 h16 H.size) (va_cwS 2 hts gL_law_L_isScored rfl rfl rfl hs_L_isScored ⟨Nat.le_of_ble_eq_true rfl, Nat.le_of_ble_eq_true rfl⟩) (tk_pS hE hP hD) rfl rfl hl.1 rfl (lv_room (Nat.le_of_ble_eq_true rfl)) dL_law_1077 (tk_rm0 (by omega) (by omega))) hD hS hA (fun H locs hP hD hS => ?_)
            refine lv_if_eq (tgt := 1087) hx hb dL_law_1080 (by decide) (fun h18 => ?_) (fun h18 => ?_)
            · have hf := tk_pos hf h18
              exact law_1087 l hlst C0 G c3 q hE hC hZ n ih _ _ (by omega) (by omega) x3_1043 x5_1043 x6_1043 S H locs hP hD hS ls (lv_sub hl [0, 1, 2, 3, 5, 6] rfl) hf
            · have hf := tk_neg hf h18
              exact law_1083 l hlst C0 G c3 q hE hC hZ n ih _ _ (by omega) (by omega) x3_1043 x5_1043 x6_1043 S H locs hP hD hS ls (lv_sub hl [0, 1, 2, 3, 5, 6] rfl) hf
set_option maxHeartbeats 4000000 in
set_option maxRecDepth 100000 in
theorem law_287 {p : Program} {e : Env} {s : State} {m : MethodId} {below : List Frame} {meth : Method} {c : Code} (l : Launch) (hlst : l.stackTraces = false) {b L : Nat} {xs : Nat → Int32} (C0 : lw_At p s m meth c b L xs) (G : va_G) (c3 : ClassId × ClassId × ClassId) (q : Nat → Nat) (hE : tk_E G c3 s) (hC : tk_C s) (hZ : tk_Z (fun x : Nat => s.heap.size ≤ x) s s.heap) (n : Nat) (ih : law_LS p l e s m below meth c b L xs G c3 q n) (cs ss : Nat) (hc : cs + 2 * n + 2 ≤ 5000) (hs : ss + 12 * n + 12 ≤ 60000) (x3_287 : Int32) (x5_287 : Int32) (x6_287 : Int32) (x9_287 : Int32) (k0_287 : Int32) (S : tk_ST) (H : Heap) (locs : List Loc) (hP : va_P G vwCl (tk_H c3 q S) H) (hD : va_D (fun x : Nat => s.heap.size ≤ x) (tk_H c3 q S)) (hS : va_S (fun x : Nat => s.heap.size ≤ x) s.heap H locs) (ls : Array Slot) (hl : lv_has ls 14 [(0, .ref b), (1, .ref (q 0)), (2, .ref (q 17)), (3, .int x3_287), (5, .int x5_287), (6, .int x6_287), (9, .int x9_287)]) (hf : f_law_287 L xs (f_law_71 L xs n) x3_287 x5_287 x6_287 x9_287 k0_287 S = some (1 : Int32)) : W p l e room_1 s m #[Value.ref b] below meth c H locs cs ss (lw_Z below #[Value.ref b] s) (F0 m 287 ls [.int k0_287]) := by
  obtain ⟨hx, hb, hr, hml, hown, hts0, hX, hbl, hlocks, hgv⟩ := id C0
  have hown : s.vm.findClass RL = some m.cls := hown
  have hts := fun w h => hts0 w (wsL_law_in w h)
  have hA : ∀ x : Nat, s.heap.size ≤ x → (fun x : Nat => s.heap.size ≤ x) x := fun _ h => h
  have hbA : ¬ (fun x : Nat => s.heap.size ≤ x) b := Nat.not_le.mpr hbl
  unfold f_law_287 at hf
  refine lv_istore (lv' := [(4, .int k0_287), (0, .ref b), (1, .ref (q 0)), (2, .ref (q 17)), (3, .int x3_287), (5, .int x5_287), (6, .int x6_287), (9, .int x9_287)]) hx hb dL_law_287 hl (by decide) rfl (fun ls hl => ?_)
  refine lv_iinc (v := (x3_287 + (1 : Int32))) (lv' := [(3, .int (x3_287 + (1 : Int32))), (4, .int k0_287), (0, .ref b), (1, .ref (q 0)), (2, .ref (q 17)), (5, .int x5_287), (6, .int x6_287), (9, .int x9_287)]) hx hb dL_law_289 hl (k := 4) rfl rfl (by decide) rfl (fun ls hl => ?_)
  refine lv_goto (tgt := 1043) hx hb dL_law_292 (by decide) ?_
  exact law_1043 l hlst C0 G c3 q hE hC hZ n ih _ _ (by omega) (by omega) (x3_287 + (1 : Int32)) k0_287 x5_287 x6_287 x9_287 S H locs hP hD hS ls (lv_sub hl [2, 3, 4, 0, 1, 5, 6, 7] rfl) hf
set_option maxHeartbeats 4000000 in
set_option maxRecDepth 100000 in
theorem law_286 {p : Program} {e : Env} {s : State} {m : MethodId} {below : List Frame} {meth : Method} {c : Code} (l : Launch) (hlst : l.stackTraces = false) {b L : Nat} {xs : Nat → Int32} (C0 : lw_At p s m meth c b L xs) (G : va_G) (c3 : ClassId × ClassId × ClassId) (q : Nat → Nat) (hE : tk_E G c3 s) (hC : tk_C s) (hZ : tk_Z (fun x : Nat => s.heap.size ≤ x) s s.heap) (n : Nat) (ih : law_LS p l e s m below meth c b L xs G c3 q n) (cs ss : Nat) (hc : cs + 2 * n + 2 ≤ 5000) (hs : ss + 12 * n + 12 ≤ 60000) (x3_286 : Int32) (x5_286 : Int32) (x6_286 : Int32) (x9_286 : Int32) (S : tk_ST) (H : Heap) (locs : List Loc) (hP : va_P G vwCl (tk_H c3 q S) H) (hD : va_D (fun x : Nat => s.heap.size ≤ x) (tk_H c3 q S)) (hS : va_S (fun x : Nat => s.heap.size ≤ x) s.heap H locs) (ls : Array Slot) (hl : lv_has ls 14 [(0, .ref b), (1, .ref (q 0)), (2, .ref (q 17)), (3, .int x3_286), (5, .int x5_286), (6, .int x6_286), (9, .int x9_286)]) (hf : f_law_286 L xs (f_law_71 L xs n) x3_286 x5_286 x6_286 x9_286 S = some (1 : Int32)) : W p l e room_1 s m #[Value.ref b] below meth c H locs cs ss (lw_Z below #[Value.ref b] s) (F0 m 286 ls []) := by
  obtain ⟨hx, hb, hr, hml, hown, hts0, hX, hbl, hlocks, hgv⟩ := id C0
  have hown : s.vm.findClass RL = some m.cls := hown
  have hts := fun w h => hts0 w (wsL_law_in w h)
  have hA : ∀ x : Nat, s.heap.size ≤ x → (fun x : Nat => s.heap.size ≤ x) x := fun _ h => h
  have hbA : ¬ (fun x : Nat => s.heap.size ≤ x) b := Nat.not_le.mpr hbl
  unfold f_law_286 at hf
  refine lv_iconst (v := 0) hx hb dL_law_286 (by decide) ?_
  exact law_287 l hlst C0 G c3 q hE hC hZ n ih _ _ (by omega) (by omega) x3_286 x5_286 x6_286 x9_286 (0 : Int32) S H locs hP hD hS ls (lv_sub hl [0, 1, 2, 3, 4, 5, 6] rfl) hf
set_option maxHeartbeats 4000000 in
set_option maxRecDepth 100000 in
theorem law_191 {p : Program} {e : Env} {s : State} {m : MethodId} {below : List Frame} {meth : Method} {c : Code} (l : Launch) (hlst : l.stackTraces = false) {b L : Nat} {xs : Nat → Int32} (C0 : lw_At p s m meth c b L xs) (G : va_G) (c3 : ClassId × ClassId × ClassId) (q : Nat → Nat) (hE : tk_E G c3 s) (hC : tk_C s) (hZ : tk_Z (fun x : Nat => s.heap.size ≤ x) s s.heap) (n : Nat) (ih : law_LS p l e s m below meth c b L xs G c3 q n) (cs ss : Nat) (hc : cs + 2 * n + 2 ≤ 5000) (hs : ss + 12 * n + 12 ≤ 60000) : ∀ (n_191 : Nat) (x3_191 : Int32) (x5_191 : Int32) (x6_191 : Int32) (x9_191 : Int32) (x10_191 : Int32) (x11_191 : Int64) (x13_191 : Int32) (S : tk_ST) (H : Heap) (locs : List Loc) (hP : va_P G vwCl (tk_H c3 q S) H) (hD : va_D (fun x : Nat => s.heap.size ≤ x) (tk_H c3 q S)) (hS : va_S (fun x : Nat => s.heap.size ≤ x) s.heap H locs) (ls : Array Slot) (hl : lv_has ls 14 [(0, .ref b), (1, .ref (q 0)), (2, .ref (q 17)), (3, .int x3_191), (5, .int x5_191), (6, .int x6_191), (9, .int x9_191), (10, .int x10_191), (11, .long x11_191), (13, .int x13_191)]) (hf : f_law_191 L xs (f_law_71 L xs n) n_191 x3_191 x5_191 x6_191 x9_191 x10_191 x11_191 x13_191 S = some (1 : Int32)), W p l e room_1 s m #[Value.ref b] below meth c H locs cs ss (lw_Z below #[Value.ref b] s) (F0 m 191 ls []) := by
  obtain ⟨hx, hb, hr, hml, hown, hts0, hX, hbl, hlocks, hgv⟩ := id C0
  have hown : s.vm.findClass RL = some m.cls := hown
  have hts := fun w h => hts0 w (wsL_law_in w h)
  have hA : ∀ x : Nat, s.heap.size ≤ x → (fun x : Nat => s.heap.size ≤ x) x := fun _ h => h
  have hbA : ¬ (fun x : Nat => s.heap.size ≤ x) b := Nat.not_le.mpr hbl
  intro n_191
  induction n_191 with
  | zero =>
    intro x3_191 x5_191 x6_191 x9_191 x10_191 x11_191 x13_191 S H locs hP hD hS ls hl hf
    exact absurd hf (by intro h9; cases h9)
  | succ n_191 ih_191 =>
    intro x3_191 x5_191 x6_191 x9_191 x10_191 x11_191 x13_191 S H locs hP hD hS ls hl hf
    rw [f_law_191_s] at hf
    refine lv_iload hx hb dL_law_191 (lv_at hl 9 rfl) ?_
    refine lv_bipush (v := 6) hx hb dL_law_193 (by decide) ?_
    refine lv_icmp_ge (tgt := 217) hx hb dL_law_195 (by decide) (fun h1 => ?_) (fun h1 => ?_)
    · have hf := tk_pos hf h1
      refine lv_iload hx hb dL_law_217 (lv_at hl 7 rfl) ?_
      refine lv_iload_n hx hb dL_law_219 rfl (lv_at hl 3 rfl) ?_
      refine lv_iconst (v := 4) hx hb dL_law_220 (by decide) ?_
      refine tk_irem hx hb dL_law_221 (by decide) ?_
      refine lv_icmp_ne (tgt := 286) hx hb dL_law_222 (by decide) (fun h2 => ?_) (fun h2 => ?_)
      · have hf := tk_neg hf h2
        exact law_286 l hlst C0 G c3 q hE hC hZ n ih _ _ (by omega) (by omega) x3_191 x5_191 x6_191 x9_191 S H locs hP hD hS ls (lv_sub hl [0, 1, 2, 3, 4, 5, 6] rfl) hf
      · have hf := tk_pos hf h2
        refine lv_aload_n hx hb dL_law_225 rfl (lv_at hl 1 rfl) ?_
        obtain ⟨r3, h4, hf⟩ := tk_b1s hf
        refine tk_ci (ws' := (tk_H c3 q S)) (va_runV (As := []) (rest := []) ⟨hx, hb, hml, hown, hts⟩ (c_X6_turn l G c3 q S r3 h4 H.size) (cwV 0 hts gL_law_X6_turn rfl rfl rfl hv_X6_turn ⟨Nat.le_of_ble_eq_true rfl, Nat.le_of_ble_eq_true rfl⟩) (tk_pV hE hP hD 0 rfl rfl) rfl rfl hl.1 rfl (lv_room (Nat.le_of_ble_eq_true rfl)) dL_law_226 (tk_rm0 (by omega) (by omega))) hD hS hA (fun H locs hP hD hS => ?_)
        refine lv_iload hx hb dL_law_229 (lv_at hl 7 rfl) ?_
        refine lv_icmp_ne (tgt := 286) hx hb dL_law_231 (by decide) (fun h6 => ?_) (fun h6 => ?_)
        · have hf := tk_neg hf h6
          exact law_286 l hlst C0 G c3 q hE hC hZ n ih _ _ (by omega) (by omega) x3_191 x5_191 x6_191 x9_191 S H locs hP hD hS ls (lv_sub hl [0, 1, 2, 3, 4, 5, 6] rfl) hf
        · have hf := tk_pos hf h6
          refine lv_lload hx hb dL_law_234 (lv_at hl 8 rfl) ?_
          refine lv_aload_n hx hb dL_law_236 rfl (lv_at hl 1 rfl) ?_
          refine lv_iconst (v := 0) hx hb dL_law_237 (by decide) ?_
          obtain ⟨r7, h8, hf⟩ := tk_b1s hf
          refine tk_cl (ws' := (tk_H c3 q S)) (va_runV (As := [.int (0 : Int32)]) (rest := [.long x11_191]) ⟨hx, hb, hml, hown, hts⟩ (c0_X6_hand l G c3 q S (0 : Int32) r7 h8 H.size) (cwV 1 hts gL_law_X6_hand rfl rfl rfl hv_X6_hand ⟨Nat.le_of_ble_eq_true rfl, Nat.le_of_ble_eq_true rfl⟩) (tk_pV hE hP hD 0 rfl rfl) rfl rfl hl.1 rfl (lv_room (Nat.le_of_ble_eq_true rfl)) dL_law_238 (tk_rm0 (by omega) (by omega))) hD hS hA (fun H locs hP hD hS => ?_)
          refine lv_lor hx hb dL_law_241 ?_
          refine lv_aload_n hx hb dL_law_242 rfl (lv_at hl 1 rfl) ?_
          refine lv_iconst (v := 1) hx hb dL_law_243 (by decide) ?_
          obtain ⟨r10, h11, hf⟩ := tk_b1s hf
          refine tk_cl (ws' := (tk_H c3 q S)) (va_runV (As := [.int (1 : Int32)]) (rest := [.long (x11_191 ||| r7)]) ⟨hx, hb, hml, hown, hts⟩ (c0_X6_hand l G c3 q S (1 : Int32) r10 h11 H.size) (cwV 1 hts gL_law_X6_hand rfl rfl rfl hv_X6_hand ⟨Nat.le_of_ble_eq_true rfl, Nat.le_of_ble_eq_true rfl⟩) (tk_pV hE hP hD 0 rfl rfl) rfl rfl hl.1 rfl (lv_room (Nat.le_of_ble_eq_true rfl)) dL_law_244 (tk_rm0 (by omega) (by omega))) hD hS hA (fun H locs hP hD hS => ?_)
          refine lv_lor hx hb dL_law_247 ?_
          refine lv_aload_n hx hb dL_law_248 rfl (lv_at hl 1 rfl) ?_
          refine lv_iconst (v := 2) hx hb dL_law_249 (by decide) ?_
          obtain ⟨r13, h14, hf⟩ := tk_b1s hf
          refine tk_cl (ws' := (tk_H c3 q S)) (va_runV (As := [.int (2 : Int32)]) (rest := [.long ((x11_191 ||| r7) ||| r10)]) ⟨hx, hb, hml, hown, hts⟩ (c0_X6_hand l G c3 q S (2 : Int32) r13 h14 H.size) (cwV 1 hts gL_law_X6_hand rfl rfl rfl hv_X6_hand ⟨Nat.le_of_ble_eq_true rfl, Nat.le_of_ble_eq_true rfl⟩) (tk_pV hE hP hD 0 rfl rfl) rfl rfl hl.1 rfl (lv_room (Nat.le_of_ble_eq_true rfl)) dL_law_250 (tk_rm0 (by omega) (by omega))) hD hS hA (fun H locs hP hD hS => ?_)
          refine lv_lor hx hb dL_law_253 ?_
          refine lv_aload_n hx hb dL_law_254 rfl (lv_at hl 1 rfl) ?_
          refine lv_iconst (v := 3) hx hb dL_law_255 (by decide) ?_
          obtain ⟨r16, h17, hf⟩ := tk_b1s hf
          refine tk_cl (ws' := (tk_H c3 q S)) (va_runV (As := [.int (3 : Int32)]) (rest := [.long (((x11_191 ||| r7) ||| r10) ||| r13)]) ⟨hx, hb, hml, hown, hts⟩ (c0_X6_hand l G c3 q S (3 : Int32) r16 h17 H.size) (cwV 1 hts gL_law_X6_hand rfl rfl rfl hv_X6_hand ⟨Nat.le_of_ble_eq_true rfl, Nat.le_of_ble_eq_true rfl⟩) (tk_pV hE hP hD 0 rfl rfl) rfl rfl hl.1 rfl (lv_room (Nat.le_of_ble_eq_true rfl)) dL_law_256 (tk_rm0 (by omega) (by omega))) hD hS hA (fun H locs hP hD hS => ?_)
          refine lv_lor hx hb dL_law_259 ?_
          obtain ⟨r19, h20, hf⟩ := tk_b1s hf
          refine tk_ci (ws' := (tk_H c3 q S)) (va_runS (As := [.long ((((x11_191 ||| r7) ||| r10) ||| r13) ||| r16)]) (rest := []) ⟨hx, hb, hml, hown, hts⟩ (c_L_bits l G c3 (tk_H c3 q S) ((((x11_191 ||| r7) ||| r10) ||| r13) ||| r16) r19 h20 H.size) (va_cwS 1 hts gL_law_L_bits rfl rfl rfl hs_L_bits ⟨Nat.le_of_ble_eq_true rfl, Nat.le_of_ble_eq_true rfl⟩) (tk_pS hE hP hD) rfl rfl hl.1 rfl (lv_room (Nat.le_of_ble_eq_true rfl)) dL_law_260 (tk_rm0 (by omega) (by omega))) hD hS hA (fun H locs hP hD hS => ?_)
          refine lv_bipush (v := 54) hx hb dL_law_263 (by decide) ?_
          refine lv_icmp_ne (tgt := 286) hx hb dL_law_265 (by decide) (fun h22 => ?_) (fun h22 => ?_)
          · have hf := tk_neg hf h22
            exact law_286 l hlst C0 G c3 q hE hC hZ n ih _ _ (by omega) (by omega) x3_191 x5_191 x6_191 x9_191 S H locs hP hD hS ls (lv_sub hl [0, 1, 2, 3, 4, 5, 6] rfl) hf
          · have hf := tk_pos hf h22
            refine lv_aload_n hx hb dL_law_268 rfl (lv_at hl 1 rfl) ?_
            obtain ⟨r23, h24, hf⟩ := tk_b1s hf
            refine tk_ci (ws' := (tk_H c3 q S)) (va_runV (As := []) (rest := []) ⟨hx, hb, hml, hown, hts⟩ (c_X6_level l G c3 q S r23 h24 H.size) (cwV 0 hts gL_law_X6_level rfl rfl rfl hv_X6_level ⟨Nat.le_of_ble_eq_true rfl, Nat.le_of_ble_eq_true rfl⟩) (tk_pV hE hP hD 0 rfl rfl) rfl rfl hl.1 rfl (lv_room (Nat.le_of_ble_eq_true rfl)) dL_law_269 (tk_rm0 (by omega) (by omega))) hD hS hA (fun H locs hP hD hS => ?_)
            refine lv_if_ne (tgt := 286) hx hb dL_law_272 (by decide) (fun h26 => ?_) (fun h26 => ?_)
            · have hf := tk_neg hf h26
              exact law_286 l hlst C0 G c3 q hE hC hZ n ih _ _ (by omega) (by omega) x3_191 x5_191 x6_191 x9_191 S H locs hP hD hS ls (lv_sub hl [0, 1, 2, 3, 4, 5, 6] rfl) hf
            · have hf := tk_pos hf h26
              refine lv_aload_n hx hb dL_law_275 rfl (lv_at hl 1 rfl) ?_
              obtain ⟨r27, h28, hf⟩ := tk_b1s hf
              refine tk_ci (ws' := (tk_H c3 q S)) (va_runV (As := []) (rest := []) ⟨hx, hb, hml, hown, hts⟩ (c_X6_tricks l G c3 q S r27 h28 H.size) (cwV 0 hts gL_law_X6_tricks rfl rfl rfl hv_X6_tricks ⟨Nat.le_of_ble_eq_true rfl, Nat.le_of_ble_eq_true rfl⟩) (tk_pV hE hP hD 0 rfl rfl) rfl rfl hl.1 rfl (lv_room (Nat.le_of_ble_eq_true rfl)) dL_law_276 (tk_rm0 (by omega) (by omega))) hD hS hA (fun H locs hP hD hS => ?_)
              refine lv_if_ne (tgt := 286) hx hb dL_law_279 (by decide) (fun h30 => ?_) (fun h30 => ?_)
              · have hf := tk_neg hf h30
                exact law_286 l hlst C0 G c3 q hE hC hZ n ih _ _ (by omega) (by omega) x3_191 x5_191 x6_191 x9_191 S H locs hP hD hS ls (lv_sub hl [0, 1, 2, 3, 4, 5, 6] rfl) hf
              · have hf := tk_pos hf h30
                refine lv_iconst (v := 1) hx hb dL_law_282 (by decide) ?_
                refine lv_goto (tgt := 287) hx hb dL_law_283 (by decide) ?_
                exact law_287 l hlst C0 G c3 q hE hC hZ n ih _ _ (by omega) (by omega) x3_191 x5_191 x6_191 x9_191 (1 : Int32) S H locs hP hD hS ls (lv_sub hl [0, 1, 2, 3, 4, 5, 6] rfl) hf
    · have hf := tk_neg hf h1
      refine lv_lload hx hb dL_law_198 (lv_at hl 8 rfl) ?_
      refine lv_lconst (v := 1) hx hb dL_law_200 (by decide) ?_
      refine lv_aload_n hx hb dL_law_201 rfl (lv_at hl 1 rfl) ?_
      refine lv_iload hx hb dL_law_202 (lv_at hl 9 rfl) ?_
      obtain ⟨r31, h32, hf⟩ := tk_b1s hf
      refine tk_ci (ws' := (tk_H c3 q S)) (va_runV (As := [.int x13_191]) (rest := [.long (1 : Int64), .long x11_191]) ⟨hx, hb, hml, hown, hts⟩ (c0_X6_talonAt l G c3 q S x13_191 r31 h32 H.size) (cwV 1 hts gL_law_X6_talonAt rfl rfl rfl hv_X6_talonAt ⟨Nat.le_of_ble_eq_true rfl, Nat.le_of_ble_eq_true rfl⟩) (tk_pV hE hP hD 0 rfl rfl) rfl rfl hl.1 rfl (lv_room (Nat.le_of_ble_eq_true rfl)) dL_law_204 (tk_rm0 (by omega) (by omega))) hD hS hA (fun H locs hP hD hS => ?_)
      refine lv_lshl (v := (1 : Int64) <<< (r31.toInt64 &&& 63)) hx hb dL_law_207 rfl ?_
      refine lv_lor hx hb dL_law_208 ?_
      refine lv_lstore (lv' := [(11, .long (x11_191 ||| ((1 : Int64) <<< (r31.toInt64 &&& 63)))), (0, .ref b), (1, .ref (q 0)), (2, .ref (q 17)), (3, .int x3_191), (5, .int x5_191), (6, .int x6_191), (9, .int x9_191), (10, .int x10_191), (13, .int x13_191)]) hx hb dL_law_209 hl (by decide) rfl (fun ls hl => ?_)
      refine lv_iinc (v := (x13_191 + (1 : Int32))) (lv' := [(13, .int (x13_191 + (1 : Int32))), (11, .long (x11_191 ||| ((1 : Int64) <<< (r31.toInt64 &&& 63)))), (0, .ref b), (1, .ref (q 0)), (2, .ref (q 17)), (3, .int x3_191), (5, .int x5_191), (6, .int x6_191), (9, .int x9_191), (10, .int x10_191)]) hx hb dL_law_211 hl (k := 9) rfl rfl (by decide) rfl (fun ls hl => ?_)
      refine lv_goto (tgt := 191) hx hb dL_law_214 (by decide) ?_
      exact ih_191 x3_191 x5_191 x6_191 x9_191 x10_191 (x11_191 ||| ((1 : Int64) <<< (r31.toInt64 &&& 63))) (x13_191 + (1 : Int32)) S H locs hP hD hS ls (lv_sub hl [2, 3, 4, 5, 6, 7, 8, 9, 1, 0] rfl) hf
set_option maxHeartbeats 4000000 in
set_option maxRecDepth 100000 in
theorem law_140 {p : Program} {e : Env} {s : State} {m : MethodId} {below : List Frame} {meth : Method} {c : Code} (l : Launch) (hlst : l.stackTraces = false) {b L : Nat} {xs : Nat → Int32} (C0 : lw_At p s m meth c b L xs) (G : va_G) (c3 : ClassId × ClassId × ClassId) (q : Nat → Nat) (hE : tk_E G c3 s) (hC : tk_C s) (hZ : tk_Z (fun x : Nat => s.heap.size ≤ x) s s.heap) (n : Nat) (ih : law_LS p l e s m below meth c b L xs G c3 q n) (cs ss : Nat) (hc : cs + 2 * n + 2 ≤ 5000) (hs : ss + 12 * n + 12 ≤ 60000) : ∀ (n_140 : Nat) (x3_140 : Int32) (x5_140 : Int32) (x6_140 : Int32) (x8_140 : Int32) (x9_140 : Int32) (x10_140 : Int32) (S : tk_ST) (H : Heap) (locs : List Loc) (hP : va_P G vwCl (tk_H c3 q S) H) (hD : va_D (fun x : Nat => s.heap.size ≤ x) (tk_H c3 q S)) (hS : va_S (fun x : Nat => s.heap.size ≤ x) s.heap H locs) (ls : Array Slot) (hl : lv_has ls 14 [(0, .ref b), (1, .ref (q 0)), (2, .ref (q 17)), (3, .int x3_140), (5, .int x5_140), (6, .int x6_140), (8, .int x8_140), (9, .int x9_140), (10, .int x10_140)]) (hf : f_law_140 L xs (f_law_71 L xs n) n_140 x3_140 x5_140 x6_140 x8_140 x9_140 x10_140 S = some (1 : Int32)), W p l e room_1 s m #[Value.ref b] below meth c H locs cs ss (lw_Z below #[Value.ref b] s) (F0 m 140 ls []) := by
  obtain ⟨hx, hb, hr, hml, hown, hts0, hX, hbl, hlocks, hgv⟩ := id C0
  have hown : s.vm.findClass RL = some m.cls := hown
  have hts := fun w h => hts0 w (wsL_law_in w h)
  have hA : ∀ x : Nat, s.heap.size ≤ x → (fun x : Nat => s.heap.size ≤ x) x := fun _ h => h
  have hbA : ¬ (fun x : Nat => s.heap.size ≤ x) b := Nat.not_le.mpr hbl
  intro n_140
  induction n_140 with
  | zero =>
    intro x3_140 x5_140 x6_140 x8_140 x9_140 x10_140 S H locs hP hD hS ls hl hf
    exact absurd hf (by intro h9; cases h9)
  | succ n_140 ih_140 =>
    intro x3_140 x5_140 x6_140 x8_140 x9_140 x10_140 S H locs hP hD hS ls hl hf
    rw [f_law_140_s] at hf
    refine lv_iload hx hb dL_law_140 (lv_at hl 8 rfl) ?_
    refine lv_iconst (v := 4) hx hb dL_law_142 (by decide) ?_
    refine lv_icmp_ge (tgt := 174) hx hb dL_law_143 (by decide) (fun h1 => ?_) (fun h1 => ?_)
    · have hf := tk_pos hf h1
      refine lv_aload_n hx hb dL_law_174 rfl (lv_at hl 1 rfl) ?_
      refine lv_iload hx hb dL_law_175 (lv_at hl 6 rfl) ?_
      refine lv_ldc (v := 65535) hx hb hown (hts0 _ tw_718) dL_law_177 ?_
      refine lv_iand hx hb dL_law_179 ?_
      obtain ⟨r2, S4, h3, hf⟩ := tk_b2s hf
      refine tk_ci (ws' := (tk_H c3 q S4)) (va_runV (As := [.int (x8_140 &&& (65535 : Int32))]) (rest := []) ⟨hx, hb, hml, hown, hts⟩ (c0_X6_deal l G c3 q S (x8_140 &&& (65535 : Int32)) r2 S4 h3 H.size) (cwV 1 hts gL_law_X6_deal rfl rfl rfl hv_X6_deal ⟨Nat.le_of_ble_eq_true rfl, Nat.le_of_ble_eq_true rfl⟩) (tk_pV hE hP hD 0 rfl rfl) rfl rfl hl.1 rfl (lv_room (Nat.le_of_ble_eq_true rfl)) dL_law_180 (tk_rm0 (by omega) (by omega))) hD hS hA (fun H locs hP hD hS => ?_)
      refine lv_istore (lv' := [(10, .int r2), (0, .ref b), (1, .ref (q 0)), (2, .ref (q 17)), (3, .int x3_140), (5, .int x5_140), (6, .int x6_140), (8, .int x8_140), (9, .int x9_140)]) hx hb dL_law_183 hl (by decide) rfl (fun ls hl => ?_)
      refine lv_lconst (v := 0) hx hb dL_law_185 (by decide) ?_
      refine lv_lstore (lv' := [(11, .long (0 : Int64)), (10, .int r2), (0, .ref b), (1, .ref (q 0)), (2, .ref (q 17)), (3, .int x3_140), (5, .int x5_140), (6, .int x6_140), (8, .int x8_140), (9, .int x9_140)]) hx hb dL_law_186 hl (by decide) rfl (fun ls hl => ?_)
      refine lv_iconst (v := 0) hx hb dL_law_188 (by decide) ?_
      refine lv_istore (lv' := [(13, .int (0 : Int32)), (11, .long (0 : Int64)), (10, .int r2), (0, .ref b), (1, .ref (q 0)), (2, .ref (q 17)), (3, .int x3_140), (5, .int x5_140), (6, .int x6_140), (8, .int x8_140), (9, .int x9_140)]) hx hb dL_law_189 hl (by decide) rfl (fun ls hl => ?_)
      exact law_191 l hlst C0 G c3 q hE hC hZ n ih _ _ (by omega) (by omega) 64 x3_140 x5_140 x6_140 x9_140 r2 (0 : Int64) (0 : Int32) S4 H locs hP hD hS ls (lv_sub hl [3, 4, 5, 6, 7, 8, 10, 2, 1, 0] rfl) hf
    · have hf := tk_neg hf h1
      refine lv_aload_n hx hb dL_law_146 rfl (lv_at hl 2 rfl) ?_
      refine lv_iload hx hb dL_law_147 (lv_at hl 8 rfl) ?_
      refine lv_aload_n hx hb dL_law_149 rfl (lv_at hl 1 rfl) ?_
      refine lv_iload hx hb dL_law_150 (lv_at hl 8 rfl) ?_
      obtain ⟨r5, h6, hf⟩ := tk_b1s hf
      refine tk_ci (ws' := (tk_H c3 q S)) (va_runV (As := [.int x10_140]) (rest := [.int x10_140, .ref (q 17)]) ⟨hx, hb, hml, hown, hts⟩ (c0_X6_score l G c3 q S x10_140 r5 h6 H.size) (cwV 1 hts gL_law_X6_score rfl rfl rfl hv_X6_score ⟨Nat.le_of_ble_eq_true rfl, Nat.le_of_ble_eq_true rfl⟩) (tk_pV hE hP hD 0 rfl rfl) rfl rfl hl.1 rfl (lv_room (Nat.le_of_ble_eq_true rfl)) dL_law_152 (tk_rm0 (by omega) (by omega))) hD hS hA (fun H locs hP hD hS => ?_)
      obtain ⟨h8, hf⟩ := tk_ok hf
      refine va_iast (f := (S.2.2.1 4)) hx hb hE.1 hP hD hS 17 0 rfl rfl h8 dL_law_155 (fun H locs hP hD hS => ?_)
      have hP : va_P G vwCl (tk_H c3 q (tk_A S 4 (upd (S.2.2.1 4) x10_140.toNatClampNeg r5))) H := hP
      have hD : va_D (fun x : Nat => s.heap.size ≤ x) (tk_H c3 q (tk_A S 4 (upd (S.2.2.1 4) x10_140.toNatClampNeg r5))) := hD
      obtain ⟨S9, eS9⟩ : ∃ z : tk_ST, z = (tk_A S 4 (upd (S.2.2.1 4) x10_140.toNatClampNeg r5)) := ⟨_, rfl⟩
      rw [← eS9] at hP hD
      have hf := tk_nm hf eS9
      refine lv_aload_n hx hb dL_law_156 rfl (lv_at hl 2 rfl) ?_
      refine lv_iconst (v := 4) hx hb dL_law_157 (by decide) ?_
      refine lv_iload hx hb dL_law_158 (lv_at hl 8 rfl) ?_
      refine lv_iadd hx hb dL_law_160 ?_
      refine lv_aload_n hx hb dL_law_161 rfl (lv_at hl 1 rfl) ?_
      refine lv_iload hx hb dL_law_162 (lv_at hl 8 rfl) ?_
      obtain ⟨r10, h11, hf⟩ := tk_b1s hf
      refine tk_ci (ws' := (tk_H c3 q S9)) (va_runV (As := [.int x10_140]) (rest := [.int ((4 : Int32) + x10_140), .ref (q 17)]) ⟨hx, hb, hml, hown, hts⟩ (c0_X6_radli l G c3 q S9 x10_140 r10 h11 H.size) (cwV 1 hts gL_law_X6_radli rfl rfl rfl hv_X6_radli ⟨Nat.le_of_ble_eq_true rfl, Nat.le_of_ble_eq_true rfl⟩) (tk_pV hE hP hD 0 rfl rfl) rfl rfl hl.1 rfl (lv_room (Nat.le_of_ble_eq_true rfl)) dL_law_164 (tk_rm0 (by omega) (by omega))) hD hS hA (fun H locs hP hD hS => ?_)
      obtain ⟨h13, hf⟩ := tk_ok hf
      refine va_iast (f := (S9.2.2.1 4)) hx hb hE.1 hP hD hS 17 0 rfl rfl h13 dL_law_167 (fun H locs hP hD hS => ?_)
      have hP : va_P G vwCl (tk_H c3 q (tk_A S9 4 (upd (S9.2.2.1 4) ((4 : Int32) + x10_140).toNatClampNeg r10))) H := hP
      have hD : va_D (fun x : Nat => s.heap.size ≤ x) (tk_H c3 q (tk_A S9 4 (upd (S9.2.2.1 4) ((4 : Int32) + x10_140).toNatClampNeg r10))) := hD
      obtain ⟨S14, eS14⟩ : ∃ z : tk_ST, z = (tk_A S9 4 (upd (S9.2.2.1 4) ((4 : Int32) + x10_140).toNatClampNeg r10)) := ⟨_, rfl⟩
      rw [← eS14] at hP hD
      have hf := tk_nm hf eS14
      refine lv_iinc (v := (x10_140 + (1 : Int32))) (lv' := [(10, .int (x10_140 + (1 : Int32))), (0, .ref b), (1, .ref (q 0)), (2, .ref (q 17)), (3, .int x3_140), (5, .int x5_140), (6, .int x6_140), (8, .int x8_140), (9, .int x9_140)]) hx hb dL_law_168 hl (k := 8) rfl rfl (by decide) rfl (fun ls hl => ?_)
      refine lv_goto (tgt := 140) hx hb dL_law_171 (by decide) ?_
      exact ih_140 x3_140 x5_140 x6_140 x8_140 x9_140 (x10_140 + (1 : Int32)) S14 H locs hP hD hS ls (lv_sub hl [1, 2, 3, 4, 5, 6, 7, 8, 0] rfl) hf
set_option maxHeartbeats 4000000 in
set_option maxRecDepth 100000 in
theorem law_488 {p : Program} {e : Env} {s : State} {m : MethodId} {below : List Frame} {meth : Method} {c : Code} (l : Launch) (hlst : l.stackTraces = false) {b L : Nat} {xs : Nat → Int32} (C0 : lw_At p s m meth c b L xs) (G : va_G) (c3 : ClassId × ClassId × ClassId) (q : Nat → Nat) (hE : tk_E G c3 s) (hC : tk_C s) (hZ : tk_Z (fun x : Nat => s.heap.size ≤ x) s s.heap) (n : Nat) (ih : law_LS p l e s m below meth c b L xs G c3 q n) (cs ss : Nat) (hc : cs + 2 * n + 1 ≤ 5000) (hs : ss + 12 * n + 6 ≤ 60000) (x3_488 : Int32) (x5_488 : Int32) (x6_488 : Int32) (x9_488 : Int32) (k0_488 : Int32) (S : tk_ST) (H : Heap) (locs : List Loc) (hP : va_P G vwCl (tk_H c3 q S) H) (hD : va_D (fun x : Nat => s.heap.size ≤ x) (tk_H c3 q S)) (hS : va_S (fun x : Nat => s.heap.size ≤ x) s.heap H locs) (ls : Array Slot) (hl : lv_has ls 14 [(0, .ref b), (1, .ref (q 0)), (2, .ref (q 17)), (3, .int x3_488), (5, .int x5_488), (6, .int x6_488), (9, .int x9_488)]) (hf : f_law_488 L xs (f_law_71 L xs n) x3_488 x5_488 x6_488 x9_488 k0_488 S = some (1 : Int32)) : W p l e room_1 s m #[Value.ref b] below meth c H locs cs ss (lw_Z below #[Value.ref b] s) (F0 m 488 ls [.int k0_488]) := by
  obtain ⟨hx, hb, hr, hml, hown, hts0, hX, hbl, hlocks, hgv⟩ := id C0
  have hown : s.vm.findClass RL = some m.cls := hown
  have hts := fun w h => hts0 w (wsL_law_in w h)
  have hA : ∀ x : Nat, s.heap.size ≤ x → (fun x : Nat => s.heap.size ≤ x) x := fun _ h => h
  have hbA : ¬ (fun x : Nat => s.heap.size ≤ x) b := Nat.not_le.mpr hbl
  unfold f_law_488 at hf
  refine lv_istore (lv' := [(4, .int k0_488), (0, .ref b), (1, .ref (q 0)), (2, .ref (q 17)), (3, .int x3_488), (5, .int x5_488), (6, .int x6_488), (9, .int x9_488)]) hx hb dL_law_488 hl (by decide) rfl (fun ls hl => ?_)
  refine lv_goto (tgt := 1043) hx hb dL_law_490 (by decide) ?_
  exact law_1043 l hlst C0 G c3 q hE hC hZ n ih _ _ (by omega) (by omega) x3_488 k0_488 x5_488 x6_488 x9_488 S H locs hP hD hS ls (lv_sub hl [1, 2, 3, 4, 0, 5, 6, 7] rfl) hf
set_option maxHeartbeats 4000000 in
set_option maxRecDepth 100000 in
theorem law_374 {p : Program} {e : Env} {s : State} {m : MethodId} {below : List Frame} {meth : Method} {c : Code} (l : Launch) (hlst : l.stackTraces = false) {b L : Nat} {xs : Nat → Int32} (C0 : lw_At p s m meth c b L xs) (G : va_G) (c3 : ClassId × ClassId × ClassId) (q : Nat → Nat) (hE : tk_E G c3 s) (hC : tk_C s) (hZ : tk_Z (fun x : Nat => s.heap.size ≤ x) s s.heap) (n : Nat) (ih : law_LS p l e s m below meth c b L xs G c3 q n) (cs ss : Nat) (hc : cs + 2 * n + 1 ≤ 5000) (hs : ss + 12 * n + 6 ≤ 60000) (x3_374 : Int32) (x5_374 : Int32) (x6_374 : Int32) (x9_374 : Int32) (S : tk_ST) (H : Heap) (locs : List Loc) (hP : va_P G vwCl (tk_H c3 q S) H) (hD : va_D (fun x : Nat => s.heap.size ≤ x) (tk_H c3 q S)) (hS : va_S (fun x : Nat => s.heap.size ≤ x) s.heap H locs) (ls : Array Slot) (hl : lv_has ls 14 [(0, .ref b), (1, .ref (q 0)), (2, .ref (q 17)), (3, .int x3_374), (5, .int x5_374), (6, .int x6_374), (9, .int x9_374)]) (hf : f_law_374 L xs (f_law_71 L xs n) x3_374 x5_374 x6_374 x9_374 S = some (1 : Int32)) : W p l e room_1 s m #[Value.ref b] below meth c H locs cs ss (lw_Z below #[Value.ref b] s) (F0 m 374 ls []) := by
  obtain ⟨hx, hb, hr, hml, hown, hts0, hX, hbl, hlocks, hgv⟩ := id C0
  have hown : s.vm.findClass RL = some m.cls := hown
  have hts := fun w h => hts0 w (wsL_law_in w h)
  have hA : ∀ x : Nat, s.heap.size ≤ x → (fun x : Nat => s.heap.size ≤ x) x := fun _ h => h
  have hbA : ¬ (fun x : Nat => s.heap.size ≤ x) b := Nat.not_le.mpr hbl
  unfold f_law_374 at hf
  refine lv_iconst (v := 0) hx hb dL_law_374 (by decide) ?_
  refine lv_goto (tgt := 488) hx hb dL_law_375 (by decide) ?_
  exact law_488 l hlst C0 G c3 q hE hC hZ n ih _ _ (by omega) (by omega) x3_374 x5_374 x6_374 x9_374 (0 : Int32) S H locs hP hD hS ls (lv_sub hl [0, 1, 2, 3, 4, 5, 6] rfl) hf
set_option maxHeartbeats 4000000 in
set_option maxRecDepth 100000 in
theorem law_483 {p : Program} {e : Env} {s : State} {m : MethodId} {below : List Frame} {meth : Method} {c : Code} (l : Launch) (hlst : l.stackTraces = false) {b L : Nat} {xs : Nat → Int32} (C0 : lw_At p s m meth c b L xs) (G : va_G) (c3 : ClassId × ClassId × ClassId) (q : Nat → Nat) (hE : tk_E G c3 s) (hC : tk_C s) (hZ : tk_Z (fun x : Nat => s.heap.size ≤ x) s s.heap) (n : Nat) (ih : law_LS p l e s m below meth c b L xs G c3 q n) (cs ss : Nat) (hc : cs + 2 * n + 1 ≤ 5000) (hs : ss + 12 * n + 6 ≤ 60000) (x3_483 : Int32) (x5_483 : Int32) (x6_483 : Int32) (x9_483 : Int32) (S : tk_ST) (H : Heap) (locs : List Loc) (hP : va_P G vwCl (tk_H c3 q S) H) (hD : va_D (fun x : Nat => s.heap.size ≤ x) (tk_H c3 q S)) (hS : va_S (fun x : Nat => s.heap.size ≤ x) s.heap H locs) (ls : Array Slot) (hl : lv_has ls 14 [(0, .ref b), (1, .ref (q 0)), (2, .ref (q 17)), (3, .int x3_483), (5, .int x5_483), (6, .int x6_483), (9, .int x9_483)]) (hf : f_law_483 L xs (f_law_71 L xs n) x3_483 x5_483 x6_483 x9_483 S = some (1 : Int32)) : W p l e room_1 s m #[Value.ref b] below meth c H locs cs ss (lw_Z below #[Value.ref b] s) (F0 m 483 ls []) := by
  obtain ⟨hx, hb, hr, hml, hown, hts0, hX, hbl, hlocks, hgv⟩ := id C0
  have hown : s.vm.findClass RL = some m.cls := hown
  have hts := fun w h => hts0 w (wsL_law_in w h)
  have hA : ∀ x : Nat, s.heap.size ≤ x → (fun x : Nat => s.heap.size ≤ x) x := fun _ h => h
  have hbA : ¬ (fun x : Nat => s.heap.size ≤ x) b := Nat.not_le.mpr hbl
  unfold f_law_483 at hf
  refine lv_iconst (v := 1) hx hb dL_law_483 (by decide) ?_
  refine lv_goto (tgt := 488) hx hb dL_law_484 (by decide) ?_
  exact law_488 l hlst C0 G c3 q hE hC hZ n ih _ _ (by omega) (by omega) x3_483 x5_483 x6_483 x9_483 (1 : Int32) S H locs hP hD hS ls (lv_sub hl [0, 1, 2, 3, 4, 5, 6] rfl) hf
set_option maxHeartbeats 4000000 in
set_option maxRecDepth 100000 in
theorem law_487 {p : Program} {e : Env} {s : State} {m : MethodId} {below : List Frame} {meth : Method} {c : Code} (l : Launch) (hlst : l.stackTraces = false) {b L : Nat} {xs : Nat → Int32} (C0 : lw_At p s m meth c b L xs) (G : va_G) (c3 : ClassId × ClassId × ClassId) (q : Nat → Nat) (hE : tk_E G c3 s) (hC : tk_C s) (hZ : tk_Z (fun x : Nat => s.heap.size ≤ x) s s.heap) (n : Nat) (ih : law_LS p l e s m below meth c b L xs G c3 q n) (cs ss : Nat) (hc : cs + 2 * n + 1 ≤ 5000) (hs : ss + 12 * n + 6 ≤ 60000) (x3_487 : Int32) (x5_487 : Int32) (x6_487 : Int32) (x9_487 : Int32) (S : tk_ST) (H : Heap) (locs : List Loc) (hP : va_P G vwCl (tk_H c3 q S) H) (hD : va_D (fun x : Nat => s.heap.size ≤ x) (tk_H c3 q S)) (hS : va_S (fun x : Nat => s.heap.size ≤ x) s.heap H locs) (ls : Array Slot) (hl : lv_has ls 14 [(0, .ref b), (1, .ref (q 0)), (2, .ref (q 17)), (3, .int x3_487), (5, .int x5_487), (6, .int x6_487), (9, .int x9_487)]) (hf : f_law_487 L xs (f_law_71 L xs n) x3_487 x5_487 x6_487 x9_487 S = some (1 : Int32)) : W p l e room_1 s m #[Value.ref b] below meth c H locs cs ss (lw_Z below #[Value.ref b] s) (F0 m 487 ls []) := by
  obtain ⟨hx, hb, hr, hml, hown, hts0, hX, hbl, hlocks, hgv⟩ := id C0
  have hown : s.vm.findClass RL = some m.cls := hown
  have hts := fun w h => hts0 w (wsL_law_in w h)
  have hA : ∀ x : Nat, s.heap.size ≤ x → (fun x : Nat => s.heap.size ≤ x) x := fun _ h => h
  have hbA : ¬ (fun x : Nat => s.heap.size ≤ x) b := Nat.not_le.mpr hbl
  unfold f_law_487 at hf
  refine lv_iconst (v := 0) hx hb dL_law_487 (by decide) ?_
  exact law_488 l hlst C0 G c3 q hE hC hZ n ih _ _ (by omega) (by omega) x3_487 x5_487 x6_487 x9_487 (0 : Int32) S H locs hP hD hS ls (lv_sub hl [0, 1, 2, 3, 4, 5, 6] rfl) hf
set_option maxHeartbeats 4000000 in
set_option maxRecDepth 100000 in
theorem law_480 {p : Program} {e : Env} {s : State} {m : MethodId} {below : List Frame} {meth : Method} {c : Code} (l : Launch) (hlst : l.stackTraces = false) {b L : Nat} {xs : Nat → Int32} (C0 : lw_At p s m meth c b L xs) (G : va_G) (c3 : ClassId × ClassId × ClassId) (q : Nat → Nat) (hE : tk_E G c3 s) (hC : tk_C s) (hZ : tk_Z (fun x : Nat => s.heap.size ≤ x) s s.heap) (n : Nat) (ih : law_LS p l e s m below meth c b L xs G c3 q n) (cs ss : Nat) (hc : cs + 2 * n + 1 ≤ 5000) (hs : ss + 12 * n + 6 ≤ 60000) (x3_480 : Int32) (x5_480 : Int32) (x6_480 : Int32) (x9_480 : Int32) (k0_480 : Int32) (k1_480 : Int32) (S : tk_ST) (H : Heap) (locs : List Loc) (hP : va_P G vwCl (tk_H c3 q S) H) (hD : va_D (fun x : Nat => s.heap.size ≤ x) (tk_H c3 q S)) (hS : va_S (fun x : Nat => s.heap.size ≤ x) s.heap H locs) (ls : Array Slot) (hl : lv_has ls 14 [(0, .ref b), (1, .ref (q 0)), (2, .ref (q 17)), (3, .int x3_480), (5, .int x5_480), (6, .int x6_480), (9, .int x9_480)]) (hf : f_law_480 L xs (f_law_71 L xs n) x3_480 x5_480 x6_480 x9_480 k0_480 k1_480 S = some (1 : Int32)) : W p l e room_1 s m #[Value.ref b] below meth c H locs cs ss (lw_Z below #[Value.ref b] s) (F0 m 480 ls [.int k1_480, .int k0_480]) := by
  obtain ⟨hx, hb, hr, hml, hown, hts0, hX, hbl, hlocks, hgv⟩ := id C0
  have hown : s.vm.findClass RL = some m.cls := hown
  have hts := fun w h => hts0 w (wsL_law_in w h)
  have hA : ∀ x : Nat, s.heap.size ≤ x → (fun x : Nat => s.heap.size ≤ x) x := fun _ h => h
  have hbA : ¬ (fun x : Nat => s.heap.size ≤ x) b := Nat.not_le.mpr hbl
  unfold f_law_480 at hf
  refine lv_icmp_ne (tgt := 487) hx hb dL_law_480 (by decide) (fun h1 => ?_) (fun h1 => ?_)
  · have hf := tk_neg hf h1
    exact law_487 l hlst C0 G c3 q hE hC hZ n ih _ _ (by omega) (by omega) x3_480 x5_480 x6_480 x9_480 S H locs hP hD hS ls (lv_sub hl [0, 1, 2, 3, 4, 5, 6] rfl) hf
  · have hf := tk_pos hf h1
    exact law_483 l hlst C0 G c3 q hE hC hZ n ih _ _ (by omega) (by omega) x3_480 x5_480 x6_480 x9_480 S H locs hP hD hS ls (lv_sub hl [0, 1, 2, 3, 4, 5, 6] rfl) hf
set_option maxHeartbeats 4000000 in
set_option maxRecDepth 100000 in
theorem law_394 {p : Program} {e : Env} {s : State} {m : MethodId} {below : List Frame} {meth : Method} {c : Code} (l : Launch) (hlst : l.stackTraces = false) {b L : Nat} {xs : Nat → Int32} (C0 : lw_At p s m meth c b L xs) (G : va_G) (c3 : ClassId × ClassId × ClassId) (q : Nat → Nat) (hE : tk_E G c3 s) (hC : tk_C s) (hZ : tk_Z (fun x : Nat => s.heap.size ≤ x) s s.heap) (n : Nat) (ih : law_LS p l e s m below meth c b L xs G c3 q n) (cs ss : Nat) (hc : cs + 2 * n + 1 ≤ 5000) (hs : ss + 12 * n + 6 ≤ 60000) (x3_394 : Int32) (x5_394 : Int32) (x6_394 : Int32) (x9_394 : Int32) (x12_394 : Int32) (x13_394 : Int32) (k0_394 : Int32) (k1_394 : Int32) (S : tk_ST) (H : Heap) (locs : List Loc) (hP : va_P G vwCl (tk_H c3 q S) H) (hD : va_D (fun x : Nat => s.heap.size ≤ x) (tk_H c3 q S)) (hS : va_S (fun x : Nat => s.heap.size ≤ x) s.heap H locs) (ls : Array Slot) (hl : lv_has ls 14 [(0, .ref b), (1, .ref (q 0)), (2, .ref (q 17)), (3, .int x3_394), (5, .int x5_394), (6, .int x6_394), (9, .int x9_394), (12, .int x12_394), (13, .int x13_394)]) (hf : f_law_394 L xs (f_law_71 L xs n) x3_394 x5_394 x6_394 x9_394 x12_394 x13_394 k0_394 k1_394 S = some (1 : Int32)) : W p l e room_1 s m #[Value.ref b] below meth c H locs cs ss (lw_Z below #[Value.ref b] s) (F0 m 394 ls [.int k1_394, .int k0_394]) := by
  obtain ⟨hx, hb, hr, hml, hown, hts0, hX, hbl, hlocks, hgv⟩ := id C0
  have hown : s.vm.findClass RL = some m.cls := hown
  have hts := fun w h => hts0 w (wsL_law_in w h)
  have hA : ∀ x : Nat, s.heap.size ≤ x → (fun x : Nat => s.heap.size ≤ x) x := fun _ h => h
  have hbA : ¬ (fun x : Nat => s.heap.size ≤ x) b := Nat.not_le.mpr hbl
  unfold f_law_394 at hf
  refine lv_icmp_ne (tgt := 487) hx hb dL_law_394 (by decide) (fun h1 => ?_) (fun h1 => ?_)
  · have hf := tk_neg hf h1
    exact law_487 l hlst C0 G c3 q hE hC hZ n ih _ _ (by omega) (by omega) x3_394 x5_394 x6_394 x9_394 S H locs hP hD hS ls (lv_sub hl [0, 1, 2, 3, 4, 5, 6] rfl) hf
  · have hf := tk_pos hf h1
    refine lv_iload hx hb dL_law_397 (lv_at hl 8 rfl) ?_
    refine lv_aload_n hx hb dL_law_399 rfl (lv_at hl 1 rfl) ?_
    obtain ⟨r2, h3, hf⟩ := tk_b1s hf
    refine tk_ci (ws' := (tk_H c3 q S)) (va_runV (As := []) (rest := [.int x13_394]) ⟨hx, hb, hml, hown, hts⟩ (c_X6_phase l G c3 q S r2 h3 H.size) (cwV 0 hts gL_law_X6_phase rfl rfl rfl hv_X6_phase ⟨Nat.le_of_ble_eq_true rfl, Nat.le_of_ble_eq_true rfl⟩) (tk_pV hE hP hD 0 rfl rfl) rfl rfl hl.1 rfl (lv_room (Nat.le_of_ble_eq_true rfl)) dL_law_400 (tk_rm0 (by omega) (by omega))) hD hS hA (fun H locs hP hD hS => ?_)
    refine lv_icmp_ne (tgt := 487) hx hb dL_law_403 (by decide) (fun h5 => ?_) (fun h5 => ?_)
    · have hf := tk_neg hf h5
      exact law_487 l hlst C0 G c3 q hE hC hZ n ih _ _ (by omega) (by omega) x3_394 x5_394 x6_394 x9_394 S H locs hP hD hS ls (lv_sub hl [0, 1, 2, 3, 4, 5, 6] rfl) hf
    · have hf := tk_pos hf h5
      refine lv_iload hx hb dL_law_406 (lv_at hl 8 rfl) ?_
      refine lv_iconst (v := 1) hx hb dL_law_408 (by decide) ?_
      refine lv_icmp_ne (tgt := 431) hx hb dL_law_409 (by decide) (fun h6 => ?_) (fun h6 => ?_)
      · have hf := tk_neg hf h6
        refine lv_iload hx hb dL_law_431 (lv_at hl 8 rfl) ?_
        refine lv_if_ne (tgt := 446) hx hb dL_law_433 (by decide) (fun h7 => ?_) (fun h7 => ?_)
        · have hf := tk_neg hf h7
          refine lv_aload_n hx hb dL_law_446 rfl (lv_at hl 1 rfl) ?_
          obtain ⟨r8, h9, hf⟩ := tk_b1s hf
          refine tk_ci (ws' := (tk_H c3 q S)) (va_runV (As := []) (rest := []) ⟨hx, hb, hml, hown, hts⟩ (c_X6_declarer l G c3 q S r8 h9 H.size) (cwV 0 hts gL_law_X6_declarer rfl rfl rfl hv_X6_declarer ⟨Nat.le_of_ble_eq_true rfl, Nat.le_of_ble_eq_true rfl⟩) (tk_pV hE hP hD 0 rfl rfl) rfl rfl hl.1 rfl (lv_room (Nat.le_of_ble_eq_true rfl)) dL_law_447 (tk_rm0 (by omega) (by omega))) hD hS hA (fun H locs hP hD hS => ?_)
          refine lv_if_lt (tgt := 487) hx hb dL_law_450 (by decide) (fun h11 => ?_) (fun h11 => ?_)
          · have hf := tk_pos hf h11
            exact law_487 l hlst C0 G c3 q hE hC hZ n ih _ _ (by omega) (by omega) x3_394 x5_394 x6_394 x9_394 S H locs hP hD hS ls (lv_sub hl [0, 1, 2, 3, 4, 5, 6] rfl) hf
          · have hf := tk_neg hf h11
            refine lv_iload hx hb dL_law_453 (lv_at hl 8 rfl) ?_
            refine lv_aload_n hx hb dL_law_455 rfl (lv_at hl 1 rfl) ?_
            obtain ⟨r12, h13, hf⟩ := tk_b1s hf
            refine tk_ci (ws' := (tk_H c3 q S)) (va_runV (As := []) (rest := [.int x13_394]) ⟨hx, hb, hml, hown, hts⟩ (c_X6_level l G c3 q S r12 h13 H.size) (cwV 0 hts gL_law_X6_level rfl rfl rfl hv_X6_level ⟨Nat.le_of_ble_eq_true rfl, Nat.le_of_ble_eq_true rfl⟩) (tk_pV hE hP hD 0 rfl rfl) rfl rfl hl.1 rfl (lv_room (Nat.le_of_ble_eq_true rfl)) dL_law_456 (tk_rm0 (by omega) (by omega))) hD hS hA (fun H locs hP hD hS => ?_)
            refine lv_iconst (v := 4) hx hb dL_law_459 (by decide) ?_
            refine lv_icmp_ge (tgt := 467) hx hb dL_law_460 (by decide) (fun h15 => ?_) (fun h15 => ?_)
            · have hf := tk_pos hf h15
              refine lv_aload_n hx hb dL_law_467 rfl (lv_at hl 1 rfl) ?_
              obtain ⟨r16, h17, hf⟩ := tk_b1s hf
              refine tk_ci (ws' := (tk_H c3 q S)) (va_runV (As := []) (rest := [.int x13_394]) ⟨hx, hb, hml, hown, hts⟩ (c_X6_level l G c3 q S r16 h17 H.size) (cwV 0 hts gL_law_X6_level rfl rfl rfl hv_X6_level ⟨Nat.le_of_ble_eq_true rfl, Nat.le_of_ble_eq_true rfl⟩) (tk_pV hE hP hD 0 rfl rfl) rfl rfl hl.1 rfl (lv_room (Nat.le_of_ble_eq_true rfl)) dL_law_468 (tk_rm0 (by omega) (by omega))) hD hS hA (fun H locs hP hD hS => ?_)
              refine lv_iconst (v := 4) hx hb dL_law_471 (by decide) ?_
              refine lv_icmp_ne (tgt := 479) hx hb dL_law_472 (by decide) (fun h19 => ?_) (fun h19 => ?_)
              · have hf := tk_neg hf h19
                refine lv_iconst (v := 5) hx hb dL_law_479 (by decide) ?_
                exact law_480 l hlst C0 G c3 q hE hC hZ n ih _ _ (by omega) (by omega) x3_394 x5_394 x6_394 x9_394 x13_394 (5 : Int32) S H locs hP hD hS ls (lv_sub hl [0, 1, 2, 3, 4, 5, 6] rfl) hf
              · have hf := tk_pos hf h19
                refine lv_iconst (v := 3) hx hb dL_law_475 (by decide) ?_
                refine lv_goto (tgt := 480) hx hb dL_law_476 (by decide) ?_
                exact law_480 l hlst C0 G c3 q hE hC hZ n ih _ _ (by omega) (by omega) x3_394 x5_394 x6_394 x9_394 x13_394 (3 : Int32) S H locs hP hD hS ls (lv_sub hl [0, 1, 2, 3, 4, 5, 6] rfl) hf
            · have hf := tk_neg hf h15
              refine lv_iconst (v := 2) hx hb dL_law_463 (by decide) ?_
              refine lv_goto (tgt := 480) hx hb dL_law_464 (by decide) ?_
              exact law_480 l hlst C0 G c3 q hE hC hZ n ih _ _ (by omega) (by omega) x3_394 x5_394 x6_394 x9_394 x13_394 (2 : Int32) S H locs hP hD hS ls (lv_sub hl [0, 1, 2, 3, 4, 5, 6] rfl) hf
        · have hf := tk_pos hf h7
          refine lv_aload_n hx hb dL_law_436 rfl (lv_at hl 1 rfl) ?_
          obtain ⟨r20, h21, hf⟩ := tk_b1s hf
          refine tk_ci (ws' := (tk_H c3 q S)) (va_runV (As := []) (rest := []) ⟨hx, hb, hml, hown, hts⟩ (c_X6_level l G c3 q S r20 h21 H.size) (cwV 0 hts gL_law_X6_level rfl rfl rfl hv_X6_level ⟨Nat.le_of_ble_eq_true rfl, Nat.le_of_ble_eq_true rfl⟩) (tk_pV hE hP hD 0 rfl rfl) rfl rfl hl.1 rfl (lv_room (Nat.le_of_ble_eq_true rfl)) dL_law_437 (tk_rm0 (by omega) (by omega))) hD hS hA (fun H locs hP hD hS => ?_)
          refine lv_if_ne (tgt := 487) hx hb dL_law_440 (by decide) (fun h23 => ?_) (fun h23 => ?_)
          · have hf := tk_neg hf h23
            exact law_487 l hlst C0 G c3 q hE hC hZ n ih _ _ (by omega) (by omega) x3_394 x5_394 x6_394 x9_394 S H locs hP hD hS ls (lv_sub hl [0, 1, 2, 3, 4, 5, 6] rfl) hf
          · have hf := tk_pos hf h23
            refine lv_goto (tgt := 483) hx hb dL_law_443 (by decide) ?_
            exact law_483 l hlst C0 G c3 q hE hC hZ n ih _ _ (by omega) (by omega) x3_394 x5_394 x6_394 x9_394 S H locs hP hD hS ls (lv_sub hl [0, 1, 2, 3, 4, 5, 6] rfl) hf
      · have hf := tk_pos hf h6
        refine lv_aload_n hx hb dL_law_412 rfl (lv_at hl 1 rfl) ?_
        obtain ⟨r24, h25, hf⟩ := tk_b1s hf
        refine tk_ci (ws' := (tk_H c3 q S)) (va_runV (As := []) (rest := []) ⟨hx, hb, hml, hown, hts⟩ (c_X6_turn l G c3 q S r24 h25 H.size) (cwV 0 hts gL_law_X6_turn rfl rfl rfl hv_X6_turn ⟨Nat.le_of_ble_eq_true rfl, Nat.le_of_ble_eq_true rfl⟩) (tk_pV hE hP hD 0 rfl rfl) rfl rfl hl.1 rfl (lv_room (Nat.le_of_ble_eq_true rfl)) dL_law_413 (tk_rm0 (by omega) (by omega))) hD hS hA (fun H locs hP hD hS => ?_)
        refine lv_iload hx hb dL_law_416 (lv_at hl 7 rfl) ?_
        refine lv_icmp_eq (tgt := 487) hx hb dL_law_418 (by decide) (fun h27 => ?_) (fun h27 => ?_)
        · have hf := tk_pos hf h27
          exact law_487 l hlst C0 G c3 q hE hC hZ n ih _ _ (by omega) (by omega) x3_394 x5_394 x6_394 x9_394 S H locs hP hD hS ls (lv_sub hl [0, 1, 2, 3, 4, 5, 6] rfl) hf
        · have hf := tk_neg hf h27
          refine lv_aload_n hx hb dL_law_421 rfl (lv_at hl 1 rfl) ?_
          obtain ⟨r28, h29, hf⟩ := tk_b1s hf
          refine tk_ci (ws' := (tk_H c3 q S)) (va_runV (As := []) (rest := []) ⟨hx, hb, hml, hown, hts⟩ (c_X6_declarer l G c3 q S r28 h29 H.size) (cwV 0 hts gL_law_X6_declarer rfl rfl rfl hv_X6_declarer ⟨Nat.le_of_ble_eq_true rfl, Nat.le_of_ble_eq_true rfl⟩) (tk_pV hE hP hD 0 rfl rfl) rfl rfl hl.1 rfl (lv_room (Nat.le_of_ble_eq_true rfl)) dL_law_422 (tk_rm0 (by omega) (by omega))) hD hS hA (fun H locs hP hD hS => ?_)
          refine lv_if_ge (tgt := 487) hx hb dL_law_425 (by decide) (fun h31 => ?_) (fun h31 => ?_)
          · have hf := tk_pos hf h31
            exact law_487 l hlst C0 G c3 q hE hC hZ n ih _ _ (by omega) (by omega) x3_394 x5_394 x6_394 x9_394 S H locs hP hD hS ls (lv_sub hl [0, 1, 2, 3, 4, 5, 6] rfl) hf
          · have hf := tk_neg hf h31
            refine lv_goto (tgt := 483) hx hb dL_law_428 (by decide) ?_
            exact law_483 l hlst C0 G c3 q hE hC hZ n ih _ _ (by omega) (by omega) x3_394 x5_394 x6_394 x9_394 S H locs hP hD hS ls (lv_sub hl [0, 1, 2, 3, 4, 5, 6] rfl) hf
set_option maxHeartbeats 4000000 in
set_option maxRecDepth 100000 in
theorem law_378 {p : Program} {e : Env} {s : State} {m : MethodId} {below : List Frame} {meth : Method} {c : Code} (l : Launch) (hlst : l.stackTraces = false) {b L : Nat} {xs : Nat → Int32} (C0 : lw_At p s m meth c b L xs) (G : va_G) (c3 : ClassId × ClassId × ClassId) (q : Nat → Nat) (hE : tk_E G c3 s) (hC : tk_C s) (hZ : tk_Z (fun x : Nat => s.heap.size ≤ x) s s.heap) (n : Nat) (ih : law_LS p l e s m below meth c b L xs G c3 q n) (cs ss : Nat) (hc : cs + 2 * n + 1 ≤ 5000) (hs : ss + 12 * n + 6 ≤ 60000) (x3_378 : Int32) (x5_378 : Int32) (x6_378 : Int32) (x9_378 : Int32) (x10_378 : Int32) (x11_378 : Int32) (x12_378 : Int32) (x13_378 : Int32) (S : tk_ST) (H : Heap) (locs : List Loc) (hP : va_P G vwCl (tk_H c3 q S) H) (hD : va_D (fun x : Nat => s.heap.size ≤ x) (tk_H c3 q S)) (hS : va_S (fun x : Nat => s.heap.size ≤ x) s.heap H locs) (ls : Array Slot) (hl : lv_has ls 14 [(0, .ref b), (1, .ref (q 0)), (2, .ref (q 17)), (3, .int x3_378), (5, .int x5_378), (6, .int x6_378), (9, .int x9_378), (10, .int x10_378), (11, .int x11_378), (12, .int x12_378), (13, .int x13_378)]) (hf : f_law_378 L xs (f_law_71 L xs n) x3_378 x5_378 x6_378 x9_378 x10_378 x11_378 x12_378 x13_378 S = some (1 : Int32)) : W p l e room_1 s m #[Value.ref b] below meth c H locs cs ss (lw_Z below #[Value.ref b] s) (F0 m 378 ls []) := by
  obtain ⟨hx, hb, hr, hml, hown, hts0, hX, hbl, hlocks, hgv⟩ := id C0
  have hown : s.vm.findClass RL = some m.cls := hown
  have hts := fun w h => hts0 w (wsL_law_in w h)
  have hA : ∀ x : Nat, s.heap.size ≤ x → (fun x : Nat => s.heap.size ≤ x) x := fun _ h => h
  have hbA : ¬ (fun x : Nat => s.heap.size ≤ x) b := Nat.not_le.mpr hbl
  unfold f_law_378 at hf
  refine lv_aload_n hx hb dL_law_378 rfl (lv_at hl 1 rfl) ?_
  obtain ⟨r1, h2, hf⟩ := tk_b1s hf
  refine tk_ci (ws' := (tk_H c3 q S)) (va_runV (As := []) (rest := []) ⟨hx, hb, hml, hown, hts⟩ (c_X6_level l G c3 q S r1 h2 H.size) (cwV 0 hts gL_law_X6_level rfl rfl rfl hv_X6_level ⟨Nat.le_of_ble_eq_true rfl, Nat.le_of_ble_eq_true rfl⟩) (tk_pV hE hP hD 0 rfl rfl) rfl rfl hl.1 rfl (lv_room (Nat.le_of_ble_eq_true rfl)) dL_law_379 (tk_rm0 (by omega) (by omega))) hD hS hA (fun H locs hP hD hS => ?_)
  refine lv_iload hx hb dL_law_382 (lv_at hl 7 rfl) ?_
  refine lv_if_le (tgt := 392) hx hb dL_law_384 (by decide) (fun h4 => ?_) (fun h4 => ?_)
  · have hf := tk_pos hf h4
    refine lv_iload hx hb dL_law_392 (lv_at hl 8 rfl) ?_
    exact law_394 l hlst C0 G c3 q hE hC hZ n ih _ _ (by omega) (by omega) x3_378 x5_378 x6_378 x9_378 x12_378 x13_378 r1 x11_378 S H locs hP hD hS ls (lv_sub hl [0, 1, 2, 3, 4, 5, 6, 9, 10] rfl) hf
  · have hf := tk_neg hf h4
    refine lv_iload hx hb dL_law_387 (lv_at hl 7 rfl) ?_
    refine lv_goto (tgt := 394) hx hb dL_law_389 (by decide) ?_
    exact law_394 l hlst C0 G c3 q hE hC hZ n ih _ _ (by omega) (by omega) x3_378 x5_378 x6_378 x9_378 x12_378 x13_378 r1 x10_378 S H locs hP hD hS ls (lv_sub hl [0, 1, 2, 3, 4, 5, 6, 9, 10] rfl) hf
set_option maxHeartbeats 4000000 in
set_option maxRecDepth 100000 in
theorem law_320 {p : Program} {e : Env} {s : State} {m : MethodId} {below : List Frame} {meth : Method} {c : Code} (l : Launch) (hlst : l.stackTraces = false) {b L : Nat} {xs : Nat → Int32} (C0 : lw_At p s m meth c b L xs) (G : va_G) (c3 : ClassId × ClassId × ClassId) (q : Nat → Nat) (hE : tk_E G c3 s) (hC : tk_C s) (hZ : tk_Z (fun x : Nat => s.heap.size ≤ x) s s.heap) (n : Nat) (ih : law_LS p l e s m below meth c b L xs G c3 q n) (cs ss : Nat) (hc : cs + 2 * n + 2 ≤ 5000) (hs : ss + 12 * n + 12 ≤ 60000) (x3_320 : Int32) (x5_320 : Int32) (x6_320 : Int32) (x9_320 : Int32) (k0_320 : Int32) (S : tk_ST) (H : Heap) (locs : List Loc) (hP : va_P G vwCl (tk_H c3 q S) H) (hD : va_D (fun x : Nat => s.heap.size ≤ x) (tk_H c3 q S)) (hS : va_S (fun x : Nat => s.heap.size ≤ x) s.heap H locs) (ls : Array Slot) (hl : lv_has ls 14 [(0, .ref b), (1, .ref (q 0)), (2, .ref (q 17)), (3, .int x3_320), (5, .int x5_320), (6, .int x6_320), (9, .int x9_320)]) (hf : f_law_320 L xs (f_law_71 L xs n) x3_320 x5_320 x6_320 x9_320 k0_320 S = some (1 : Int32)) : W p l e room_1 s m #[Value.ref b] below meth c H locs cs ss (lw_Z below #[Value.ref b] s) (F0 m 320 ls [.int k0_320]) := by
  obtain ⟨hx, hb, hr, hml, hown, hts0, hX, hbl, hlocks, hgv⟩ := id C0
  have hown : s.vm.findClass RL = some m.cls := hown
  have hts := fun w h => hts0 w (wsL_law_in w h)
  have hA : ∀ x : Nat, s.heap.size ≤ x → (fun x : Nat => s.heap.size ≤ x) x := fun _ h => h
  have hbA : ¬ (fun x : Nat => s.heap.size ≤ x) b := Nat.not_le.mpr hbl
  unfold f_law_320 at hf
  refine lv_istore (lv' := [(10, .int k0_320), (0, .ref b), (1, .ref (q 0)), (2, .ref (q 17)), (3, .int x3_320), (5, .int x5_320), (6, .int x6_320), (9, .int x9_320)]) hx hb dL_law_320 hl (by decide) rfl (fun ls hl => ?_)
  refine lv_aload_n hx hb dL_law_322 rfl (lv_at hl 2 rfl) ?_
  obtain ⟨r1, h2, hf⟩ := tk_b1s hf
  refine tk_ci (ws' := (tk_H c3 q S)) (va_runV (As := []) (rest := []) ⟨hx, hb, hml, hown, hts⟩ (c_X6_level l G c3 q S r1 h2 H.size) (cwV 0 hts gL_law_X6_level rfl rfl rfl hv_X6_level ⟨Nat.le_of_ble_eq_true rfl, Nat.le_of_ble_eq_true rfl⟩) (tk_pV hE hP hD 0 rfl rfl) rfl rfl hl.1 rfl (lv_room (Nat.le_of_ble_eq_true rfl)) dL_law_323 (tk_rm0 (by omega) (by omega))) hD hS hA (fun H locs hP hD hS => ?_)
  refine lv_istore (lv' := [(11, .int r1), (10, .int k0_320), (0, .ref b), (1, .ref (q 0)), (2, .ref (q 17)), (3, .int x3_320), (5, .int x5_320), (6, .int x6_320), (9, .int x9_320)]) hx hb dL_law_326 hl (by decide) rfl (fun ls hl => ?_)
  refine lv_aload_n hx hb dL_law_328 rfl (lv_at hl 3 rfl) ?_
  obtain ⟨r4, h5, hf⟩ := tk_b1s hf
  refine tk_ci (ws' := (tk_H c3 q S)) (va_runV (As := []) (rest := []) ⟨hx, hb, hml, hown, hts⟩ (c_X6_turn l G c3 q S r4 h5 H.size) (cwV 0 hts gL_law_X6_turn rfl rfl rfl hv_X6_turn ⟨Nat.le_of_ble_eq_true rfl, Nat.le_of_ble_eq_true rfl⟩) (tk_pV hE hP hD 0 rfl rfl) rfl rfl hl.1 rfl (lv_room (Nat.le_of_ble_eq_true rfl)) dL_law_329 (tk_rm0 (by omega) (by omega))) hD hS hA (fun H locs hP hD hS => ?_)
  refine lv_istore (lv' := [(12, .int r4), (11, .int r1), (10, .int k0_320), (0, .ref b), (1, .ref (q 0)), (2, .ref (q 17)), (3, .int x3_320), (5, .int x5_320), (6, .int x6_320), (9, .int x9_320)]) hx hb dL_law_332 hl (by decide) rfl (fun ls hl => ?_)
  refine lv_aload_n hx hb dL_law_334 rfl (lv_at hl 4 rfl) ?_
  refine lv_iload hx hb dL_law_335 (lv_at hl 2 rfl) ?_
  obtain ⟨r7, S8, h9, hf⟩ := tk_b2s hf
  refine tk_ciA (a := (tk_H c3 q S)) (a' := (tk_H c3 q S8)) (vx_runSW (As := [.ref (q 0), .int k0_320]) (rest := []) ⟨hx, hb, hml, hown, hts⟩ (c_L_bids l hlst G c3 q S k0_320 r7 S8 h9 H.size) (vx_cwSW 2 hts gL_law_L_bids rfl rfl rfl hs_L_bids ⟨Nat.le_of_ble_eq_true rfl, Nat.le_of_ble_eq_true rfl⟩) (tk_pSL hE hZ hC hP hD hS hA) rfl rfl hl.1 rfl (lv_room (Nat.le_of_ble_eq_true rfl)) dL_law_337 (tk_rm1 (by omega) (by omega))) hP hD hS hA (fun H locs hP hD hS => ?_)
  refine lv_istore (lv' := [(13, .int r7), (12, .int r4), (11, .int r1), (10, .int k0_320), (0, .ref b), (1, .ref (q 0)), (2, .ref (q 17)), (3, .int x3_320), (5, .int x5_320), (6, .int x6_320), (9, .int x9_320)]) hx hb dL_law_340 hl (by decide) rfl (fun ls hl => ?_)
  refine lv_iload hx hb dL_law_342 (lv_at hl 3 rfl) ?_
  refine lv_if_le (tgt := 378) hx hb dL_law_344 (by decide) (fun h10 => ?_) (fun h10 => ?_)
  · have hf := tk_pos hf h10
    exact law_378 l hlst C0 G c3 q hE hC hZ n ih _ _ (by omega) (by omega) x3_320 x5_320 x6_320 x9_320 k0_320 r1 r4 r7 S8 H locs hP hD hS ls (lv_sub hl [4, 5, 6, 7, 8, 9, 10, 3, 2, 1, 0] rfl) hf
  · have hf := tk_neg hf h10
    refine lv_iload hx hb dL_law_347 (lv_at hl 3 rfl) ?_
    refine lv_iload hx hb dL_law_349 (lv_at hl 2 rfl) ?_
    refine lv_icmp_gt (tgt := 378) hx hb dL_law_351 (by decide) (fun h11 => ?_) (fun h11 => ?_)
    · have hf := tk_pos hf h11
      exact law_378 l hlst C0 G c3 q hE hC hZ n ih _ _ (by omega) (by omega) x3_320 x5_320 x6_320 x9_320 k0_320 r1 r4 r7 S8 H locs hP hD hS ls (lv_sub hl [4, 5, 6, 7, 8, 9, 10, 3, 2, 1, 0] rfl) hf
    · have hf := tk_neg hf h11
      refine lv_iload hx hb dL_law_354 (lv_at hl 0 rfl) ?_
      refine lv_bipush (v := -3) hx hb dL_law_356 (by decide) ?_
      refine lv_icmp_ne (tgt := 374) hx hb dL_law_358 (by decide) (fun h12 => ?_) (fun h12 => ?_)
      · have hf := tk_neg hf h12
        exact law_374 l hlst C0 G c3 q hE hC hZ n ih _ _ (by omega) (by omega) x3_320 x5_320 x6_320 x9_320 S8 H locs hP hD hS ls (lv_sub hl [4, 5, 6, 7, 8, 9, 10] rfl) hf
      · have hf := tk_pos hf h12
        refine lv_aload_n hx hb dL_law_361 rfl (lv_at hl 5 rfl) ?_
        obtain ⟨r13, h14, hf⟩ := tk_b1s hf
        refine tk_ci (ws' := (tk_H c3 q S8)) (va_runV (As := []) (rest := []) ⟨hx, hb, hml, hown, hts⟩ (c_X6_turn l G c3 q S8 r13 h14 H.size) (cwV 0 hts gL_law_X6_turn rfl rfl rfl hv_X6_turn ⟨Nat.le_of_ble_eq_true rfl, Nat.le_of_ble_eq_true rfl⟩) (tk_pV hE hP hD 0 rfl rfl) rfl rfl hl.1 rfl (lv_room (Nat.le_of_ble_eq_true rfl)) dL_law_362 (tk_rm0 (by omega) (by omega))) hD hS hA (fun H locs hP hD hS => ?_)
        refine lv_iload hx hb dL_law_365 (lv_at hl 1 rfl) ?_
        refine lv_icmp_ne (tgt := 374) hx hb dL_law_367 (by decide) (fun h16 => ?_) (fun h16 => ?_)
        · have hf := tk_neg hf h16
          exact law_374 l hlst C0 G c3 q hE hC hZ n ih _ _ (by omega) (by omega) x3_320 x5_320 x6_320 x9_320 S8 H locs hP hD hS ls (lv_sub hl [4, 5, 6, 7, 8, 9, 10] rfl) hf
        · have hf := tk_pos hf h16
          refine lv_iconst (v := 1) hx hb dL_law_370 (by decide) ?_
          refine lv_goto (tgt := 488) hx hb dL_law_371 (by decide) ?_
          exact law_488 l hlst C0 G c3 q hE hC hZ n ih _ _ (by omega) (by omega) x3_320 x5_320 x6_320 x9_320 (1 : Int32) S8 H locs hP hD hS ls (lv_sub hl [4, 5, 6, 7, 8, 9, 10] rfl) hf
set_option maxHeartbeats 4000000 in
set_option maxRecDepth 100000 in
theorem law_567 {p : Program} {e : Env} {s : State} {m : MethodId} {below : List Frame} {meth : Method} {c : Code} (l : Launch) (hlst : l.stackTraces = false) {b L : Nat} {xs : Nat → Int32} (C0 : lw_At p s m meth c b L xs) (G : va_G) (c3 : ClassId × ClassId × ClassId) (q : Nat → Nat) (hE : tk_E G c3 s) (hC : tk_C s) (hZ : tk_Z (fun x : Nat => s.heap.size ≤ x) s s.heap) (n : Nat) (ih : law_LS p l e s m below meth c b L xs G c3 q n) (cs ss : Nat) (hc : cs + 2 * n + 2 ≤ 5000) (hs : ss + 12 * n + 12 ≤ 60000) : ∀ (n_567 : Nat) (x3_567 : Int32) (x4_567 : Int32) (x5_567 : Int32) (x6_567 : Int32) (x9_567 : Int32) (x11_567 : Int32) (x12_567 : Int32) (S : tk_ST) (H : Heap) (locs : List Loc) (hP : va_P G vwCl (tk_H c3 q S) H) (hD : va_D (fun x : Nat => s.heap.size ≤ x) (tk_H c3 q S)) (hS : va_S (fun x : Nat => s.heap.size ≤ x) s.heap H locs) (ls : Array Slot) (hl : lv_has ls 14 [(0, .ref b), (1, .ref (q 0)), (2, .ref (q 17)), (3, .int x3_567), (4, .int x4_567), (5, .int x5_567), (6, .int x6_567), (9, .int x9_567), (11, .int x11_567), (12, .int x12_567)]) (hf : f_law_567 L xs (f_law_71 L xs n) n_567 x3_567 x4_567 x5_567 x6_567 x9_567 x11_567 x12_567 S = some (1 : Int32)), W p l e room_1 s m #[Value.ref b] below meth c H locs cs ss (lw_Z below #[Value.ref b] s) (F0 m 567 ls []) := by
  obtain ⟨hx, hb, hr, hml, hown, hts0, hX, hbl, hlocks, hgv⟩ := id C0
  have hown : s.vm.findClass RL = some m.cls := hown
  have hts := fun w h => hts0 w (wsL_law_in w h)
  have hA : ∀ x : Nat, s.heap.size ≤ x → (fun x : Nat => s.heap.size ≤ x) x := fun _ h => h
  have hbA : ¬ (fun x : Nat => s.heap.size ≤ x) b := Nat.not_le.mpr hbl
  intro n_567
  induction n_567 with
  | zero =>
    intro x3_567 x4_567 x5_567 x6_567 x9_567 x11_567 x12_567 S H locs hP hD hS ls hl hf
    exact absurd hf (by intro h9; cases h9)
  | succ n_567 ih_567 =>
    have J_615 : ∀ (x3_615 : Int32) (x5_615 : Int32) (x6_615 : Int32) (x9_615 : Int32) (x11_615 : Int32) (x12_615 : Int32) (k0_615 : Int32) (S_615 : tk_ST) (H : Heap) (locs : List Loc) (_ : va_P G vwCl (tk_H c3 q S_615) H) (_ : va_D (fun x : Nat => s.heap.size ≤ x) (tk_H c3 q S_615)) (_ : va_S (fun x : Nat => s.heap.size ≤ x) s.heap H locs) (ls : Array Slot) (_ : lv_has ls 14 [(0, .ref b), (1, .ref (q 0)), (2, .ref (q 17)), (3, .int x3_615), (5, .int x5_615), (6, .int x6_615), (9, .int x9_615), (11, .int x11_615), (12, .int x12_615)]) (_ : f_law_615 L xs (f_law_71 L xs n) (f_law_567 L xs (f_law_71 L xs n) n_567) x3_615 x5_615 x6_615 x9_615 x11_615 x12_615 k0_615 S_615 = some (1 : Int32)), W p l e room_1 s m #[Value.ref b] below meth c H locs cs ss (lw_Z below #[Value.ref b] s) (F0 m 615 ls [.int k0_615]) := by
      intro x3_615 x5_615 x6_615 x9_615 x11_615 x12_615 k0_615 S_615 H locs hP hD hS ls hl hf
      unfold f_law_615 at hf
      refine lv_istore (lv' := [(4, .int k0_615), (0, .ref b), (1, .ref (q 0)), (2, .ref (q 17)), (3, .int x3_615), (5, .int x5_615), (6, .int x6_615), (9, .int x9_615), (11, .int x11_615), (12, .int x12_615)]) hx hb dL_law_615 hl (by decide) rfl (fun ls hl => ?_)
      refine lv_iinc (v := (x12_615 + (1 : Int32))) (lv' := [(12, .int (x12_615 + (1 : Int32))), (4, .int k0_615), (0, .ref b), (1, .ref (q 0)), (2, .ref (q 17)), (3, .int x3_615), (5, .int x5_615), (6, .int x6_615), (9, .int x9_615), (11, .int x11_615)]) hx hb dL_law_617 hl (k := 9) rfl rfl (by decide) rfl (fun ls hl => ?_)
      refine lv_goto (tgt := 567) hx hb dL_law_620 (by decide) ?_
      exact ih_567 x3_615 k0_615 x5_615 x6_615 x9_615 x11_615 (x12_615 + (1 : Int32)) S_615 H locs hP hD hS ls (lv_sub hl [2, 3, 4, 5, 1, 6, 7, 8, 9, 0] rfl) hf
    have J_610 : ∀ (x3_610 : Int32) (x5_610 : Int32) (x6_610 : Int32) (x9_610 : Int32) (x11_610 : Int32) (x12_610 : Int32) (S_610 : tk_ST) (H : Heap) (locs : List Loc) (_ : va_P G vwCl (tk_H c3 q S_610) H) (_ : va_D (fun x : Nat => s.heap.size ≤ x) (tk_H c3 q S_610)) (_ : va_S (fun x : Nat => s.heap.size ≤ x) s.heap H locs) (ls : Array Slot) (_ : lv_has ls 14 [(0, .ref b), (1, .ref (q 0)), (2, .ref (q 17)), (3, .int x3_610), (5, .int x5_610), (6, .int x6_610), (9, .int x9_610), (11, .int x11_610), (12, .int x12_610)]) (_ : f_law_610 L xs (f_law_71 L xs n) (f_law_567 L xs (f_law_71 L xs n) n_567) x3_610 x5_610 x6_610 x9_610 x11_610 x12_610 S_610 = some (1 : Int32)), W p l e room_1 s m #[Value.ref b] below meth c H locs cs ss (lw_Z below #[Value.ref b] s) (F0 m 610 ls []) := by
      intro x3_610 x5_610 x6_610 x9_610 x11_610 x12_610 S_610 H locs hP hD hS ls hl hf
      unfold f_law_610 at hf
      refine lv_iconst (v := 1) hx hb dL_law_610 (by decide) ?_
      refine lv_goto (tgt := 615) hx hb dL_law_611 (by decide) ?_
      exact J_615 x3_610 x5_610 x6_610 x9_610 x11_610 x12_610 (1 : Int32) S_610 H locs hP hD hS ls (lv_sub hl [0, 1, 2, 3, 4, 5, 6, 7, 8] rfl) hf
    have J_614 : ∀ (x3_614 : Int32) (x5_614 : Int32) (x6_614 : Int32) (x9_614 : Int32) (x11_614 : Int32) (x12_614 : Int32) (S_614 : tk_ST) (H : Heap) (locs : List Loc) (_ : va_P G vwCl (tk_H c3 q S_614) H) (_ : va_D (fun x : Nat => s.heap.size ≤ x) (tk_H c3 q S_614)) (_ : va_S (fun x : Nat => s.heap.size ≤ x) s.heap H locs) (ls : Array Slot) (_ : lv_has ls 14 [(0, .ref b), (1, .ref (q 0)), (2, .ref (q 17)), (3, .int x3_614), (5, .int x5_614), (6, .int x6_614), (9, .int x9_614), (11, .int x11_614), (12, .int x12_614)]) (_ : f_law_614 L xs (f_law_71 L xs n) (f_law_567 L xs (f_law_71 L xs n) n_567) x3_614 x5_614 x6_614 x9_614 x11_614 x12_614 S_614 = some (1 : Int32)), W p l e room_1 s m #[Value.ref b] below meth c H locs cs ss (lw_Z below #[Value.ref b] s) (F0 m 614 ls []) := by
      intro x3_614 x5_614 x6_614 x9_614 x11_614 x12_614 S_614 H locs hP hD hS ls hl hf
      unfold f_law_614 at hf
      refine lv_iconst (v := 0) hx hb dL_law_614 (by decide) ?_
      exact J_615 x3_614 x5_614 x6_614 x9_614 x11_614 x12_614 (0 : Int32) S_614 H locs hP hD hS ls (lv_sub hl [0, 1, 2, 3, 4, 5, 6, 7, 8] rfl) hf
    intro x3_567 x4_567 x5_567 x6_567 x9_567 x11_567 x12_567 S H locs hP hD hS ls hl hf
    rw [f_law_567_s] at hf
    refine lv_iload hx hb dL_law_567 (lv_at hl 9 rfl) ?_
    refine lv_iconst (v := 4) hx hb dL_law_569 (by decide) ?_
    refine lv_icmp_ge (tgt := 623) hx hb dL_law_570 (by decide) (fun h1 => ?_) (fun h1 => ?_)
    · have hf := tk_pos hf h1
      refine lv_goto (tgt := 1043) hx hb dL_law_623 (by decide) ?_
      exact law_1043 l hlst C0 G c3 q hE hC hZ n ih _ _ (by omega) (by omega) x3_567 x4_567 x5_567 x6_567 x9_567 S H locs hP hD hS ls (lv_sub hl [0, 1, 2, 3, 4, 5, 6, 7] rfl) hf
    · have hf := tk_neg hf h1
      refine lv_iload hx hb dL_law_573 (lv_at hl 4 rfl) ?_
      refine lv_if_eq (tgt := 614) hx hb dL_law_575 (by decide) (fun h2 => ?_) (fun h2 => ?_)
      · have hf := tk_pos hf h2
        exact J_614 x3_567 x5_567 x6_567 x9_567 x11_567 x12_567 S H locs hP hD hS ls (lv_sub hl [0, 1, 2, 3, 5, 6, 7, 8, 9] rfl) hf
      · have hf := tk_neg hf h2
        refine lv_aload_n hx hb dL_law_578 rfl (lv_at hl 1 rfl) ?_
        refine lv_iload hx hb dL_law_579 (lv_at hl 9 rfl) ?_
        obtain ⟨r3, h4, hf⟩ := tk_b1s hf
        refine tk_cl (ws' := (tk_H c3 q S)) (va_runV (As := [.int x12_567]) (rest := []) ⟨hx, hb, hml, hown, hts⟩ (c0_X6_hand l G c3 q S x12_567 r3 h4 H.size) (cwV 1 hts gL_law_X6_hand rfl rfl rfl hv_X6_hand ⟨Nat.le_of_ble_eq_true rfl, Nat.le_of_ble_eq_true rfl⟩) (tk_pV hE hP hD 0 rfl rfl) rfl rfl hl.1 rfl (lv_room (Nat.le_of_ble_eq_true rfl)) dL_law_581 (tk_rm0 (by omega) (by omega))) hD hS hA (fun H locs hP hD hS => ?_)
        refine lv_iload hx hb dL_law_584 (lv_at hl 8 rfl) ?_
        obtain ⟨r6, h7, hf⟩ := tk_b1s hf
        refine tk_ci (ws' := (tk_H c3 q S)) (va_runS (As := [.long r3, .int x11_567]) (rest := []) ⟨hx, hb, hml, hown, hts⟩ (c_L_has l G c3 (tk_H c3 q S) r3 x11_567 r6 h7 H.size) (va_cwS 2 hts gL_law_L_has rfl rfl rfl hs_L_has ⟨Nat.le_of_ble_eq_true rfl, Nat.le_of_ble_eq_true rfl⟩) (tk_pS hE hP hD) rfl rfl hl.1 rfl (lv_room (Nat.le_of_ble_eq_true rfl)) dL_law_586 (tk_rm0 (by omega) (by omega))) hD hS hA (fun H locs hP hD hS => ?_)
        refine lv_if_eq (tgt := 610) hx hb dL_law_589 (by decide) (fun h9 => ?_) (fun h9 => ?_)
        · have hf := tk_pos hf h9
          exact J_610 x3_567 x5_567 x6_567 x9_567 x11_567 x12_567 S H locs hP hD hS ls (lv_sub hl [0, 1, 2, 3, 5, 6, 7, 8, 9] rfl) hf
        · have hf := tk_neg hf h9
          refine lv_iload hx hb dL_law_592 (lv_at hl 9 rfl) ?_
          refine lv_aload_n hx hb dL_law_594 rfl (lv_at hl 1 rfl) ?_
          obtain ⟨r10, h11, hf⟩ := tk_b1s hf
          refine tk_ci (ws' := (tk_H c3 q S)) (va_runV (As := []) (rest := [.int x12_567]) ⟨hx, hb, hml, hown, hts⟩ (c_X6_declarer l G c3 q S r10 h11 H.size) (cwV 0 hts gL_law_X6_declarer rfl rfl rfl hv_X6_declarer ⟨Nat.le_of_ble_eq_true rfl, Nat.le_of_ble_eq_true rfl⟩) (tk_pV hE hP hD 0 rfl rfl) rfl rfl hl.1 rfl (lv_room (Nat.le_of_ble_eq_true rfl)) dL_law_595 (tk_rm0 (by omega) (by omega))) hD hS hA (fun H locs hP hD hS => ?_)
          refine lv_icmp_eq (tgt := 610) hx hb dL_law_598 (by decide) (fun h13 => ?_) (fun h13 => ?_)
          · have hf := tk_pos hf h13
            exact J_610 x3_567 x5_567 x6_567 x9_567 x11_567 x12_567 S H locs hP hD hS ls (lv_sub hl [0, 1, 2, 3, 5, 6, 7, 8, 9] rfl) hf
          · have hf := tk_neg hf h13
            refine lv_iload hx hb dL_law_601 (lv_at hl 9 rfl) ?_
            refine lv_aload_n hx hb dL_law_603 rfl (lv_at hl 1 rfl) ?_
            obtain ⟨r14, h15, hf⟩ := tk_b1s hf
            refine tk_ci (ws' := (tk_H c3 q S)) (va_runV (As := []) (rest := [.int x12_567]) ⟨hx, hb, hml, hown, hts⟩ (c_X6_partner l G c3 q S r14 h15 H.size) (cwV 0 hts gL_law_X6_partner rfl rfl rfl hv_X6_partner ⟨Nat.le_of_ble_eq_true rfl, Nat.le_of_ble_eq_true rfl⟩) (tk_pV hE hP hD 0 rfl rfl) rfl rfl hl.1 rfl (lv_room (Nat.le_of_ble_eq_true rfl)) dL_law_604 (tk_rm0 (by omega) (by omega))) hD hS hA (fun H locs hP hD hS => ?_)
            refine lv_icmp_ne (tgt := 614) hx hb dL_law_607 (by decide) (fun h17 => ?_) (fun h17 => ?_)
            · have hf := tk_neg hf h17
              exact J_614 x3_567 x5_567 x6_567 x9_567 x11_567 x12_567 S H locs hP hD hS ls (lv_sub hl [0, 1, 2, 3, 5, 6, 7, 8, 9] rfl) hf
            · have hf := tk_pos hf h17
              exact J_610 x3_567 x5_567 x6_567 x9_567 x11_567 x12_567 S H locs hP hD hS ls (lv_sub hl [0, 1, 2, 3, 5, 6, 7, 8, 9] rfl) hf
set_option maxHeartbeats 4000000 in
set_option maxRecDepth 100000 in
theorem law_562 {p : Program} {e : Env} {s : State} {m : MethodId} {below : List Frame} {meth : Method} {c : Code} (l : Launch) (hlst : l.stackTraces = false) {b L : Nat} {xs : Nat → Int32} (C0 : lw_At p s m meth c b L xs) (G : va_G) (c3 : ClassId × ClassId × ClassId) (q : Nat → Nat) (hE : tk_E G c3 s) (hC : tk_C s) (hZ : tk_Z (fun x : Nat => s.heap.size ≤ x) s s.heap) (n : Nat) (ih : law_LS p l e s m below meth c b L xs G c3 q n) (cs ss : Nat) (hc : cs + 2 * n + 2 ≤ 5000) (hs : ss + 12 * n + 12 ≤ 60000) (x3_562 : Int32) (x5_562 : Int32) (x6_562 : Int32) (x9_562 : Int32) (x11_562 : Int32) (k0_562 : Int32) (S : tk_ST) (H : Heap) (locs : List Loc) (hP : va_P G vwCl (tk_H c3 q S) H) (hD : va_D (fun x : Nat => s.heap.size ≤ x) (tk_H c3 q S)) (hS : va_S (fun x : Nat => s.heap.size ≤ x) s.heap H locs) (ls : Array Slot) (hl : lv_has ls 14 [(0, .ref b), (1, .ref (q 0)), (2, .ref (q 17)), (3, .int x3_562), (5, .int x5_562), (6, .int x6_562), (9, .int x9_562), (11, .int x11_562)]) (hf : f_law_562 L xs (f_law_71 L xs n) x3_562 x5_562 x6_562 x9_562 x11_562 k0_562 S = some (1 : Int32)) : W p l e room_1 s m #[Value.ref b] below meth c H locs cs ss (lw_Z below #[Value.ref b] s) (F0 m 562 ls [.int k0_562]) := by
  obtain ⟨hx, hb, hr, hml, hown, hts0, hX, hbl, hlocks, hgv⟩ := id C0
  have hown : s.vm.findClass RL = some m.cls := hown
  have hts := fun w h => hts0 w (wsL_law_in w h)
  have hA : ∀ x : Nat, s.heap.size ≤ x → (fun x : Nat => s.heap.size ≤ x) x := fun _ h => h
  have hbA : ¬ (fun x : Nat => s.heap.size ≤ x) b := Nat.not_le.mpr hbl
  unfold f_law_562 at hf
  refine lv_istore (lv' := [(4, .int k0_562), (0, .ref b), (1, .ref (q 0)), (2, .ref (q 17)), (3, .int x3_562), (5, .int x5_562), (6, .int x6_562), (9, .int x9_562), (11, .int x11_562)]) hx hb dL_law_562 hl (by decide) rfl (fun ls hl => ?_)
  refine lv_iconst (v := 0) hx hb dL_law_564 (by decide) ?_
  refine lv_istore (lv' := [(12, .int (0 : Int32)), (4, .int k0_562), (0, .ref b), (1, .ref (q 0)), (2, .ref (q 17)), (3, .int x3_562), (5, .int x5_562), (6, .int x6_562), (9, .int x9_562), (11, .int x11_562)]) hx hb dL_law_565 hl (by decide) rfl (fun ls hl => ?_)
  exact law_567 l hlst C0 G c3 q hE hC hZ n ih _ _ (by omega) (by omega) 64 x3_562 k0_562 x5_562 x6_562 x9_562 x11_562 (0 : Int32) S H locs hP hD hS ls (lv_sub hl [2, 3, 4, 5, 1, 6, 7, 8, 9, 0] rfl) hf
set_option maxHeartbeats 4000000 in
set_option maxRecDepth 100000 in
theorem law_557 {p : Program} {e : Env} {s : State} {m : MethodId} {below : List Frame} {meth : Method} {c : Code} (l : Launch) (hlst : l.stackTraces = false) {b L : Nat} {xs : Nat → Int32} (C0 : lw_At p s m meth c b L xs) (G : va_G) (c3 : ClassId × ClassId × ClassId) (q : Nat → Nat) (hE : tk_E G c3 s) (hC : tk_C s) (hZ : tk_Z (fun x : Nat => s.heap.size ≤ x) s s.heap) (n : Nat) (ih : law_LS p l e s m below meth c b L xs G c3 q n) (cs ss : Nat) (hc : cs + 2 * n + 2 ≤ 5000) (hs : ss + 12 * n + 12 ≤ 60000) (x3_557 : Int32) (x5_557 : Int32) (x6_557 : Int32) (x9_557 : Int32) (x11_557 : Int32) (S : tk_ST) (H : Heap) (locs : List Loc) (hP : va_P G vwCl (tk_H c3 q S) H) (hD : va_D (fun x : Nat => s.heap.size ≤ x) (tk_H c3 q S)) (hS : va_S (fun x : Nat => s.heap.size ≤ x) s.heap H locs) (ls : Array Slot) (hl : lv_has ls 14 [(0, .ref b), (1, .ref (q 0)), (2, .ref (q 17)), (3, .int x3_557), (5, .int x5_557), (6, .int x6_557), (9, .int x9_557), (11, .int x11_557)]) (hf : f_law_557 L xs (f_law_71 L xs n) x3_557 x5_557 x6_557 x9_557 x11_557 S = some (1 : Int32)) : W p l e room_1 s m #[Value.ref b] below meth c H locs cs ss (lw_Z below #[Value.ref b] s) (F0 m 557 ls []) := by
  obtain ⟨hx, hb, hr, hml, hown, hts0, hX, hbl, hlocks, hgv⟩ := id C0
  have hown : s.vm.findClass RL = some m.cls := hown
  have hts := fun w h => hts0 w (wsL_law_in w h)
  have hA : ∀ x : Nat, s.heap.size ≤ x → (fun x : Nat => s.heap.size ≤ x) x := fun _ h => h
  have hbA : ¬ (fun x : Nat => s.heap.size ≤ x) b := Nat.not_le.mpr hbl
  unfold f_law_557 at hf
  refine lv_iconst (v := 1) hx hb dL_law_557 (by decide) ?_
  refine lv_goto (tgt := 562) hx hb dL_law_558 (by decide) ?_
  exact law_562 l hlst C0 G c3 q hE hC hZ n ih _ _ (by omega) (by omega) x3_557 x5_557 x6_557 x9_557 x11_557 (1 : Int32) S H locs hP hD hS ls (lv_sub hl [0, 1, 2, 3, 4, 5, 6, 7] rfl) hf
set_option maxHeartbeats 4000000 in
set_option maxRecDepth 100000 in
theorem law_561 {p : Program} {e : Env} {s : State} {m : MethodId} {below : List Frame} {meth : Method} {c : Code} (l : Launch) (hlst : l.stackTraces = false) {b L : Nat} {xs : Nat → Int32} (C0 : lw_At p s m meth c b L xs) (G : va_G) (c3 : ClassId × ClassId × ClassId) (q : Nat → Nat) (hE : tk_E G c3 s) (hC : tk_C s) (hZ : tk_Z (fun x : Nat => s.heap.size ≤ x) s s.heap) (n : Nat) (ih : law_LS p l e s m below meth c b L xs G c3 q n) (cs ss : Nat) (hc : cs + 2 * n + 2 ≤ 5000) (hs : ss + 12 * n + 12 ≤ 60000) (x3_561 : Int32) (x5_561 : Int32) (x6_561 : Int32) (x9_561 : Int32) (x11_561 : Int32) (S : tk_ST) (H : Heap) (locs : List Loc) (hP : va_P G vwCl (tk_H c3 q S) H) (hD : va_D (fun x : Nat => s.heap.size ≤ x) (tk_H c3 q S)) (hS : va_S (fun x : Nat => s.heap.size ≤ x) s.heap H locs) (ls : Array Slot) (hl : lv_has ls 14 [(0, .ref b), (1, .ref (q 0)), (2, .ref (q 17)), (3, .int x3_561), (5, .int x5_561), (6, .int x6_561), (9, .int x9_561), (11, .int x11_561)]) (hf : f_law_561 L xs (f_law_71 L xs n) x3_561 x5_561 x6_561 x9_561 x11_561 S = some (1 : Int32)) : W p l e room_1 s m #[Value.ref b] below meth c H locs cs ss (lw_Z below #[Value.ref b] s) (F0 m 561 ls []) := by
  obtain ⟨hx, hb, hr, hml, hown, hts0, hX, hbl, hlocks, hgv⟩ := id C0
  have hown : s.vm.findClass RL = some m.cls := hown
  have hts := fun w h => hts0 w (wsL_law_in w h)
  have hA : ∀ x : Nat, s.heap.size ≤ x → (fun x : Nat => s.heap.size ≤ x) x := fun _ h => h
  have hbA : ¬ (fun x : Nat => s.heap.size ≤ x) b := Nat.not_le.mpr hbl
  unfold f_law_561 at hf
  refine lv_iconst (v := 0) hx hb dL_law_561 (by decide) ?_
  exact law_562 l hlst C0 G c3 q hE hC hZ n ih _ _ (by omega) (by omega) x3_561 x5_561 x6_561 x9_561 x11_561 (0 : Int32) S H locs hP hD hS ls (lv_sub hl [0, 1, 2, 3, 4, 5, 6, 7] rfl) hf
set_option maxHeartbeats 4000000 in
set_option maxRecDepth 100000 in
theorem law_722 {p : Program} {e : Env} {s : State} {m : MethodId} {below : List Frame} {meth : Method} {c : Code} (l : Launch) (hlst : l.stackTraces = false) {b L : Nat} {xs : Nat → Int32} (C0 : lw_At p s m meth c b L xs) (G : va_G) (c3 : ClassId × ClassId × ClassId) (q : Nat → Nat) (hE : tk_E G c3 s) (hC : tk_C s) (hZ : tk_Z (fun x : Nat => s.heap.size ≤ x) s s.heap) (n : Nat) (ih : law_LS p l e s m below meth c b L xs G c3 q n) (cs ss : Nat) (hc : cs + 2 * n + 2 ≤ 5000) (hs : ss + 12 * n + 12 ≤ 60000) (x3_722 : Int32) (x5_722 : Int32) (x6_722 : Int32) (x9_722 : Int32) (k0_722 : Int32) (S : tk_ST) (H : Heap) (locs : List Loc) (hP : va_P G vwCl (tk_H c3 q S) H) (hD : va_D (fun x : Nat => s.heap.size ≤ x) (tk_H c3 q S)) (hS : va_S (fun x : Nat => s.heap.size ≤ x) s.heap H locs) (ls : Array Slot) (hl : lv_has ls 14 [(0, .ref b), (1, .ref (q 0)), (2, .ref (q 17)), (3, .int x3_722), (5, .int x5_722), (6, .int x6_722), (9, .int x9_722)]) (hf : f_law_722 L xs (f_law_71 L xs n) x3_722 x5_722 x6_722 x9_722 k0_722 S = some (1 : Int32)) : W p l e room_1 s m #[Value.ref b] below meth c H locs cs ss (lw_Z below #[Value.ref b] s) (F0 m 722 ls [.int k0_722]) := by
  obtain ⟨hx, hb, hr, hml, hown, hts0, hX, hbl, hlocks, hgv⟩ := id C0
  have hown : s.vm.findClass RL = some m.cls := hown
  have hts := fun w h => hts0 w (wsL_law_in w h)
  have hA : ∀ x : Nat, s.heap.size ≤ x → (fun x : Nat => s.heap.size ≤ x) x := fun _ h => h
  have hbA : ¬ (fun x : Nat => s.heap.size ≤ x) b := Nat.not_le.mpr hbl
  unfold f_law_722 at hf
  refine lv_istore (lv' := [(4, .int k0_722), (0, .ref b), (1, .ref (q 0)), (2, .ref (q 17)), (3, .int x3_722), (5, .int x5_722), (6, .int x6_722), (9, .int x9_722)]) hx hb dL_law_722 hl (by decide) rfl (fun ls hl => ?_)
  refine lv_goto (tgt := 1043) hx hb dL_law_724 (by decide) ?_
  exact law_1043 l hlst C0 G c3 q hE hC hZ n ih _ _ (by omega) (by omega) x3_722 k0_722 x5_722 x6_722 x9_722 S H locs hP hD hS ls (lv_sub hl [1, 2, 3, 4, 0, 5, 6, 7] rfl) hf
set_option maxHeartbeats 4000000 in
set_option maxRecDepth 100000 in
theorem law_721 {p : Program} {e : Env} {s : State} {m : MethodId} {below : List Frame} {meth : Method} {c : Code} (l : Launch) (hlst : l.stackTraces = false) {b L : Nat} {xs : Nat → Int32} (C0 : lw_At p s m meth c b L xs) (G : va_G) (c3 : ClassId × ClassId × ClassId) (q : Nat → Nat) (hE : tk_E G c3 s) (hC : tk_C s) (hZ : tk_Z (fun x : Nat => s.heap.size ≤ x) s s.heap) (n : Nat) (ih : law_LS p l e s m below meth c b L xs G c3 q n) (cs ss : Nat) (hc : cs + 2 * n + 2 ≤ 5000) (hs : ss + 12 * n + 12 ≤ 60000) (x3_721 : Int32) (x5_721 : Int32) (x6_721 : Int32) (x9_721 : Int32) (S : tk_ST) (H : Heap) (locs : List Loc) (hP : va_P G vwCl (tk_H c3 q S) H) (hD : va_D (fun x : Nat => s.heap.size ≤ x) (tk_H c3 q S)) (hS : va_S (fun x : Nat => s.heap.size ≤ x) s.heap H locs) (ls : Array Slot) (hl : lv_has ls 14 [(0, .ref b), (1, .ref (q 0)), (2, .ref (q 17)), (3, .int x3_721), (5, .int x5_721), (6, .int x6_721), (9, .int x9_721)]) (hf : f_law_721 L xs (f_law_71 L xs n) x3_721 x5_721 x6_721 x9_721 S = some (1 : Int32)) : W p l e room_1 s m #[Value.ref b] below meth c H locs cs ss (lw_Z below #[Value.ref b] s) (F0 m 721 ls []) := by
  obtain ⟨hx, hb, hr, hml, hown, hts0, hX, hbl, hlocks, hgv⟩ := id C0
  have hown : s.vm.findClass RL = some m.cls := hown
  have hts := fun w h => hts0 w (wsL_law_in w h)
  have hA : ∀ x : Nat, s.heap.size ≤ x → (fun x : Nat => s.heap.size ≤ x) x := fun _ h => h
  have hbA : ¬ (fun x : Nat => s.heap.size ≤ x) b := Nat.not_le.mpr hbl
  unfold f_law_721 at hf
  refine lv_iconst (v := 0) hx hb dL_law_721 (by decide) ?_
  exact law_722 l hlst C0 G c3 q hE hC hZ n ih _ _ (by omega) (by omega) x3_721 x5_721 x6_721 x9_721 (0 : Int32) S H locs hP hD hS ls (lv_sub hl [0, 1, 2, 3, 4, 5, 6] rfl) hf
set_option maxHeartbeats 4000000 in
set_option maxRecDepth 100000 in
theorem law_650 {p : Program} {e : Env} {s : State} {m : MethodId} {below : List Frame} {meth : Method} {c : Code} (l : Launch) (hlst : l.stackTraces = false) {b L : Nat} {xs : Nat → Int32} (C0 : lw_At p s m meth c b L xs) (G : va_G) (c3 : ClassId × ClassId × ClassId) (q : Nat → Nat) (hE : tk_E G c3 s) (hC : tk_C s) (hZ : tk_Z (fun x : Nat => s.heap.size ≤ x) s s.heap) (n : Nat) (ih : law_LS p l e s m below meth c b L xs G c3 q n) (cs ss : Nat) (hc : cs + 2 * n + 2 ≤ 5000) (hs : ss + 12 * n + 12 ≤ 60000) (x3_650 : Int32) (x5_650 : Int32) (x6_650 : Int32) (x8_650 : Int32) (x9_650 : Int32) (k0_650 : Int32) (S : tk_ST) (H : Heap) (locs : List Loc) (hP : va_P G vwCl (tk_H c3 q S) H) (hD : va_D (fun x : Nat => s.heap.size ≤ x) (tk_H c3 q S)) (hS : va_S (fun x : Nat => s.heap.size ≤ x) s.heap H locs) (ls : Array Slot) (hl : lv_has ls 14 [(0, .ref b), (1, .ref (q 0)), (2, .ref (q 17)), (3, .int x3_650), (5, .int x5_650), (6, .int x6_650), (8, .int x8_650), (9, .int x9_650)]) (hf : f_law_650 L xs (f_law_71 L xs n) x3_650 x5_650 x6_650 x8_650 x9_650 k0_650 S = some (1 : Int32)) : W p l e room_1 s m #[Value.ref b] below meth c H locs cs ss (lw_Z below #[Value.ref b] s) (F0 m 650 ls [.int k0_650]) := by
  obtain ⟨hx, hb, hr, hml, hown, hts0, hX, hbl, hlocks, hgv⟩ := id C0
  have hown : s.vm.findClass RL = some m.cls := hown
  have hts := fun w h => hts0 w (wsL_law_in w h)
  have hA : ∀ x : Nat, s.heap.size ≤ x → (fun x : Nat => s.heap.size ≤ x) x := fun _ h => h
  have hbA : ¬ (fun x : Nat => s.heap.size ≤ x) b := Nat.not_le.mpr hbl
  unfold f_law_650 at hf
  refine lv_istore (lv' := [(10, .int k0_650), (0, .ref b), (1, .ref (q 0)), (2, .ref (q 17)), (3, .int x3_650), (5, .int x5_650), (6, .int x6_650), (8, .int x8_650), (9, .int x9_650)]) hx hb dL_law_650 hl (by decide) rfl (fun ls hl => ?_)
  refine lv_aload_n hx hb dL_law_652 rfl (lv_at hl 2 rfl) ?_
  refine lv_iload hx hb dL_law_653 (lv_at hl 7 rfl) ?_
  refine lv_bipush (v := 6) hx hb dL_law_655 (by decide) ?_
  refine lv_iload hx hb dL_law_657 (lv_at hl 0 rfl) ?_
  obtain ⟨h1, hf⟩ := tk_ok hf
  refine lv_idiv hx hb dL_law_659 h1 ?_
  obtain ⟨h2, hf⟩ := tk_ok hf
  refine tk_irem hx hb dL_law_660 h2 ?_
  obtain ⟨r3, S5, h4, hf⟩ := tk_b2s hf
  refine tk_ci (ws' := (tk_H c3 q S5)) (va_runV (As := [.int (tk_rem x8_650 ((6 : Int32) / k0_650))]) (rest := []) ⟨hx, hb, hml, hown, hts⟩ (c0_X6_take l G c3 q S (tk_rem x8_650 ((6 : Int32) / k0_650)) r3 S5 h4 H.size) (cwV 1 hts gL_law_X6_take rfl rfl rfl hv_X6_take ⟨Nat.le_of_ble_eq_true rfl, Nat.le_of_ble_eq_true rfl⟩) (tk_pV hE hP hD 0 rfl rfl) rfl rfl hl.1 rfl (lv_room (Nat.le_of_ble_eq_true rfl)) dL_law_661 (tk_rm0 (by omega) (by omega))) hD hS hA (fun H locs hP hD hS => ?_)
  refine lv_iload hx hb dL_law_664 (lv_at hl 0 rfl) ?_
  refine lv_icmp_ne (tgt := 721) hx hb dL_law_666 (by decide) (fun h6 => ?_) (fun h6 => ?_)
  · have hf := tk_neg hf h6
    exact law_721 l hlst C0 G c3 q hE hC hZ n ih _ _ (by omega) (by omega) x3_650 x5_650 x6_650 x9_650 S5 H locs hP hD hS ls (lv_sub hl [1, 2, 3, 4, 5, 6, 8] rfl) hf
  · have hf := tk_pos hf h6
    refine lv_aload_n hx hb dL_law_669 rfl (lv_at hl 2 rfl) ?_
    refine lv_aload_n hx hb dL_law_670 rfl (lv_at hl 2 rfl) ?_
    obtain ⟨r7, h8, hf⟩ := tk_b1s hf
    refine tk_ci (ws' := (tk_H c3 q S5)) (va_runV (As := []) (rest := [.ref (q 0)]) ⟨hx, hb, hml, hown, hts⟩ (c_X6_declarer l G c3 q S5 r7 h8 H.size) (cwV 0 hts gL_law_X6_declarer rfl rfl rfl hv_X6_declarer ⟨Nat.le_of_ble_eq_true rfl, Nat.le_of_ble_eq_true rfl⟩) (tk_pV hE hP hD 0 rfl rfl) rfl rfl hl.1 rfl (lv_room (Nat.le_of_ble_eq_true rfl)) dL_law_671 (tk_rm0 (by omega) (by omega))) hD hS hA (fun H locs hP hD hS => ?_)
    obtain ⟨r10, h11, hf⟩ := tk_b1s hf
    refine tk_cl (ws' := (tk_H c3 q S5)) (va_runV (As := [.int r7]) (rest := []) ⟨hx, hb, hml, hown, hts⟩ (c0_X6_hand l G c3 q S5 r7 r10 h11 H.size) (cwV 1 hts gL_law_X6_hand rfl rfl rfl hv_X6_hand ⟨Nat.le_of_ble_eq_true rfl, Nat.le_of_ble_eq_true rfl⟩) (tk_pV hE hP hD 0 rfl rfl) rfl rfl hl.1 rfl (lv_room (Nat.le_of_ble_eq_true rfl)) dL_law_674 (tk_rm0 (by omega) (by omega))) hD hS hA (fun H locs hP hD hS => ?_)
    obtain ⟨r13, h14, hf⟩ := tk_b1s hf
    refine tk_ci (ws' := (tk_H c3 q S5)) (va_runS (As := [.long r10]) (rest := []) ⟨hx, hb, hml, hown, hts⟩ (c_L_bits l G c3 (tk_H c3 q S5) r10 r13 h14 H.size) (va_cwS 1 hts gL_law_L_bits rfl rfl rfl hs_L_bits ⟨Nat.le_of_ble_eq_true rfl, Nat.le_of_ble_eq_true rfl⟩) (tk_pS hE hP hD) rfl rfl hl.1 rfl (lv_room (Nat.le_of_ble_eq_true rfl)) dL_law_677 (tk_rm0 (by omega) (by omega))) hD hS hA (fun H locs hP hD hS => ?_)
    refine lv_bipush (v := 12) hx hb dL_law_680 (by decide) ?_
    refine lv_iload hx hb dL_law_682 (lv_at hl 0 rfl) ?_
    refine lv_iadd hx hb dL_law_684 ?_
    refine lv_icmp_ne (tgt := 721) hx hb dL_law_685 (by decide) (fun h16 => ?_) (fun h16 => ?_)
    · have hf := tk_neg hf h16
      exact law_721 l hlst C0 G c3 q hE hC hZ n ih _ _ (by omega) (by omega) x3_650 x5_650 x6_650 x9_650 S5 H locs hP hD hS ls (lv_sub hl [1, 2, 3, 4, 5, 6, 8] rfl) hf
    · have hf := tk_pos hf h16
      refine lv_aload_n hx hb dL_law_688 rfl (lv_at hl 2 rfl) ?_
      refine lv_aload_n hx hb dL_law_689 rfl (lv_at hl 2 rfl) ?_
      obtain ⟨r17, h18, hf⟩ := tk_b1s hf
      refine tk_ci (ws' := (tk_H c3 q S5)) (va_runV (As := []) (rest := [.ref (q 0)]) ⟨hx, hb, hml, hown, hts⟩ (c_X6_declarer l G c3 q S5 r17 h18 H.size) (cwV 0 hts gL_law_X6_declarer rfl rfl rfl hv_X6_declarer ⟨Nat.le_of_ble_eq_true rfl, Nat.le_of_ble_eq_true rfl⟩) (tk_pV hE hP hD 0 rfl rfl) rfl rfl hl.1 rfl (lv_room (Nat.le_of_ble_eq_true rfl)) dL_law_690 (tk_rm0 (by omega) (by omega))) hD hS hA (fun H locs hP hD hS => ?_)
      obtain ⟨r20, h21, hf⟩ := tk_b1s hf
      refine tk_cl (ws' := (tk_H c3 q S5)) (va_runV (As := [.int r17]) (rest := []) ⟨hx, hb, hml, hown, hts⟩ (c0_X6_hand l G c3 q S5 r17 r20 h21 H.size) (cwV 1 hts gL_law_X6_hand rfl rfl rfl hv_X6_hand ⟨Nat.le_of_ble_eq_true rfl, Nat.le_of_ble_eq_true rfl⟩) (tk_pV hE hP hD 0 rfl rfl) rfl rfl hl.1 rfl (lv_room (Nat.le_of_ble_eq_true rfl)) dL_law_693 (tk_rm0 (by omega) (by omega))) hD hS hA (fun H locs hP hD hS => ?_)
      refine lv_aload_n hx hb dL_law_696 rfl (lv_at hl 2 rfl) ?_
      refine lv_iload hx hb dL_law_697 (lv_at hl 7 rfl) ?_
      refine lv_bipush (v := 6) hx hb dL_law_699 (by decide) ?_
      refine lv_iload hx hb dL_law_701 (lv_at hl 0 rfl) ?_
      obtain ⟨h23, hf⟩ := tk_ok hf
      refine lv_idiv hx hb dL_law_703 h23 ?_
      obtain ⟨h24, hf⟩ := tk_ok hf
      refine tk_irem hx hb dL_law_704 h24 ?_
      refine lv_iload hx hb dL_law_705 (lv_at hl 0 rfl) ?_
      refine lv_imul hx hb dL_law_707 ?_
      obtain ⟨r25, h26, hf⟩ := tk_b1s hf
      refine tk_ci (ws' := (tk_H c3 q S5)) (va_runV (As := [.int ((tk_rem x8_650 ((6 : Int32) / k0_650)) * k0_650)]) (rest := [.long r20]) ⟨hx, hb, hml, hown, hts⟩ (c0_X6_talonAt l G c3 q S5 ((tk_rem x8_650 ((6 : Int32) / k0_650)) * k0_650) r25 h26 H.size) (cwV 1 hts gL_law_X6_talonAt rfl rfl rfl hv_X6_talonAt ⟨Nat.le_of_ble_eq_true rfl, Nat.le_of_ble_eq_true rfl⟩) (tk_pV hE hP hD 0 rfl rfl) rfl rfl hl.1 rfl (lv_room (Nat.le_of_ble_eq_true rfl)) dL_law_708 (tk_rm0 (by omega) (by omega))) hD hS hA (fun H locs hP hD hS => ?_)
      obtain ⟨r28, h29, hf⟩ := tk_b1s hf
      refine tk_ci (ws' := (tk_H c3 q S5)) (va_runS (As := [.long r20, .int r25]) (rest := []) ⟨hx, hb, hml, hown, hts⟩ (c_L_has l G c3 (tk_H c3 q S5) r20 r25 r28 h29 H.size) (va_cwS 2 hts gL_law_L_has rfl rfl rfl hs_L_has ⟨Nat.le_of_ble_eq_true rfl, Nat.le_of_ble_eq_true rfl⟩) (tk_pS hE hP hD) rfl rfl hl.1 rfl (lv_room (Nat.le_of_ble_eq_true rfl)) dL_law_711 (tk_rm0 (by omega) (by omega))) hD hS hA (fun H locs hP hD hS => ?_)
      refine lv_if_eq (tgt := 721) hx hb dL_law_714 (by decide) (fun h31 => ?_) (fun h31 => ?_)
      · have hf := tk_pos hf h31
        exact law_721 l hlst C0 G c3 q hE hC hZ n ih _ _ (by omega) (by omega) x3_650 x5_650 x6_650 x9_650 S5 H locs hP hD hS ls (lv_sub hl [1, 2, 3, 4, 5, 6, 8] rfl) hf
      · have hf := tk_neg hf h31
        refine lv_iconst (v := 1) hx hb dL_law_717 (by decide) ?_
        refine lv_goto (tgt := 722) hx hb dL_law_718 (by decide) ?_
        exact law_722 l hlst C0 G c3 q hE hC hZ n ih _ _ (by omega) (by omega) x3_650 x5_650 x6_650 x9_650 (1 : Int32) S5 H locs hP hD hS ls (lv_sub hl [1, 2, 3, 4, 5, 6, 8] rfl) hf
set_option maxHeartbeats 4000000 in
set_option maxRecDepth 100000 in
theorem law_868 {p : Program} {e : Env} {s : State} {m : MethodId} {below : List Frame} {meth : Method} {c : Code} (l : Launch) (hlst : l.stackTraces = false) {b L : Nat} {xs : Nat → Int32} (C0 : lw_At p s m meth c b L xs) (G : va_G) (c3 : ClassId × ClassId × ClassId) (q : Nat → Nat) (hE : tk_E G c3 s) (hC : tk_C s) (hZ : tk_Z (fun x : Nat => s.heap.size ≤ x) s s.heap) (n : Nat) (ih : law_LS p l e s m below meth c b L xs G c3 q n) (cs ss : Nat) (hc : cs + 2 * n + 1 ≤ 5000) (hs : ss + 12 * n + 6 ≤ 60000) (x3_868 : Int32) (x5_868 : Int32) (x6_868 : Int32) (x9_868 : Int32) (k0_868 : Int32) (S : tk_ST) (H : Heap) (locs : List Loc) (hP : va_P G vwCl (tk_H c3 q S) H) (hD : va_D (fun x : Nat => s.heap.size ≤ x) (tk_H c3 q S)) (hS : va_S (fun x : Nat => s.heap.size ≤ x) s.heap H locs) (ls : Array Slot) (hl : lv_has ls 14 [(0, .ref b), (1, .ref (q 0)), (2, .ref (q 17)), (3, .int x3_868), (5, .int x5_868), (6, .int x6_868), (9, .int x9_868)]) (hf : f_law_868 L xs (f_law_71 L xs n) x3_868 x5_868 x6_868 x9_868 k0_868 S = some (1 : Int32)) : W p l e room_1 s m #[Value.ref b] below meth c H locs cs ss (lw_Z below #[Value.ref b] s) (F0 m 868 ls [.int k0_868]) := by
  obtain ⟨hx, hb, hr, hml, hown, hts0, hX, hbl, hlocks, hgv⟩ := id C0
  have hown : s.vm.findClass RL = some m.cls := hown
  have hts := fun w h => hts0 w (wsL_law_in w h)
  have hA : ∀ x : Nat, s.heap.size ≤ x → (fun x : Nat => s.heap.size ≤ x) x := fun _ h => h
  have hbA : ¬ (fun x : Nat => s.heap.size ≤ x) b := Nat.not_le.mpr hbl
  unfold f_law_868 at hf
  refine lv_istore (lv' := [(4, .int k0_868), (0, .ref b), (1, .ref (q 0)), (2, .ref (q 17)), (3, .int x3_868), (5, .int x5_868), (6, .int x6_868), (9, .int x9_868)]) hx hb dL_law_868 hl (by decide) rfl (fun ls hl => ?_)
  refine lv_goto (tgt := 1043) hx hb dL_law_870 (by decide) ?_
  exact law_1043 l hlst C0 G c3 q hE hC hZ n ih _ _ (by omega) (by omega) x3_868 k0_868 x5_868 x6_868 x9_868 S H locs hP hD hS ls (lv_sub hl [1, 2, 3, 4, 0, 5, 6, 7] rfl) hf
set_option maxHeartbeats 4000000 in
set_option maxRecDepth 100000 in
theorem law_795 {p : Program} {e : Env} {s : State} {m : MethodId} {below : List Frame} {meth : Method} {c : Code} (l : Launch) (hlst : l.stackTraces = false) {b L : Nat} {xs : Nat → Int32} (C0 : lw_At p s m meth c b L xs) (G : va_G) (c3 : ClassId × ClassId × ClassId) (q : Nat → Nat) (hE : tk_E G c3 s) (hC : tk_C s) (hZ : tk_Z (fun x : Nat => s.heap.size ≤ x) s s.heap) (n : Nat) (ih : law_LS p l e s m below meth c b L xs G c3 q n) (cs ss : Nat) (hc : cs + 2 * n + 1 ≤ 5000) (hs : ss + 12 * n + 6 ≤ 60000) (x3_795 : Int32) (x5_795 : Int32) (x6_795 : Int32) (x9_795 : Int32) (S : tk_ST) (H : Heap) (locs : List Loc) (hP : va_P G vwCl (tk_H c3 q S) H) (hD : va_D (fun x : Nat => s.heap.size ≤ x) (tk_H c3 q S)) (hS : va_S (fun x : Nat => s.heap.size ≤ x) s.heap H locs) (ls : Array Slot) (hl : lv_has ls 14 [(0, .ref b), (1, .ref (q 0)), (2, .ref (q 17)), (3, .int x3_795), (5, .int x5_795), (6, .int x6_795), (9, .int x9_795)]) (hf : f_law_795 L xs (f_law_71 L xs n) x3_795 x5_795 x6_795 x9_795 S = some (1 : Int32)) : W p l e room_1 s m #[Value.ref b] below meth c H locs cs ss (lw_Z below #[Value.ref b] s) (F0 m 795 ls []) := by
  obtain ⟨hx, hb, hr, hml, hown, hts0, hX, hbl, hlocks, hgv⟩ := id C0
  have hown : s.vm.findClass RL = some m.cls := hown
  have hts := fun w h => hts0 w (wsL_law_in w h)
  have hA : ∀ x : Nat, s.heap.size ≤ x → (fun x : Nat => s.heap.size ≤ x) x := fun _ h => h
  have hbA : ¬ (fun x : Nat => s.heap.size ≤ x) b := Nat.not_le.mpr hbl
  unfold f_law_795 at hf
  refine lv_iconst (v := 0) hx hb dL_law_795 (by decide) ?_
  refine lv_goto (tgt := 868) hx hb dL_law_796 (by decide) ?_
  exact law_868 l hlst C0 G c3 q hE hC hZ n ih _ _ (by omega) (by omega) x3_795 x5_795 x6_795 x9_795 (0 : Int32) S H locs hP hD hS ls (lv_sub hl [0, 1, 2, 3, 4, 5, 6] rfl) hf
set_option maxHeartbeats 4000000 in
set_option maxRecDepth 100000 in
theorem law_863 {p : Program} {e : Env} {s : State} {m : MethodId} {below : List Frame} {meth : Method} {c : Code} (l : Launch) (hlst : l.stackTraces = false) {b L : Nat} {xs : Nat → Int32} (C0 : lw_At p s m meth c b L xs) (G : va_G) (c3 : ClassId × ClassId × ClassId) (q : Nat → Nat) (hE : tk_E G c3 s) (hC : tk_C s) (hZ : tk_Z (fun x : Nat => s.heap.size ≤ x) s s.heap) (n : Nat) (ih : law_LS p l e s m below meth c b L xs G c3 q n) (cs ss : Nat) (hc : cs + 2 * n + 1 ≤ 5000) (hs : ss + 12 * n + 6 ≤ 60000) (x3_863 : Int32) (x5_863 : Int32) (x6_863 : Int32) (x9_863 : Int32) (S : tk_ST) (H : Heap) (locs : List Loc) (hP : va_P G vwCl (tk_H c3 q S) H) (hD : va_D (fun x : Nat => s.heap.size ≤ x) (tk_H c3 q S)) (hS : va_S (fun x : Nat => s.heap.size ≤ x) s.heap H locs) (ls : Array Slot) (hl : lv_has ls 14 [(0, .ref b), (1, .ref (q 0)), (2, .ref (q 17)), (3, .int x3_863), (5, .int x5_863), (6, .int x6_863), (9, .int x9_863)]) (hf : f_law_863 L xs (f_law_71 L xs n) x3_863 x5_863 x6_863 x9_863 S = some (1 : Int32)) : W p l e room_1 s m #[Value.ref b] below meth c H locs cs ss (lw_Z below #[Value.ref b] s) (F0 m 863 ls []) := by
  obtain ⟨hx, hb, hr, hml, hown, hts0, hX, hbl, hlocks, hgv⟩ := id C0
  have hown : s.vm.findClass RL = some m.cls := hown
  have hts := fun w h => hts0 w (wsL_law_in w h)
  have hA : ∀ x : Nat, s.heap.size ≤ x → (fun x : Nat => s.heap.size ≤ x) x := fun _ h => h
  have hbA : ¬ (fun x : Nat => s.heap.size ≤ x) b := Nat.not_le.mpr hbl
  unfold f_law_863 at hf
  refine lv_iconst (v := 1) hx hb dL_law_863 (by decide) ?_
  refine lv_goto (tgt := 868) hx hb dL_law_864 (by decide) ?_
  exact law_868 l hlst C0 G c3 q hE hC hZ n ih _ _ (by omega) (by omega) x3_863 x5_863 x6_863 x9_863 (1 : Int32) S H locs hP hD hS ls (lv_sub hl [0, 1, 2, 3, 4, 5, 6] rfl) hf
set_option maxHeartbeats 4000000 in
set_option maxRecDepth 100000 in
theorem law_867 {p : Program} {e : Env} {s : State} {m : MethodId} {below : List Frame} {meth : Method} {c : Code} (l : Launch) (hlst : l.stackTraces = false) {b L : Nat} {xs : Nat → Int32} (C0 : lw_At p s m meth c b L xs) (G : va_G) (c3 : ClassId × ClassId × ClassId) (q : Nat → Nat) (hE : tk_E G c3 s) (hC : tk_C s) (hZ : tk_Z (fun x : Nat => s.heap.size ≤ x) s s.heap) (n : Nat) (ih : law_LS p l e s m below meth c b L xs G c3 q n) (cs ss : Nat) (hc : cs + 2 * n + 1 ≤ 5000) (hs : ss + 12 * n + 6 ≤ 60000) (x3_867 : Int32) (x5_867 : Int32) (x6_867 : Int32) (x9_867 : Int32) (S : tk_ST) (H : Heap) (locs : List Loc) (hP : va_P G vwCl (tk_H c3 q S) H) (hD : va_D (fun x : Nat => s.heap.size ≤ x) (tk_H c3 q S)) (hS : va_S (fun x : Nat => s.heap.size ≤ x) s.heap H locs) (ls : Array Slot) (hl : lv_has ls 14 [(0, .ref b), (1, .ref (q 0)), (2, .ref (q 17)), (3, .int x3_867), (5, .int x5_867), (6, .int x6_867), (9, .int x9_867)]) (hf : f_law_867 L xs (f_law_71 L xs n) x3_867 x5_867 x6_867 x9_867 S = some (1 : Int32)) : W p l e room_1 s m #[Value.ref b] below meth c H locs cs ss (lw_Z below #[Value.ref b] s) (F0 m 867 ls []) := by
  obtain ⟨hx, hb, hr, hml, hown, hts0, hX, hbl, hlocks, hgv⟩ := id C0
  have hown : s.vm.findClass RL = some m.cls := hown
  have hts := fun w h => hts0 w (wsL_law_in w h)
  have hA : ∀ x : Nat, s.heap.size ≤ x → (fun x : Nat => s.heap.size ≤ x) x := fun _ h => h
  have hbA : ¬ (fun x : Nat => s.heap.size ≤ x) b := Nat.not_le.mpr hbl
  unfold f_law_867 at hf
  refine lv_iconst (v := 0) hx hb dL_law_867 (by decide) ?_
  exact law_868 l hlst C0 G c3 q hE hC hZ n ih _ _ (by omega) (by omega) x3_867 x5_867 x6_867 x9_867 (0 : Int32) S H locs hP hD hS ls (lv_sub hl [0, 1, 2, 3, 4, 5, 6] rfl) hf
set_option maxHeartbeats 4000000 in
set_option maxRecDepth 100000 in
theorem law_963 {p : Program} {e : Env} {s : State} {m : MethodId} {below : List Frame} {meth : Method} {c : Code} (l : Launch) (hlst : l.stackTraces = false) {b L : Nat} {xs : Nat → Int32} (C0 : lw_At p s m meth c b L xs) (G : va_G) (c3 : ClassId × ClassId × ClassId) (q : Nat → Nat) (hE : tk_E G c3 s) (hC : tk_C s) (hZ : tk_Z (fun x : Nat => s.heap.size ≤ x) s s.heap) (n : Nat) (ih : law_LS p l e s m below meth c b L xs G c3 q n) (cs ss : Nat) (hc : cs + 2 * n + 0 ≤ 5000) (hs : ss + 12 * n + 0 ≤ 60000) (x3_963 : Int32) (x5_963 : Int32) (x6_963 : Int32) (x9_963 : Int32) (k0_963 : Int32) (S : tk_ST) (H : Heap) (locs : List Loc) (hP : va_P G vwCl (tk_H c3 q S) H) (hD : va_D (fun x : Nat => s.heap.size ≤ x) (tk_H c3 q S)) (hS : va_S (fun x : Nat => s.heap.size ≤ x) s.heap H locs) (ls : Array Slot) (hl : lv_has ls 14 [(0, .ref b), (1, .ref (q 0)), (2, .ref (q 17)), (3, .int x3_963), (5, .int x5_963), (6, .int x6_963), (9, .int x9_963)]) (hf : f_law_963 L xs (f_law_71 L xs n) x3_963 x5_963 x6_963 x9_963 k0_963 S = some (1 : Int32)) : W p l e room_1 s m #[Value.ref b] below meth c H locs cs ss (lw_Z below #[Value.ref b] s) (F0 m 963 ls [.int k0_963]) := by
  obtain ⟨hx, hb, hr, hml, hown, hts0, hX, hbl, hlocks, hgv⟩ := id C0
  have hown : s.vm.findClass RL = some m.cls := hown
  have hts := fun w h => hts0 w (wsL_law_in w h)
  have hA : ∀ x : Nat, s.heap.size ≤ x → (fun x : Nat => s.heap.size ≤ x) x := fun _ h => h
  have hbA : ¬ (fun x : Nat => s.heap.size ≤ x) b := Nat.not_le.mpr hbl
  unfold f_law_963 at hf
  refine lv_istore (lv' := [(4, .int k0_963), (0, .ref b), (1, .ref (q 0)), (2, .ref (q 17)), (3, .int x3_963), (5, .int x5_963), (6, .int x6_963), (9, .int x9_963)]) hx hb dL_law_963 hl (by decide) rfl (fun ls hl => ?_)
  refine lv_goto (tgt := 1043) hx hb dL_law_965 (by decide) ?_
  exact law_1043 l hlst C0 G c3 q hE hC hZ n ih _ _ (by omega) (by omega) x3_963 k0_963 x5_963 x6_963 x9_963 S H locs hP hD hS ls (lv_sub hl [1, 2, 3, 4, 0, 5, 6, 7] rfl) hf
set_option maxHeartbeats 4000000 in
set_option maxRecDepth 100000 in
theorem law_958 {p : Program} {e : Env} {s : State} {m : MethodId} {below : List Frame} {meth : Method} {c : Code} (l : Launch) (hlst : l.stackTraces = false) {b L : Nat} {xs : Nat → Int32} (C0 : lw_At p s m meth c b L xs) (G : va_G) (c3 : ClassId × ClassId × ClassId) (q : Nat → Nat) (hE : tk_E G c3 s) (hC : tk_C s) (hZ : tk_Z (fun x : Nat => s.heap.size ≤ x) s s.heap) (n : Nat) (ih : law_LS p l e s m below meth c b L xs G c3 q n) (cs ss : Nat) (hc : cs + 2 * n + 0 ≤ 5000) (hs : ss + 12 * n + 0 ≤ 60000) (x3_958 : Int32) (x5_958 : Int32) (x6_958 : Int32) (x9_958 : Int32) (S : tk_ST) (H : Heap) (locs : List Loc) (hP : va_P G vwCl (tk_H c3 q S) H) (hD : va_D (fun x : Nat => s.heap.size ≤ x) (tk_H c3 q S)) (hS : va_S (fun x : Nat => s.heap.size ≤ x) s.heap H locs) (ls : Array Slot) (hl : lv_has ls 14 [(0, .ref b), (1, .ref (q 0)), (2, .ref (q 17)), (3, .int x3_958), (5, .int x5_958), (6, .int x6_958), (9, .int x9_958)]) (hf : f_law_958 L xs (f_law_71 L xs n) x3_958 x5_958 x6_958 x9_958 S = some (1 : Int32)) : W p l e room_1 s m #[Value.ref b] below meth c H locs cs ss (lw_Z below #[Value.ref b] s) (F0 m 958 ls []) := by
  obtain ⟨hx, hb, hr, hml, hown, hts0, hX, hbl, hlocks, hgv⟩ := id C0
  have hown : s.vm.findClass RL = some m.cls := hown
  have hts := fun w h => hts0 w (wsL_law_in w h)
  have hA : ∀ x : Nat, s.heap.size ≤ x → (fun x : Nat => s.heap.size ≤ x) x := fun _ h => h
  have hbA : ¬ (fun x : Nat => s.heap.size ≤ x) b := Nat.not_le.mpr hbl
  unfold f_law_958 at hf
  refine lv_iconst (v := 1) hx hb dL_law_958 (by decide) ?_
  refine lv_goto (tgt := 963) hx hb dL_law_959 (by decide) ?_
  exact law_963 l hlst C0 G c3 q hE hC hZ n ih _ _ (by omega) (by omega) x3_958 x5_958 x6_958 x9_958 (1 : Int32) S H locs hP hD hS ls (lv_sub hl [0, 1, 2, 3, 4, 5, 6] rfl) hf
set_option maxHeartbeats 4000000 in
set_option maxRecDepth 100000 in
theorem law_962 {p : Program} {e : Env} {s : State} {m : MethodId} {below : List Frame} {meth : Method} {c : Code} (l : Launch) (hlst : l.stackTraces = false) {b L : Nat} {xs : Nat → Int32} (C0 : lw_At p s m meth c b L xs) (G : va_G) (c3 : ClassId × ClassId × ClassId) (q : Nat → Nat) (hE : tk_E G c3 s) (hC : tk_C s) (hZ : tk_Z (fun x : Nat => s.heap.size ≤ x) s s.heap) (n : Nat) (ih : law_LS p l e s m below meth c b L xs G c3 q n) (cs ss : Nat) (hc : cs + 2 * n + 0 ≤ 5000) (hs : ss + 12 * n + 0 ≤ 60000) (x3_962 : Int32) (x5_962 : Int32) (x6_962 : Int32) (x9_962 : Int32) (S : tk_ST) (H : Heap) (locs : List Loc) (hP : va_P G vwCl (tk_H c3 q S) H) (hD : va_D (fun x : Nat => s.heap.size ≤ x) (tk_H c3 q S)) (hS : va_S (fun x : Nat => s.heap.size ≤ x) s.heap H locs) (ls : Array Slot) (hl : lv_has ls 14 [(0, .ref b), (1, .ref (q 0)), (2, .ref (q 17)), (3, .int x3_962), (5, .int x5_962), (6, .int x6_962), (9, .int x9_962)]) (hf : f_law_962 L xs (f_law_71 L xs n) x3_962 x5_962 x6_962 x9_962 S = some (1 : Int32)) : W p l e room_1 s m #[Value.ref b] below meth c H locs cs ss (lw_Z below #[Value.ref b] s) (F0 m 962 ls []) := by
  obtain ⟨hx, hb, hr, hml, hown, hts0, hX, hbl, hlocks, hgv⟩ := id C0
  have hown : s.vm.findClass RL = some m.cls := hown
  have hts := fun w h => hts0 w (wsL_law_in w h)
  have hA : ∀ x : Nat, s.heap.size ≤ x → (fun x : Nat => s.heap.size ≤ x) x := fun _ h => h
  have hbA : ¬ (fun x : Nat => s.heap.size ≤ x) b := Nat.not_le.mpr hbl
  unfold f_law_962 at hf
  refine lv_iconst (v := 0) hx hb dL_law_962 (by decide) ?_
  exact law_963 l hlst C0 G c3 q hE hC hZ n ih _ _ (by omega) (by omega) x3_962 x5_962 x6_962 x9_962 (0 : Int32) S H locs hP hD hS ls (lv_sub hl [0, 1, 2, 3, 4, 5, 6] rfl) hf
set_option maxHeartbeats 4000000 in
set_option maxRecDepth 100000 in
theorem law_919 {p : Program} {e : Env} {s : State} {m : MethodId} {below : List Frame} {meth : Method} {c : Code} (l : Launch) (hlst : l.stackTraces = false) {b L : Nat} {xs : Nat → Int32} (C0 : lw_At p s m meth c b L xs) (G : va_G) (c3 : ClassId × ClassId × ClassId) (q : Nat → Nat) (hE : tk_E G c3 s) (hC : tk_C s) (hZ : tk_Z (fun x : Nat => s.heap.size ≤ x) s s.heap) (n : Nat) (ih : law_LS p l e s m below meth c b L xs G c3 q n) (cs ss : Nat) (hc : cs + 2 * n + 2 ≤ 5000) (hs : ss + 12 * n + 12 ≤ 60000) (x3_919 : Int32) (x5_919 : Int32) (x6_919 : Int32) (x9_919 : Int32) (x10_919 : Int32) (k0_919 : Int32) (S : tk_ST) (H : Heap) (locs : List Loc) (hP : va_P G vwCl (tk_H c3 q S) H) (hD : va_D (fun x : Nat => s.heap.size ≤ x) (tk_H c3 q S)) (hS : va_S (fun x : Nat => s.heap.size ≤ x) s.heap H locs) (ls : Array Slot) (hl : lv_has ls 14 [(0, .ref b), (1, .ref (q 0)), (2, .ref (q 17)), (3, .int x3_919), (5, .int x5_919), (6, .int x6_919), (9, .int x9_919), (10, .int x10_919)]) (hf : f_law_919 L xs (f_law_71 L xs n) x3_919 x5_919 x6_919 x9_919 x10_919 k0_919 S = some (1 : Int32)) : W p l e room_1 s m #[Value.ref b] below meth c H locs cs ss (lw_Z below #[Value.ref b] s) (F0 m 919 ls [.int k0_919]) := by
  obtain ⟨hx, hb, hr, hml, hown, hts0, hX, hbl, hlocks, hgv⟩ := id C0
  have hown : s.vm.findClass RL = some m.cls := hown
  have hts := fun w h => hts0 w (wsL_law_in w h)
  have hA : ∀ x : Nat, s.heap.size ≤ x → (fun x : Nat => s.heap.size ≤ x) x := fun _ h => h
  have hbA : ¬ (fun x : Nat => s.heap.size ≤ x) b := Nat.not_le.mpr hbl
  unfold f_law_919 at hf
  refine lv_istore (lv' := [(11, .int k0_919), (0, .ref b), (1, .ref (q 0)), (2, .ref (q 17)), (3, .int x3_919), (5, .int x5_919), (6, .int x6_919), (9, .int x9_919), (10, .int x10_919)]) hx hb dL_law_919 hl (by decide) rfl (fun ls hl => ?_)
  refine lv_aload_n hx hb dL_law_921 rfl (lv_at hl 2 rfl) ?_
  refine lv_iload hx hb dL_law_922 (lv_at hl 8 rfl) ?_
  obtain ⟨r1, S2, h3, hf⟩ := tk_b2s hf
  refine tk_ciA (a := (tk_H c3 q S)) (a' := (tk_H c3 q S2)) (vx_runSW (As := [.ref (q 0), .int x10_919]) (rest := []) ⟨hx, hb, hml, hown, hts⟩ (c_L_announces l hlst G c3 q S x10_919 r1 S2 h3 H.size) (vx_cwSW 2 hts gL_law_L_announces rfl rfl rfl hs_L_announces ⟨Nat.le_of_ble_eq_true rfl, Nat.le_of_ble_eq_true rfl⟩) (tk_pSL hE hZ hC hP hD hS hA) rfl rfl hl.1 rfl (lv_room (Nat.le_of_ble_eq_true rfl)) dL_law_924 (tk_rm1 (by omega) (by omega))) hP hD hS hA (fun H locs hP hD hS => ?_)
  refine lv_istore (lv' := [(12, .int r1), (11, .int k0_919), (0, .ref b), (1, .ref (q 0)), (2, .ref (q 17)), (3, .int x3_919), (5, .int x5_919), (6, .int x6_919), (9, .int x9_919), (10, .int x10_919)]) hx hb dL_law_927 hl (by decide) rfl (fun ls hl => ?_)
  refine lv_iload hx hb dL_law_929 (lv_at hl 0 rfl) ?_
  refine lv_bipush (v := -3) hx hb dL_law_931 (by decide) ?_
  refine lv_icmp_eq (tgt := 958) hx hb dL_law_933 (by decide) (fun h4 => ?_) (fun h4 => ?_)
  · have hf := tk_pos hf h4
    exact law_958 l hlst C0 G c3 q hE hC hZ n ih _ _ (by omega) (by omega) x3_919 x5_919 x6_919 x9_919 S2 H locs hP hD hS ls (lv_sub hl [2, 3, 4, 5, 6, 7, 8] rfl) hf
  · have hf := tk_neg hf h4
    refine lv_iload hx hb dL_law_936 (lv_at hl 1 rfl) ?_
    refine lv_if_eq (tgt := 962) hx hb dL_law_938 (by decide) (fun h5 => ?_) (fun h5 => ?_)
    · have hf := tk_pos hf h5
      exact law_962 l hlst C0 G c3 q hE hC hZ n ih _ _ (by omega) (by omega) x3_919 x5_919 x6_919 x9_919 S2 H locs hP hD hS ls (lv_sub hl [2, 3, 4, 5, 6, 7, 8] rfl) hf
    · have hf := tk_neg hf h5
      refine lv_iload hx hb dL_law_941 (lv_at hl 0 rfl) ?_
      refine lv_iconst (v := 2) hx hb dL_law_943 (by decide) ?_
      refine lv_icmp_gt (tgt := 962) hx hb dL_law_944 (by decide) (fun h6 => ?_) (fun h6 => ?_)
      · have hf := tk_pos hf h6
        exact law_962 l hlst C0 G c3 q hE hC hZ n ih _ _ (by omega) (by omega) x3_919 x5_919 x6_919 x9_919 S2 H locs hP hD hS ls (lv_sub hl [2, 3, 4, 5, 6, 7, 8] rfl) hf
      · have hf := tk_neg hf h6
        refine lv_aload_n hx hb dL_law_947 rfl (lv_at hl 3 rfl) ?_
        refine lv_iload hx hb dL_law_948 (lv_at hl 9 rfl) ?_
        obtain ⟨r7, S8, h9, hf⟩ := tk_b2s hf
        refine tk_ciA (a := (tk_H c3 q S2)) (a' := (tk_H c3 q S8)) (vx_runSW (As := [.ref (q 0), .int x10_919]) (rest := []) ⟨hx, hb, hml, hown, hts⟩ (c_L_announces l hlst G c3 q S2 x10_919 r7 S8 h9 H.size) (vx_cwSW 2 hts gL_law_L_announces rfl rfl rfl hs_L_announces ⟨Nat.le_of_ble_eq_true rfl, Nat.le_of_ble_eq_true rfl⟩) (tk_pSL hE hZ hC hP hD hS hA) rfl rfl hl.1 rfl (lv_room (Nat.le_of_ble_eq_true rfl)) dL_law_950 (tk_rm1 (by omega) (by omega))) hP hD hS hA (fun H locs hP hD hS => ?_)
        refine lv_bipush (v := -3) hx hb dL_law_953 (by decide) ?_
        refine lv_icmp_ne (tgt := 962) hx hb dL_law_955 (by decide) (fun h10 => ?_) (fun h10 => ?_)
        · have hf := tk_neg hf h10
          exact law_962 l hlst C0 G c3 q hE hC hZ n ih _ _ (by omega) (by omega) x3_919 x5_919 x6_919 x9_919 S8 H locs hP hD hS ls (lv_sub hl [2, 3, 4, 5, 6, 7, 8] rfl) hf
        · have hf := tk_pos hf h10
          exact law_958 l hlst C0 G c3 q hE hC hZ n ih _ _ (by omega) (by omega) x3_919 x5_919 x6_919 x9_919 S8 H locs hP hD hS ls (lv_sub hl [2, 3, 4, 5, 6, 7, 8] rfl) hf
set_option maxHeartbeats 4000000 in
set_option maxRecDepth 100000 in
theorem law_914 {p : Program} {e : Env} {s : State} {m : MethodId} {below : List Frame} {meth : Method} {c : Code} (l : Launch) (hlst : l.stackTraces = false) {b L : Nat} {xs : Nat → Int32} (C0 : lw_At p s m meth c b L xs) (G : va_G) (c3 : ClassId × ClassId × ClassId) (q : Nat → Nat) (hE : tk_E G c3 s) (hC : tk_C s) (hZ : tk_Z (fun x : Nat => s.heap.size ≤ x) s s.heap) (n : Nat) (ih : law_LS p l e s m below meth c b L xs G c3 q n) (cs ss : Nat) (hc : cs + 2 * n + 2 ≤ 5000) (hs : ss + 12 * n + 12 ≤ 60000) (x3_914 : Int32) (x5_914 : Int32) (x6_914 : Int32) (x9_914 : Int32) (x10_914 : Int32) (S : tk_ST) (H : Heap) (locs : List Loc) (hP : va_P G vwCl (tk_H c3 q S) H) (hD : va_D (fun x : Nat => s.heap.size ≤ x) (tk_H c3 q S)) (hS : va_S (fun x : Nat => s.heap.size ≤ x) s.heap H locs) (ls : Array Slot) (hl : lv_has ls 14 [(0, .ref b), (1, .ref (q 0)), (2, .ref (q 17)), (3, .int x3_914), (5, .int x5_914), (6, .int x6_914), (9, .int x9_914), (10, .int x10_914)]) (hf : f_law_914 L xs (f_law_71 L xs n) x3_914 x5_914 x6_914 x9_914 x10_914 S = some (1 : Int32)) : W p l e room_1 s m #[Value.ref b] below meth c H locs cs ss (lw_Z below #[Value.ref b] s) (F0 m 914 ls []) := by
  obtain ⟨hx, hb, hr, hml, hown, hts0, hX, hbl, hlocks, hgv⟩ := id C0
  have hown : s.vm.findClass RL = some m.cls := hown
  have hts := fun w h => hts0 w (wsL_law_in w h)
  have hA : ∀ x : Nat, s.heap.size ≤ x → (fun x : Nat => s.heap.size ≤ x) x := fun _ h => h
  have hbA : ¬ (fun x : Nat => s.heap.size ≤ x) b := Nat.not_le.mpr hbl
  unfold f_law_914 at hf
  refine lv_iconst (v := 1) hx hb dL_law_914 (by decide) ?_
  refine lv_goto (tgt := 919) hx hb dL_law_915 (by decide) ?_
  exact law_919 l hlst C0 G c3 q hE hC hZ n ih _ _ (by omega) (by omega) x3_914 x5_914 x6_914 x9_914 x10_914 (1 : Int32) S H locs hP hD hS ls (lv_sub hl [0, 1, 2, 3, 4, 5, 6, 7] rfl) hf
set_option maxHeartbeats 4000000 in
set_option maxRecDepth 100000 in
theorem law_918 {p : Program} {e : Env} {s : State} {m : MethodId} {below : List Frame} {meth : Method} {c : Code} (l : Launch) (hlst : l.stackTraces = false) {b L : Nat} {xs : Nat → Int32} (C0 : lw_At p s m meth c b L xs) (G : va_G) (c3 : ClassId × ClassId × ClassId) (q : Nat → Nat) (hE : tk_E G c3 s) (hC : tk_C s) (hZ : tk_Z (fun x : Nat => s.heap.size ≤ x) s s.heap) (n : Nat) (ih : law_LS p l e s m below meth c b L xs G c3 q n) (cs ss : Nat) (hc : cs + 2 * n + 2 ≤ 5000) (hs : ss + 12 * n + 12 ≤ 60000) (x3_918 : Int32) (x5_918 : Int32) (x6_918 : Int32) (x9_918 : Int32) (x10_918 : Int32) (S : tk_ST) (H : Heap) (locs : List Loc) (hP : va_P G vwCl (tk_H c3 q S) H) (hD : va_D (fun x : Nat => s.heap.size ≤ x) (tk_H c3 q S)) (hS : va_S (fun x : Nat => s.heap.size ≤ x) s.heap H locs) (ls : Array Slot) (hl : lv_has ls 14 [(0, .ref b), (1, .ref (q 0)), (2, .ref (q 17)), (3, .int x3_918), (5, .int x5_918), (6, .int x6_918), (9, .int x9_918), (10, .int x10_918)]) (hf : f_law_918 L xs (f_law_71 L xs n) x3_918 x5_918 x6_918 x9_918 x10_918 S = some (1 : Int32)) : W p l e room_1 s m #[Value.ref b] below meth c H locs cs ss (lw_Z below #[Value.ref b] s) (F0 m 918 ls []) := by
  obtain ⟨hx, hb, hr, hml, hown, hts0, hX, hbl, hlocks, hgv⟩ := id C0
  have hown : s.vm.findClass RL = some m.cls := hown
  have hts := fun w h => hts0 w (wsL_law_in w h)
  have hA : ∀ x : Nat, s.heap.size ≤ x → (fun x : Nat => s.heap.size ≤ x) x := fun _ h => h
  have hbA : ¬ (fun x : Nat => s.heap.size ≤ x) b := Nat.not_le.mpr hbl
  unfold f_law_918 at hf
  refine lv_iconst (v := 0) hx hb dL_law_918 (by decide) ?_
  exact law_919 l hlst C0 G c3 q hE hC hZ n ih _ _ (by omega) (by omega) x3_918 x5_918 x6_918 x9_918 x10_918 (0 : Int32) S H locs hP hD hS ls (lv_sub hl [0, 1, 2, 3, 4, 5, 6, 7] rfl) hf
set_option maxHeartbeats 4000000 in
set_option maxRecDepth 100000 in
theorem law_1030 {p : Program} {e : Env} {s : State} {m : MethodId} {below : List Frame} {meth : Method} {c : Code} (l : Launch) (hlst : l.stackTraces = false) {b L : Nat} {xs : Nat → Int32} (C0 : lw_At p s m meth c b L xs) (G : va_G) (c3 : ClassId × ClassId × ClassId) (q : Nat → Nat) (hE : tk_E G c3 s) (hC : tk_C s) (hZ : tk_Z (fun x : Nat => s.heap.size ≤ x) s s.heap) (n : Nat) (ih : law_LS p l e s m below meth c b L xs G c3 q n) (cs ss : Nat) (hc : cs + 2 * n + 2 ≤ 5000) (hs : ss + 12 * n + 12 ≤ 60000) (x3_1030 : Int32) (x5_1030 : Int32) (x6_1030 : Int32) (x9_1030 : Int32) (k0_1030 : Int32) (S : tk_ST) (H : Heap) (locs : List Loc) (hP : va_P G vwCl (tk_H c3 q S) H) (hD : va_D (fun x : Nat => s.heap.size ≤ x) (tk_H c3 q S)) (hS : va_S (fun x : Nat => s.heap.size ≤ x) s.heap H locs) (ls : Array Slot) (hl : lv_has ls 14 [(0, .ref b), (1, .ref (q 0)), (2, .ref (q 17)), (3, .int x3_1030), (5, .int x5_1030), (6, .int x6_1030), (9, .int x9_1030)]) (hf : f_law_1030 L xs (f_law_71 L xs n) x3_1030 x5_1030 x6_1030 x9_1030 k0_1030 S = some (1 : Int32)) : W p l e room_1 s m #[Value.ref b] below meth c H locs cs ss (lw_Z below #[Value.ref b] s) (F0 m 1030 ls [.int k0_1030]) := by
  obtain ⟨hx, hb, hr, hml, hown, hts0, hX, hbl, hlocks, hgv⟩ := id C0
  have hown : s.vm.findClass RL = some m.cls := hown
  have hts := fun w h => hts0 w (wsL_law_in w h)
  have hA : ∀ x : Nat, s.heap.size ≤ x → (fun x : Nat => s.heap.size ≤ x) x := fun _ h => h
  have hbA : ¬ (fun x : Nat => s.heap.size ≤ x) b := Nat.not_le.mpr hbl
  unfold f_law_1030 at hf
  refine lv_istore (lv' := [(4, .int k0_1030), (0, .ref b), (1, .ref (q 0)), (2, .ref (q 17)), (3, .int x3_1030), (5, .int x5_1030), (6, .int x6_1030), (9, .int x9_1030)]) hx hb dL_law_1030 hl (by decide) rfl (fun ls hl => ?_)
  refine lv_goto (tgt := 1043) hx hb dL_law_1032 (by decide) ?_
  exact law_1043 l hlst C0 G c3 q hE hC hZ n ih _ _ (by omega) (by omega) x3_1030 k0_1030 x5_1030 x6_1030 x9_1030 S H locs hP hD hS ls (lv_sub hl [1, 2, 3, 4, 0, 5, 6, 7] rfl) hf
set_option maxHeartbeats 4000000 in
set_option maxRecDepth 100000 in
theorem law_1022 {p : Program} {e : Env} {s : State} {m : MethodId} {below : List Frame} {meth : Method} {c : Code} (l : Launch) (hlst : l.stackTraces = false) {b L : Nat} {xs : Nat → Int32} (C0 : lw_At p s m meth c b L xs) (G : va_G) (c3 : ClassId × ClassId × ClassId) (q : Nat → Nat) (hE : tk_E G c3 s) (hC : tk_C s) (hZ : tk_Z (fun x : Nat => s.heap.size ≤ x) s s.heap) (n : Nat) (ih : law_LS p l e s m below meth c b L xs G c3 q n) (cs ss : Nat) (hc : cs + 2 * n + 2 ≤ 5000) (hs : ss + 12 * n + 12 ≤ 60000) (x3_1022 : Int32) (x5_1022 : Int32) (x6_1022 : Int32) (x9_1022 : Int32) (k0_1022 : Int32) (k1_1022 : Int32) (S : tk_ST) (H : Heap) (locs : List Loc) (hP : va_P G vwCl (tk_H c3 q S) H) (hD : va_D (fun x : Nat => s.heap.size ≤ x) (tk_H c3 q S)) (hS : va_S (fun x : Nat => s.heap.size ≤ x) s.heap H locs) (ls : Array Slot) (hl : lv_has ls 14 [(0, .ref b), (1, .ref (q 0)), (2, .ref (q 17)), (3, .int x3_1022), (5, .int x5_1022), (6, .int x6_1022), (9, .int x9_1022)]) (hf : f_law_1022 L xs (f_law_71 L xs n) x3_1022 x5_1022 x6_1022 x9_1022 k0_1022 k1_1022 S = some (1 : Int32)) : W p l e room_1 s m #[Value.ref b] below meth c H locs cs ss (lw_Z below #[Value.ref b] s) (F0 m 1022 ls [.int k1_1022, .int k0_1022]) := by
  obtain ⟨hx, hb, hr, hml, hown, hts0, hX, hbl, hlocks, hgv⟩ := id C0
  have hown : s.vm.findClass RL = some m.cls := hown
  have hts := fun w h => hts0 w (wsL_law_in w h)
  have hA : ∀ x : Nat, s.heap.size ≤ x → (fun x : Nat => s.heap.size ≤ x) x := fun _ h => h
  have hbA : ¬ (fun x : Nat => s.heap.size ≤ x) b := Nat.not_le.mpr hbl
  unfold f_law_1022 at hf
  refine lv_icmp_ne (tgt := 1029) hx hb dL_law_1022 (by decide) (fun h1 => ?_) (fun h1 => ?_)
  · have hf := tk_neg hf h1
    refine lv_iconst (v := 0) hx hb dL_law_1029 (by decide) ?_
    exact law_1030 l hlst C0 G c3 q hE hC hZ n ih _ _ (by omega) (by omega) x3_1022 x5_1022 x6_1022 x9_1022 (0 : Int32) S H locs hP hD hS ls (lv_sub hl [0, 1, 2, 3, 4, 5, 6] rfl) hf
  · have hf := tk_pos hf h1
    refine lv_iconst (v := 1) hx hb dL_law_1025 (by decide) ?_
    refine lv_goto (tgt := 1030) hx hb dL_law_1026 (by decide) ?_
    exact law_1030 l hlst C0 G c3 q hE hC hZ n ih _ _ (by omega) (by omega) x3_1022 x5_1022 x6_1022 x9_1022 (1 : Int32) S H locs hP hD hS ls (lv_sub hl [0, 1, 2, 3, 4, 5, 6] rfl) hf
set_option maxHeartbeats 4000000 in
set_option maxRecDepth 100000 in
theorem law_115 {p : Program} {e : Env} {s : State} {m : MethodId} {below : List Frame} {meth : Method} {c : Code} (l : Launch) (hlst : l.stackTraces = false) {b L : Nat} {xs : Nat → Int32} (C0 : lw_At p s m meth c b L xs) (G : va_G) (c3 : ClassId × ClassId × ClassId) (q : Nat → Nat) (hE : tk_E G c3 s) (hC : tk_C s) (hZ : tk_Z (fun x : Nat => s.heap.size ≤ x) s s.heap) (n : Nat) (ih : law_LS p l e s m below meth c b L xs G c3 q n) (cs ss : Nat) (hc : cs + 2 * n + 2 ≤ 5000) (hs : ss + 12 * n + 12 ≤ 60000) (x3_115 : Int32) (x5_115 : Int32) (x6_115 : Int32) (k0_115 : Int32) (S : tk_ST) (H : Heap) (locs : List Loc) (hP : va_P G vwCl (tk_H c3 q S) H) (hD : va_D (fun x : Nat => s.heap.size ≤ x) (tk_H c3 q S)) (hS : va_S (fun x : Nat => s.heap.size ≤ x) s.heap H locs) (ls : Array Slot) (hl : lv_has ls 14 [(0, .ref b), (1, .ref (q 0)), (2, .ref (q 17)), (3, .int x3_115), (5, .int x5_115), (6, .int x6_115)]) (hf : f_law_115 L xs (f_law_71 L xs n) x3_115 x5_115 x6_115 k0_115 S = some (1 : Int32)) : W p l e room_1 s m #[Value.ref b] below meth c H locs cs ss (lw_Z below #[Value.ref b] s) (F0 m 115 ls [.int k0_115]) := by
  obtain ⟨hx, hb, hr, hml, hown, hts0, hX, hbl, hlocks, hgv⟩ := id C0
  have hown : s.vm.findClass RL = some m.cls := hown
  have hts := fun w h => hts0 w (wsL_law_in w h)
  have hA : ∀ x : Nat, s.heap.size ≤ x → (fun x : Nat => s.heap.size ≤ x) x := fun _ h => h
  have hbA : ¬ (fun x : Nat => s.heap.size ≤ x) b := Nat.not_le.mpr hbl
  unfold f_law_115 at hf
  refine lv_istore (lv' := [(7, .int k0_115), (0, .ref b), (1, .ref (q 0)), (2, .ref (q 17)), (3, .int x3_115), (5, .int x5_115), (6, .int x6_115)]) hx hb dL_law_115 hl (by decide) rfl (fun ls hl => ?_)
  refine lv_iload hx hb dL_law_117 (lv_at hl 0 rfl) ?_
  refine lv_iconst (v := 4) hx hb dL_law_119 (by decide) ?_
  refine lv_ishr hx hb dL_law_120 ?_
  refine lv_ldc (v := 268435455) hx hb hown (hts0 _ tw_717) dL_law_121 ?_
  refine lv_iand hx hb dL_law_123 ?_
  refine lv_istore (lv' := [(8, .int ((k0_115 >>> ((4 : Int32) &&& 31)) &&& (268435455 : Int32))), (7, .int k0_115), (0, .ref b), (1, .ref (q 0)), (2, .ref (q 17)), (3, .int x3_115), (5, .int x5_115), (6, .int x6_115)]) hx hb dL_law_124 hl (by decide) rfl (fun ls hl => ?_)
  refine lv_aload_n hx hb dL_law_126 rfl (lv_at hl 3 rfl) ?_
  obtain ⟨r1, h2, hf⟩ := tk_b1s hf
  refine tk_ci (ws' := (tk_H c3 q S)) (va_runV (As := []) (rest := []) ⟨hx, hb, hml, hown, hts⟩ (c_X6_phase l G c3 q S r1 h2 H.size) (cwV 0 hts gL_law_X6_phase rfl rfl rfl hv_X6_phase ⟨Nat.le_of_ble_eq_true rfl, Nat.le_of_ble_eq_true rfl⟩) (tk_pV hE hP hD 0 rfl rfl) rfl rfl hl.1 rfl (lv_room (Nat.le_of_ble_eq_true rfl)) dL_law_127 (tk_rm0 (by omega) (by omega))) hD hS hA (fun H locs hP hD hS => ?_)
  refine lv_istore (lv' := [(9, .int r1), (8, .int ((k0_115 >>> ((4 : Int32) &&& 31)) &&& (268435455 : Int32))), (7, .int k0_115), (0, .ref b), (1, .ref (q 0)), (2, .ref (q 17)), (3, .int x3_115), (5, .int x5_115), (6, .int x6_115)]) hx hb dL_law_130 hl (by decide) rfl (fun ls hl => ?_)
  refine lv_iload hx hb dL_law_132 (lv_at hl 0 rfl) ?_
  refine lv_if_ne (tgt := 295) hx hb dL_law_134 (by decide) (fun h4 => ?_) (fun h4 => ?_)
  · have hf := tk_neg hf h4
    refine lv_iload hx hb dL_law_295 (lv_at hl 0 rfl) ?_
    refine lv_iconst (v := 1) hx hb dL_law_297 (by decide) ?_
    refine lv_icmp_ne (tgt := 493) hx hb dL_law_298 (by decide) (fun h5 => ?_) (fun h5 => ?_)
    · have hf := tk_neg hf h5
      refine lv_iload hx hb dL_law_493 (lv_at hl 0 rfl) ?_
      refine lv_iconst (v := 2) hx hb dL_law_495 (by decide) ?_
      refine lv_icmp_ne (tgt := 626) hx hb dL_law_496 (by decide) (fun h6 => ?_) (fun h6 => ?_)
      · have hf := tk_neg hf h6
        refine lv_iload hx hb dL_law_626 (lv_at hl 0 rfl) ?_
        refine lv_iconst (v := 3) hx hb dL_law_628 (by decide) ?_
        refine lv_icmp_ne (tgt := 727) hx hb dL_law_629 (by decide) (fun h7 => ?_) (fun h7 => ?_)
        · have hf := tk_neg hf h7
          refine lv_iload hx hb dL_law_727 (lv_at hl 0 rfl) ?_
          refine lv_iconst (v := 4) hx hb dL_law_729 (by decide) ?_
          refine lv_icmp_ne (tgt := 873) hx hb dL_law_730 (by decide) (fun h8 => ?_) (fun h8 => ?_)
          · have hf := tk_neg hf h8
            refine lv_iload hx hb dL_law_873 (lv_at hl 2 rfl) ?_
            refine lv_bipush (v := 15) hx hb dL_law_875 (by decide) ?_
            refine lv_iand hx hb dL_law_877 ?_
            refine lv_if_ne (tgt := 968) hx hb dL_law_878 (by decide) (fun h9 => ?_) (fun h9 => ?_)
            · have hf := tk_neg hf h9
              refine lv_iload hx hb dL_law_968 (lv_at hl 2 rfl) ?_
              refine lv_bipush (v := 15) hx hb dL_law_970 (by decide) ?_
              refine lv_iand hx hb dL_law_972 ?_
              refine lv_iconst (v := 1) hx hb dL_law_973 (by decide) ?_
              refine lv_icmp_ne (tgt := 1035) hx hb dL_law_974 (by decide) (fun h10 => ?_) (fun h10 => ?_)
              · have hf := tk_neg hf h10
                refine lv_aload_n hx hb dL_law_1035 rfl (lv_at hl 4 rfl) ?_
                refine lv_iload hx hb dL_law_1036 (lv_at hl 1 rfl) ?_
                obtain ⟨r11, S12, h13, hf⟩ := tk_b2s hf
                refine tk_ciA (a := (tk_H c3 q S)) (a' := (tk_H c3 q S12)) (va_runS (As := [.ref (q 0), .int ((k0_115 >>> ((4 : Int32) &&& 31)) &&& (268435455 : Int32))]) (rest := []) ⟨hx, hb, hml, hown, hts⟩ (c_L_isPlayed l hlst G c3 q S ((k0_115 >>> ((4 : Int32) &&& 31)) &&& (268435455 : Int32)) r11 S12 h13 H.size) (va_cwS 2 hts gL_law_L_isPlayed rfl rfl rfl hs_L_isPlayed ⟨Nat.le_of_ble_eq_true rfl, Nat.le_of_ble_eq_true rfl⟩) (tk_pSL hE hZ hC hP hD hS hA) rfl rfl hl.1 rfl (lv_room (Nat.le_of_ble_eq_true rfl)) dL_law_1038 (tk_rm1 (by omega) (by omega))) hP hD hS hA (fun H locs hP hD hS => ?_)
                refine lv_istore (lv' := [(4, .int r11), (9, .int r1), (8, .int ((k0_115 >>> ((4 : Int32) &&& 31)) &&& (268435455 : Int32))), (7, .int k0_115), (0, .ref b), (1, .ref (q 0)), (2, .ref (q 17)), (3, .int x3_115), (5, .int x5_115), (6, .int x6_115)]) hx hb dL_law_1041 hl (by decide) rfl (fun ls hl => ?_)
                exact law_1043 l hlst C0 G c3 q hE hC hZ n ih _ _ (by omega) (by omega) x3_115 r11 x5_115 x6_115 r1 S12 H locs hP hD hS ls (lv_sub hl [4, 5, 6, 7, 0, 8, 9, 1] rfl) hf
              · have hf := tk_pos hf h10
                refine lv_bipush (v := 48) hx hb dL_law_977 (by decide) ?_
                refine lv_iconst (v := 4) hx hb dL_law_979 (by decide) ?_
                refine lv_aload_n hx hb dL_law_980 rfl (lv_at hl 4 rfl) ?_
                obtain ⟨r14, h15, hf⟩ := tk_b1s hf
                refine tk_ci (ws' := (tk_H c3 q S)) (va_runV (As := []) (rest := [.int (4 : Int32), .int (48 : Int32)]) ⟨hx, hb, hml, hown, hts⟩ (c_X6_tricks l G c3 q S r14 h15 H.size) (cwV 0 hts gL_law_X6_tricks rfl rfl rfl hv_X6_tricks ⟨Nat.le_of_ble_eq_true rfl, Nat.le_of_ble_eq_true rfl⟩) (tk_pV hE hP hD 0 rfl rfl) rfl rfl hl.1 rfl (lv_room (Nat.le_of_ble_eq_true rfl)) dL_law_981 (tk_rm0 (by omega) (by omega))) hD hS hA (fun H locs hP hD hS => ?_)
                refine lv_imul hx hb dL_law_984 ?_
                refine lv_isub hx hb dL_law_985 ?_
                refine lv_aload_n hx hb dL_law_986 rfl (lv_at hl 4 rfl) ?_
                obtain ⟨r17, h18, hf⟩ := tk_b1s hf
                refine tk_ci (ws' := (tk_H c3 q S)) (va_runV (As := []) (rest := [.int ((48 : Int32) - ((4 : Int32) * r14))]) ⟨hx, hb, hml, hown, hts⟩ (c_X6_inTrick l G c3 q S r17 h18 H.size) (cwV 0 hts gL_law_X6_inTrick rfl rfl rfl hv_X6_inTrick ⟨Nat.le_of_ble_eq_true rfl, Nat.le_of_ble_eq_true rfl⟩) (tk_pV hE hP hD 0 rfl rfl) rfl rfl hl.1 rfl (lv_room (Nat.le_of_ble_eq_true rfl)) dL_law_987 (tk_rm0 (by omega) (by omega))) hD hS hA (fun H locs hP hD hS => ?_)
                refine lv_isub hx hb dL_law_990 ?_
                refine lv_istore (lv' := [(10, .int (((48 : Int32) - ((4 : Int32) * r14)) - r17)), (9, .int r1), (8, .int ((k0_115 >>> ((4 : Int32) &&& 31)) &&& (268435455 : Int32))), (7, .int k0_115), (0, .ref b), (1, .ref (q 0)), (2, .ref (q 17)), (3, .int x3_115), (5, .int x5_115), (6, .int x6_115)]) hx hb dL_law_991 hl (by decide) rfl (fun ls hl => ?_)
                refine lv_iconst (v := 1) hx hb dL_law_993 (by decide) ?_
                refine lv_iload hx hb dL_law_994 (lv_at hl 2 rfl) ?_
                refine lv_bipush (v := 15) hx hb dL_law_996 (by decide) ?_
                refine lv_iand hx hb dL_law_998 ?_
                refine lv_iadd hx hb dL_law_999 ?_
                refine lv_istore (lv' := [(11, .int ((1 : Int32) + (((k0_115 >>> ((4 : Int32) &&& 31)) &&& (268435455 : Int32)) &&& (15 : Int32)))), (10, .int (((48 : Int32) - ((4 : Int32) * r14)) - r17)), (9, .int r1), (8, .int ((k0_115 >>> ((4 : Int32) &&& 31)) &&& (268435455 : Int32))), (7, .int k0_115), (0, .ref b), (1, .ref (q 0)), (2, .ref (q 17)), (3, .int x3_115), (5, .int x5_115), (6, .int x6_115)]) hx hb dL_law_1000 hl (by decide) rfl (fun ls hl => ?_)
                refine lv_aload_n hx hb dL_law_1002 rfl (lv_at hl 6 rfl) ?_
                refine lv_iload hx hb dL_law_1003 (lv_at hl 0 rfl) ?_
                obtain ⟨r20, S22, h21, hf⟩ := tk_b2s hf
                refine tk_ci (ws' := (tk_H c3 q S22)) (va_runV (As := [.int ((1 : Int32) + (((k0_115 >>> ((4 : Int32) &&& 31)) &&& (268435455 : Int32)) &&& (15 : Int32)))]) (rest := []) ⟨hx, hb, hml, hown, hts⟩ (c0_X6_playLowest l G c3 q S ((1 : Int32) + (((k0_115 >>> ((4 : Int32) &&& 31)) &&& (268435455 : Int32)) &&& (15 : Int32))) r20 S22 h21 H.size) (cwV 1 hts gL_law_X6_playLowest rfl rfl rfl hv_X6_playLowest ⟨Nat.le_of_ble_eq_true rfl, Nat.le_of_ble_eq_true rfl⟩) (tk_pV hE hP hD 0 rfl rfl) rfl rfl hl.1 rfl (lv_room (Nat.le_of_ble_eq_true rfl)) dL_law_1005 (tk_rm0 (by omega) (by omega))) hD hS hA (fun H locs hP hD hS => ?_)
                refine lv_iload hx hb dL_law_1008 (lv_at hl 0 rfl) ?_
                refine lv_iload hx hb dL_law_1010 (lv_at hl 1 rfl) ?_
                refine lv_icmp_ge (tgt := 1020) hx hb dL_law_1012 (by decide) (fun h23 => ?_) (fun h23 => ?_)
                · have hf := tk_pos hf h23
                  refine lv_iload hx hb dL_law_1020 (lv_at hl 1 rfl) ?_
                  exact law_1022 l hlst C0 G c3 q hE hC hZ n ih _ _ (by omega) (by omega) x3_115 x5_115 x6_115 r1 r20 (((48 : Int32) - ((4 : Int32) * r14)) - r17) S22 H locs hP hD hS ls (lv_sub hl [5, 6, 7, 8, 9, 10, 2] rfl) hf
                · have hf := tk_neg hf h23
                  refine lv_iload hx hb dL_law_1015 (lv_at hl 0 rfl) ?_
                  refine lv_goto (tgt := 1022) hx hb dL_law_1017 (by decide) ?_
                  exact law_1022 l hlst C0 G c3 q hE hC hZ n ih _ _ (by omega) (by omega) x3_115 x5_115 x6_115 r1 r20 ((1 : Int32) + (((k0_115 >>> ((4 : Int32) &&& 31)) &&& (268435455 : Int32)) &&& (15 : Int32))) S22 H locs hP hD hS ls (lv_sub hl [5, 6, 7, 8, 9, 10, 2] rfl) hf
            · have hf := tk_pos hf h9
              refine lv_iload hx hb dL_law_881 (lv_at hl 1 rfl) ?_
              refine lv_iconst (v := 1) hx hb dL_law_883 (by decide) ?_
              refine lv_iand hx hb dL_law_884 ?_
              refine lv_istore (lv' := [(10, .int (((k0_115 >>> ((4 : Int32) &&& 31)) &&& (268435455 : Int32)) &&& (1 : Int32))), (9, .int r1), (8, .int ((k0_115 >>> ((4 : Int32) &&& 31)) &&& (268435455 : Int32))), (7, .int k0_115), (0, .ref b), (1, .ref (q 0)), (2, .ref (q 17)), (3, .int x3_115), (5, .int x5_115), (6, .int x6_115)]) hx hb dL_law_885 hl (by decide) rfl (fun ls hl => ?_)
              refine lv_aload_n hx hb dL_law_887 rfl (lv_at hl 5 rfl) ?_
              obtain ⟨r24, h25, hf⟩ := tk_b1s hf
              refine tk_ci (ws' := (tk_H c3 q S)) (va_runV (As := []) (rest := []) ⟨hx, hb, hml, hown, hts⟩ (c_X6_tricks l G c3 q S r24 h25 H.size) (cwV 0 hts gL_law_X6_tricks rfl rfl rfl hv_X6_tricks ⟨Nat.le_of_ble_eq_true rfl, Nat.le_of_ble_eq_true rfl⟩) (tk_pV hE hP hD 0 rfl rfl) rfl rfl hl.1 rfl (lv_room (Nat.le_of_ble_eq_true rfl)) dL_law_888 (tk_rm0 (by omega) (by omega))) hD hS hA (fun H locs hP hD hS => ?_)
              refine lv_if_ne (tgt := 918) hx hb dL_law_891 (by decide) (fun h27 => ?_) (fun h27 => ?_)
              · have hf := tk_neg hf h27
                exact law_918 l hlst C0 G c3 q hE hC hZ n ih _ _ (by omega) (by omega) x3_115 x5_115 x6_115 r1 (((k0_115 >>> ((4 : Int32) &&& 31)) &&& (268435455 : Int32)) &&& (1 : Int32)) S H locs hP hD hS ls (lv_sub hl [4, 5, 6, 7, 8, 9, 1, 0] rfl) hf
              · have hf := tk_pos hf h27
                refine lv_aload_n hx hb dL_law_894 rfl (lv_at hl 5 rfl) ?_
                obtain ⟨r28, h29, hf⟩ := tk_b1s hf
                refine tk_ci (ws' := (tk_H c3 q S)) (va_runV (As := []) (rest := []) ⟨hx, hb, hml, hown, hts⟩ (c_X6_inTrick l G c3 q S r28 h29 H.size) (cwV 0 hts gL_law_X6_inTrick rfl rfl rfl hv_X6_inTrick ⟨Nat.le_of_ble_eq_true rfl, Nat.le_of_ble_eq_true rfl⟩) (tk_pV hE hP hD 0 rfl rfl) rfl rfl hl.1 rfl (lv_room (Nat.le_of_ble_eq_true rfl)) dL_law_895 (tk_rm0 (by omega) (by omega))) hD hS hA (fun H locs hP hD hS => ?_)
                refine lv_if_ne (tgt := 918) hx hb dL_law_898 (by decide) (fun h31 => ?_) (fun h31 => ?_)
                · have hf := tk_neg hf h31
                  exact law_918 l hlst C0 G c3 q hE hC hZ n ih _ _ (by omega) (by omega) x3_115 x5_115 x6_115 r1 (((k0_115 >>> ((4 : Int32) &&& 31)) &&& (268435455 : Int32)) &&& (1 : Int32)) S H locs hP hD hS ls (lv_sub hl [4, 5, 6, 7, 8, 9, 1, 0] rfl) hf
                · have hf := tk_pos hf h31
                  refine lv_iload hx hb dL_law_901 (lv_at hl 0 rfl) ?_
                  refine lv_if_eq (tgt := 914) hx hb dL_law_903 (by decide) (fun h32 => ?_) (fun h32 => ?_)
                  · have hf := tk_pos hf h32
                    exact law_914 l hlst C0 G c3 q hE hC hZ n ih _ _ (by omega) (by omega) x3_115 x5_115 x6_115 r1 (((k0_115 >>> ((4 : Int32) &&& 31)) &&& (268435455 : Int32)) &&& (1 : Int32)) S H locs hP hD hS ls (lv_sub hl [4, 5, 6, 7, 8, 9, 1, 0] rfl) hf
                  · have hf := tk_neg hf h32
                    refine lv_aload_n hx hb dL_law_906 rfl (lv_at hl 5 rfl) ?_
                    obtain ⟨r33, h34, hf⟩ := tk_b1s hf
                    refine tk_ci (ws' := (tk_H c3 q S)) (va_runV (As := []) (rest := []) ⟨hx, hb, hml, hown, hts⟩ (c_X6_level l G c3 q S r33 h34 H.size) (cwV 0 hts gL_law_X6_level rfl rfl rfl hv_X6_level ⟨Nat.le_of_ble_eq_true rfl, Nat.le_of_ble_eq_true rfl⟩) (tk_pV hE hP hD 0 rfl rfl) rfl rfl hl.1 rfl (lv_room (Nat.le_of_ble_eq_true rfl)) dL_law_907 (tk_rm0 (by omega) (by omega))) hD hS hA (fun H locs hP hD hS => ?_)
                    refine lv_iconst (v := 4) hx hb dL_law_910 (by decide) ?_
                    refine lv_icmp_ge (tgt := 918) hx hb dL_law_911 (by decide) (fun h36 => ?_) (fun h36 => ?_)
                    · have hf := tk_pos hf h36
                      exact law_918 l hlst C0 G c3 q hE hC hZ n ih _ _ (by omega) (by omega) x3_115 x5_115 x6_115 r1 (((k0_115 >>> ((4 : Int32) &&& 31)) &&& (268435455 : Int32)) &&& (1 : Int32)) S H locs hP hD hS ls (lv_sub hl [4, 5, 6, 7, 8, 9, 1, 0] rfl) hf
                    · have hf := tk_neg hf h36
                      exact law_914 l hlst C0 G c3 q hE hC hZ n ih _ _ (by omega) (by omega) x3_115 x5_115 x6_115 r1 (((k0_115 >>> ((4 : Int32) &&& 31)) &&& (268435455 : Int32)) &&& (1 : Int32)) S H locs hP hD hS ls (lv_sub hl [4, 5, 6, 7, 8, 9, 1, 0] rfl) hf
          · have hf := tk_pos hf h8
            refine lv_aload_n hx hb dL_law_733 rfl (lv_at hl 4 rfl) ?_
            refine lv_aload_n hx hb dL_law_734 rfl (lv_at hl 4 rfl) ?_
            obtain ⟨r37, h38, hf⟩ := tk_b1s hf
            refine tk_ci (ws' := (tk_H c3 q S)) (va_runV (As := []) (rest := [.ref (q 0)]) ⟨hx, hb, hml, hown, hts⟩ (c_X6_declarer l G c3 q S r37 h38 H.size) (cwV 0 hts gL_law_X6_declarer rfl rfl rfl hv_X6_declarer ⟨Nat.le_of_ble_eq_true rfl, Nat.le_of_ble_eq_true rfl⟩) (tk_pV hE hP hD 0 rfl rfl) rfl rfl hl.1 rfl (lv_room (Nat.le_of_ble_eq_true rfl)) dL_law_735 (tk_rm0 (by omega) (by omega))) hD hS hA (fun H locs hP hD hS => ?_)
            obtain ⟨r40, h41, hf⟩ := tk_b1s hf
            refine tk_cl (ws' := (tk_H c3 q S)) (va_runV (As := [.int r37]) (rest := []) ⟨hx, hb, hml, hown, hts⟩ (c0_X6_hand l G c3 q S r37 r40 h41 H.size) (cwV 1 hts gL_law_X6_hand rfl rfl rfl hv_X6_hand ⟨Nat.le_of_ble_eq_true rfl, Nat.le_of_ble_eq_true rfl⟩) (tk_pV hE hP hD 0 rfl rfl) rfl rfl hl.1 rfl (lv_room (Nat.le_of_ble_eq_true rfl)) dL_law_738 (tk_rm0 (by omega) (by omega))) hD hS hA (fun H locs hP hD hS => ?_)
            refine lv_lstore (lv' := [(10, .long r40), (9, .int r1), (8, .int ((k0_115 >>> ((4 : Int32) &&& 31)) &&& (268435455 : Int32))), (7, .int k0_115), (0, .ref b), (1, .ref (q 0)), (2, .ref (q 17)), (3, .int x3_115), (5, .int x5_115), (6, .int x6_115)]) hx hb dL_law_741 hl (by decide) rfl (fun ls hl => ?_)
            refine lv_lload hx hb dL_law_743 (lv_at hl 0 rfl) ?_
            refine lv_iload hx hb dL_law_745 (lv_at hl 2 rfl) ?_
            obtain ⟨r43, h44, hf⟩ := tk_b1s hf
            refine tk_ci (ws' := (tk_H c3 q S)) (va_runS (As := [.long r40, .int ((k0_115 >>> ((4 : Int32) &&& 31)) &&& (268435455 : Int32))]) (rest := []) ⟨hx, hb, hml, hown, hts⟩ (c_L_drawn l G c3 (tk_H c3 q S) r40 ((k0_115 >>> ((4 : Int32) &&& 31)) &&& (268435455 : Int32)) r43 h44 H.size) (va_cwS 2 hts gL_law_L_drawn rfl rfl rfl hs_L_drawn ⟨Nat.le_of_ble_eq_true rfl, Nat.le_of_ble_eq_true rfl⟩) (tk_pS hE hP hD) rfl rfl hl.1 rfl (lv_room (Nat.le_of_ble_eq_true rfl)) dL_law_747 (tk_rm0 (by omega) (by omega))) hD hS hA (fun H locs hP hD hS => ?_)
            refine lv_istore (lv' := [(12, .int r43), (10, .long r40), (9, .int r1), (8, .int ((k0_115 >>> ((4 : Int32) &&& 31)) &&& (268435455 : Int32))), (7, .int k0_115), (0, .ref b), (1, .ref (q 0)), (2, .ref (q 17)), (3, .int x3_115), (5, .int x5_115), (6, .int x6_115)]) hx hb dL_law_750 hl (by decide) rfl (fun ls hl => ?_)
            refine lv_aload_n hx hb dL_law_752 rfl (lv_at hl 6 rfl) ?_
            refine lv_iload hx hb dL_law_753 (lv_at hl 0 rfl) ?_
            obtain ⟨r46, S47, h48, hf⟩ := tk_b2s hf
            refine tk_ciA (a := (tk_H c3 q S)) (a' := (tk_H c3 q S47)) (vx_runSW (As := [.ref (q 0), .int r43]) (rest := []) ⟨hx, hb, hml, hown, hts⟩ (c_L_lays l hlst G c3 q S r43 r46 S47 h48 H.size) (vx_cwSW 2 hts gL_law_L_lays rfl rfl rfl hs_L_lays ⟨Nat.le_of_ble_eq_true rfl, Nat.le_of_ble_eq_true rfl⟩) (tk_pSL hE hZ hC hP hD hS hA) rfl rfl hl.1 rfl (lv_room (Nat.le_of_ble_eq_true rfl)) dL_law_755 (tk_rm1 (by omega) (by omega))) hP hD hS hA (fun H locs hP hD hS => ?_)
            refine lv_istore (lv' := [(13, .int r46), (12, .int r43), (10, .long r40), (9, .int r1), (8, .int ((k0_115 >>> ((4 : Int32) &&& 31)) &&& (268435455 : Int32))), (7, .int k0_115), (0, .ref b), (1, .ref (q 0)), (2, .ref (q 17)), (3, .int x3_115), (5, .int x5_115), (6, .int x6_115)]) hx hb dL_law_758 hl (by decide) rfl (fun ls hl => ?_)
            refine lv_aload_n hx hb dL_law_760 rfl (lv_at hl 7 rfl) ?_
            refine lv_iload hx hb dL_law_761 (lv_at hl 1 rfl) ?_
            obtain ⟨r49, h50, hf⟩ := tk_b1s hf
            refine tk_ci (ws' := (tk_H c3 q S47)) (va_runV (As := [.int r43]) (rest := []) ⟨hx, hb, hml, hown, hts⟩ (c0_X6_valueOf l G c3 q S47 r43 r49 h50 H.size) (cwV 1 hts gL_law_X6_valueOf rfl rfl rfl hv_X6_valueOf ⟨Nat.le_of_ble_eq_true rfl, Nat.le_of_ble_eq_true rfl⟩) (tk_pV hE hP hD 0 rfl rfl) rfl rfl hl.1 rfl (lv_room (Nat.le_of_ble_eq_true rfl)) dL_law_763 (tk_rm0 (by omega) (by omega))) hD hS hA (fun H locs hP hD hS => ?_)
            refine lv_iconst (v := 5) hx hb dL_law_766 (by decide) ?_
            refine lv_icmp_ne (tgt := 799) hx hb dL_law_767 (by decide) (fun h52 => ?_) (fun h52 => ?_)
            · have hf := tk_neg hf h52
              refine lv_iload hx hb dL_law_799 (lv_at hl 0 rfl) ?_
              refine lv_lload hx hb dL_law_801 (lv_at hl 2 rfl) ?_
              obtain ⟨r53, h54, hf⟩ := tk_b1s hf
              refine tk_ci (ws' := (tk_H c3 q S47)) (va_runS (As := [.long r40]) (rest := [.int r46]) ⟨hx, hb, hml, hown, hts⟩ (c_L_bits l G c3 (tk_H c3 q S47) r40 r53 h54 H.size) (va_cwS 1 hts gL_law_L_bits rfl rfl rfl hs_L_bits ⟨Nat.le_of_ble_eq_true rfl, Nat.le_of_ble_eq_true rfl⟩) (tk_pS hE hP hD) rfl rfl hl.1 rfl (lv_room (Nat.le_of_ble_eq_true rfl)) dL_law_803 (tk_rm0 (by omega) (by omega))) hD hS hA (fun H locs hP hD hS => ?_)
              refine lv_bipush (v := 13) hx hb dL_law_806 (by decide) ?_
              refine lv_isub hx hb dL_law_808 ?_
              refine lv_icmp_ne (tgt := 867) hx hb dL_law_809 (by decide) (fun h56 => ?_) (fun h56 => ?_)
              · have hf := tk_neg hf h56
                exact law_867 l hlst C0 G c3 q hE hC hZ n ih _ _ (by omega) (by omega) x3_115 x5_115 x6_115 r1 S47 H locs hP hD hS ls (lv_sub hl [6, 7, 8, 9, 10, 11, 3] rfl) hf
              · have hf := tk_pos hf h56
                refine lv_aload_n hx hb dL_law_812 rfl (lv_at hl 7 rfl) ?_
                refine lv_aload_n hx hb dL_law_813 rfl (lv_at hl 7 rfl) ?_
                obtain ⟨r57, h58, hf⟩ := tk_b1s hf
                refine tk_ci (ws' := (tk_H c3 q S47)) (va_runV (As := []) (rest := [.ref (q 0)]) ⟨hx, hb, hml, hown, hts⟩ (c_X6_declarer l G c3 q S47 r57 h58 H.size) (cwV 0 hts gL_law_X6_declarer rfl rfl rfl hv_X6_declarer ⟨Nat.le_of_ble_eq_true rfl, Nat.le_of_ble_eq_true rfl⟩) (tk_pV hE hP hD 0 rfl rfl) rfl rfl hl.1 rfl (lv_room (Nat.le_of_ble_eq_true rfl)) dL_law_814 (tk_rm0 (by omega) (by omega))) hD hS hA (fun H locs hP hD hS => ?_)
                obtain ⟨r60, h61, hf⟩ := tk_b1s hf
                refine tk_cl (ws' := (tk_H c3 q S47)) (va_runV (As := [.int r57]) (rest := []) ⟨hx, hb, hml, hown, hts⟩ (c0_X6_hand l G c3 q S47 r57 r60 h61 H.size) (cwV 1 hts gL_law_X6_hand rfl rfl rfl hv_X6_hand ⟨Nat.le_of_ble_eq_true rfl, Nat.le_of_ble_eq_true rfl⟩) (tk_pV hE hP hD 0 rfl rfl) rfl rfl hl.1 rfl (lv_room (Nat.le_of_ble_eq_true rfl)) dL_law_817 (tk_rm0 (by omega) (by omega))) hD hS hA (fun H locs hP hD hS => ?_)
                refine lv_lload hx hb dL_law_820 (lv_at hl 2 rfl) ?_
                refine lv_lconst (v := 1) hx hb dL_law_822 (by decide) ?_
                refine lv_iload hx hb dL_law_823 (lv_at hl 1 rfl) ?_
                refine lv_lshl (v := (1 : Int64) <<< (r43.toInt64 &&& 63)) hx hb dL_law_825 rfl ?_
                refine lv_lsub hx hb dL_law_826 ?_
                refine W.lcmp hx hb dL_law_827 ?_
                refine lv_if_ne (tgt := 867) hx hb dL_law_828 (by decide) (fun h63 => ?_) (fun h63 => ?_)
                · have hf := tk_neg hf h63
                  exact law_867 l hlst C0 G c3 q hE hC hZ n ih _ _ (by omega) (by omega) x3_115 x5_115 x6_115 r1 S47 H locs hP hD hS ls (lv_sub hl [6, 7, 8, 9, 10, 11, 3] rfl) hf
                · have hf := tk_pos hf h63
                  refine lv_iload hx hb dL_law_831 (lv_at hl 0 rfl) ?_
                  refine lv_if_le (tgt := 847) hx hb dL_law_833 (by decide) (fun h64 => ?_) (fun h64 => ?_)
                  · have hf := tk_pos hf h64
                    refine lv_aload_n hx hb dL_law_847 rfl (lv_at hl 7 rfl) ?_
                    obtain ⟨r65, h66, hf⟩ := tk_b1s hf
                    refine tk_ci (ws' := (tk_H c3 q S47)) (va_runV (As := []) (rest := []) ⟨hx, hb, hml, hown, hts⟩ (c_X6_phase l G c3 q S47 r65 h66 H.size) (cwV 0 hts gL_law_X6_phase rfl rfl rfl hv_X6_phase ⟨Nat.le_of_ble_eq_true rfl, Nat.le_of_ble_eq_true rfl⟩) (tk_pV hE hP hD 0 rfl rfl) rfl rfl hl.1 rfl (lv_room (Nat.le_of_ble_eq_true rfl)) dL_law_848 (tk_rm0 (by omega) (by omega))) hD hS hA (fun H locs hP hD hS => ?_)
                    refine lv_iconst (v := 5) hx hb dL_law_851 (by decide) ?_
                    refine lv_icmp_ne (tgt := 867) hx hb dL_law_852 (by decide) (fun h68 => ?_) (fun h68 => ?_)
                    · have hf := tk_neg hf h68
                      exact law_867 l hlst C0 G c3 q hE hC hZ n ih _ _ (by omega) (by omega) x3_115 x5_115 x6_115 r1 S47 H locs hP hD hS ls (lv_sub hl [6, 7, 8, 9, 10, 11, 3] rfl) hf
                    · have hf := tk_pos hf h68
                      refine lv_aload_n hx hb dL_law_855 rfl (lv_at hl 7 rfl) ?_
                      refine lv_iconst (v := 0) hx hb dL_law_856 (by decide) ?_
                      obtain ⟨r69, h70, hf⟩ := tk_b1s hf
                      refine tk_ci (ws' := (tk_H c3 q S47)) (va_runV (As := [.int (0 : Int32)]) (rest := []) ⟨hx, hb, hml, hown, hts⟩ (c0_X6_thirds l G c3 q S47 (0 : Int32) r69 h70 H.size) (cwV 1 hts gL_law_X6_thirds rfl rfl rfl hv_X6_thirds ⟨Nat.le_of_ble_eq_true rfl, Nat.le_of_ble_eq_true rfl⟩) (tk_pV hE hP hD 0 rfl rfl) rfl rfl hl.1 rfl (lv_room (Nat.le_of_ble_eq_true rfl)) dL_law_857 (tk_rm0 (by omega) (by omega))) hD hS hA (fun H locs hP hD hS => ?_)
                      refine lv_if_le (tgt := 867) hx hb dL_law_860 (by decide) (fun h72 => ?_) (fun h72 => ?_)
                      · have hf := tk_pos hf h72
                        exact law_867 l hlst C0 G c3 q hE hC hZ n ih _ _ (by omega) (by omega) x3_115 x5_115 x6_115 r1 S47 H locs hP hD hS ls (lv_sub hl [6, 7, 8, 9, 10, 11, 3] rfl) hf
                      · have hf := tk_neg hf h72
                        exact law_863 l hlst C0 G c3 q hE hC hZ n ih _ _ (by omega) (by omega) x3_115 x5_115 x6_115 r1 S47 H locs hP hD hS ls (lv_sub hl [6, 7, 8, 9, 10, 11, 3] rfl) hf
                  · have hf := tk_neg hf h64
                    refine lv_aload_n hx hb dL_law_836 rfl (lv_at hl 7 rfl) ?_
                    obtain ⟨r73, h74, hf⟩ := tk_b1s hf
                    refine tk_ci (ws' := (tk_H c3 q S47)) (va_runV (As := []) (rest := []) ⟨hx, hb, hml, hown, hts⟩ (c_X6_phase l G c3 q S47 r73 h74 H.size) (cwV 0 hts gL_law_X6_phase rfl rfl rfl hv_X6_phase ⟨Nat.le_of_ble_eq_true rfl, Nat.le_of_ble_eq_true rfl⟩) (tk_pV hE hP hD 0 rfl rfl) rfl rfl hl.1 rfl (lv_room (Nat.le_of_ble_eq_true rfl)) dL_law_837 (tk_rm0 (by omega) (by omega))) hD hS hA (fun H locs hP hD hS => ?_)
                    refine lv_iconst (v := 4) hx hb dL_law_840 (by decide) ?_
                    refine lv_icmp_ne (tgt := 867) hx hb dL_law_841 (by decide) (fun h76 => ?_) (fun h76 => ?_)
                    · have hf := tk_neg hf h76
                      exact law_867 l hlst C0 G c3 q hE hC hZ n ih _ _ (by omega) (by omega) x3_115 x5_115 x6_115 r1 S47 H locs hP hD hS ls (lv_sub hl [6, 7, 8, 9, 10, 11, 3] rfl) hf
                    · have hf := tk_pos hf h76
                      refine lv_goto (tgt := 863) hx hb dL_law_844 (by decide) ?_
                      exact law_863 l hlst C0 G c3 q hE hC hZ n ih _ _ (by omega) (by omega) x3_115 x5_115 x6_115 r1 S47 H locs hP hD hS ls (lv_sub hl [6, 7, 8, 9, 10, 11, 3] rfl) hf
            · have hf := tk_pos hf h52
              refine lv_iload hx hb dL_law_770 (lv_at hl 0 rfl) ?_
              refine lv_bipush (v := -3) hx hb dL_law_772 (by decide) ?_
              refine lv_icmp_ne (tgt := 795) hx hb dL_law_774 (by decide) (fun h77 => ?_) (fun h77 => ?_)
              · have hf := tk_neg hf h77
                exact law_795 l hlst C0 G c3 q hE hC hZ n ih _ _ (by omega) (by omega) x3_115 x5_115 x6_115 r1 S47 H locs hP hD hS ls (lv_sub hl [6, 7, 8, 9, 10, 11, 3] rfl) hf
              · have hf := tk_pos hf h77
                refine lv_aload_n hx hb dL_law_777 rfl (lv_at hl 7 rfl) ?_
                refine lv_aload_n hx hb dL_law_778 rfl (lv_at hl 7 rfl) ?_
                obtain ⟨r78, h79, hf⟩ := tk_b1s hf
                refine tk_ci (ws' := (tk_H c3 q S47)) (va_runV (As := []) (rest := [.ref (q 0)]) ⟨hx, hb, hml, hown, hts⟩ (c_X6_declarer l G c3 q S47 r78 h79 H.size) (cwV 0 hts gL_law_X6_declarer rfl rfl rfl hv_X6_declarer ⟨Nat.le_of_ble_eq_true rfl, Nat.le_of_ble_eq_true rfl⟩) (tk_pV hE hP hD 0 rfl rfl) rfl rfl hl.1 rfl (lv_room (Nat.le_of_ble_eq_true rfl)) dL_law_779 (tk_rm0 (by omega) (by omega))) hD hS hA (fun H locs hP hD hS => ?_)
                obtain ⟨r81, h82, hf⟩ := tk_b1s hf
                refine tk_cl (ws' := (tk_H c3 q S47)) (va_runV (As := [.int r78]) (rest := []) ⟨hx, hb, hml, hown, hts⟩ (c0_X6_hand l G c3 q S47 r78 r81 h82 H.size) (cwV 1 hts gL_law_X6_hand rfl rfl rfl hv_X6_hand ⟨Nat.le_of_ble_eq_true rfl, Nat.le_of_ble_eq_true rfl⟩) (tk_pV hE hP hD 0 rfl rfl) rfl rfl hl.1 rfl (lv_room (Nat.le_of_ble_eq_true rfl)) dL_law_782 (tk_rm0 (by omega) (by omega))) hD hS hA (fun H locs hP hD hS => ?_)
                refine lv_lload hx hb dL_law_785 (lv_at hl 2 rfl) ?_
                refine W.lcmp hx hb dL_law_787 ?_
                refine lv_if_ne (tgt := 795) hx hb dL_law_788 (by decide) (fun h84 => ?_) (fun h84 => ?_)
                · have hf := tk_neg hf h84
                  exact law_795 l hlst C0 G c3 q hE hC hZ n ih _ _ (by omega) (by omega) x3_115 x5_115 x6_115 r1 S47 H locs hP hD hS ls (lv_sub hl [6, 7, 8, 9, 10, 11, 3] rfl) hf
                · have hf := tk_pos hf h84
                  refine lv_iconst (v := 1) hx hb dL_law_791 (by decide) ?_
                  refine lv_goto (tgt := 868) hx hb dL_law_792 (by decide) ?_
                  exact law_868 l hlst C0 G c3 q hE hC hZ n ih _ _ (by omega) (by omega) x3_115 x5_115 x6_115 r1 (1 : Int32) S47 H locs hP hD hS ls (lv_sub hl [6, 7, 8, 9, 10, 11, 3] rfl) hf
        · have hf := tk_pos hf h7
          refine lv_aload_n hx hb dL_law_632 rfl (lv_at hl 4 rfl) ?_
          obtain ⟨r85, h86, hf⟩ := tk_b1s hf
          refine tk_ci (ws' := (tk_H c3 q S)) (va_runV (As := []) (rest := []) ⟨hx, hb, hml, hown, hts⟩ (c_X6_level l G c3 q S r85 h86 H.size) (cwV 0 hts gL_law_X6_level rfl rfl rfl hv_X6_level ⟨Nat.le_of_ble_eq_true rfl, Nat.le_of_ble_eq_true rfl⟩) (tk_pV hE hP hD 0 rfl rfl) rfl rfl hl.1 rfl (lv_room (Nat.le_of_ble_eq_true rfl)) dL_law_633 (tk_rm0 (by omega) (by omega))) hD hS hA (fun H locs hP hD hS => ?_)
          refine lv_iconst (v := 3) hx hb dL_law_636 (by decide) ?_
          refine lv_icmp_ge (tgt := 649) hx hb dL_law_637 (by decide) (fun h88 => ?_) (fun h88 => ?_)
          · have hf := tk_pos hf h88
            refine lv_iconst (v := 1) hx hb dL_law_649 (by decide) ?_
            exact law_650 l hlst C0 G c3 q hE hC hZ n ih _ _ (by omega) (by omega) x3_115 x5_115 x6_115 ((k0_115 >>> ((4 : Int32) &&& 31)) &&& (268435455 : Int32)) r1 (1 : Int32) S H locs hP hD hS ls (lv_sub hl [3, 4, 5, 6, 7, 8, 1, 0] rfl) hf
          · have hf := tk_neg hf h88
            refine lv_iconst (v := 4) hx hb dL_law_640 (by decide) ?_
            refine lv_aload_n hx hb dL_law_641 rfl (lv_at hl 4 rfl) ?_
            obtain ⟨r89, h90, hf⟩ := tk_b1s hf
            refine tk_ci (ws' := (tk_H c3 q S)) (va_runV (As := []) (rest := [.int (4 : Int32)]) ⟨hx, hb, hml, hown, hts⟩ (c_X6_level l G c3 q S r89 h90 H.size) (cwV 0 hts gL_law_X6_level rfl rfl rfl hv_X6_level ⟨Nat.le_of_ble_eq_true rfl, Nat.le_of_ble_eq_true rfl⟩) (tk_pV hE hP hD 0 rfl rfl) rfl rfl hl.1 rfl (lv_room (Nat.le_of_ble_eq_true rfl)) dL_law_642 (tk_rm0 (by omega) (by omega))) hD hS hA (fun H locs hP hD hS => ?_)
            refine lv_isub hx hb dL_law_645 ?_
            refine lv_goto (tgt := 650) hx hb dL_law_646 (by decide) ?_
            exact law_650 l hlst C0 G c3 q hE hC hZ n ih _ _ (by omega) (by omega) x3_115 x5_115 x6_115 ((k0_115 >>> ((4 : Int32) &&& 31)) &&& (268435455 : Int32)) r1 ((4 : Int32) - r89) S H locs hP hD hS ls (lv_sub hl [3, 4, 5, 6, 7, 8, 1, 0] rfl) hf
      · have hf := tk_pos hf h6
        refine lv_iload hx hb dL_law_499 (lv_at hl 1 rfl) ?_
        refine lv_iconst (v := 3) hx hb dL_law_501 (by decide) ?_
        refine lv_iand hx hb dL_law_502 ?_
        refine lv_istore (lv' := [(10, .int (((k0_115 >>> ((4 : Int32) &&& 31)) &&& (268435455 : Int32)) &&& (3 : Int32))), (9, .int r1), (8, .int ((k0_115 >>> ((4 : Int32) &&& 31)) &&& (268435455 : Int32))), (7, .int k0_115), (0, .ref b), (1, .ref (q 0)), (2, .ref (q 17)), (3, .int x3_115), (5, .int x5_115), (6, .int x6_115)]) hx hb dL_law_503 hl (by decide) rfl (fun ls hl => ?_)
        refine lv_bipush (v := 8) hx hb dL_law_505 (by decide) ?_
        refine lv_iload hx hb dL_law_507 (lv_at hl 0 rfl) ?_
        refine lv_imul hx hb dL_law_509 ?_
        refine lv_bipush (v := 7) hx hb dL_law_510 (by decide) ?_
        refine lv_iadd hx hb dL_law_512 ?_
        refine lv_istore (lv' := [(11, .int (((8 : Int32) * (((k0_115 >>> ((4 : Int32) &&& 31)) &&& (268435455 : Int32)) &&& (3 : Int32))) + (7 : Int32))), (10, .int (((k0_115 >>> ((4 : Int32) &&& 31)) &&& (268435455 : Int32)) &&& (3 : Int32))), (9, .int r1), (8, .int ((k0_115 >>> ((4 : Int32) &&& 31)) &&& (268435455 : Int32))), (7, .int k0_115), (0, .ref b), (1, .ref (q 0)), (2, .ref (q 17)), (3, .int x3_115), (5, .int x5_115), (6, .int x6_115)]) hx hb dL_law_513 hl (by decide) rfl (fun ls hl => ?_)
        refine lv_aload_n hx hb dL_law_515 rfl (lv_at hl 6 rfl) ?_
        refine lv_iload hx hb dL_law_516 (lv_at hl 1 rfl) ?_
        obtain ⟨r92, S94, h93, hf⟩ := tk_b2s hf
        refine tk_ci (ws' := (tk_H c3 q S94)) (va_runV (As := [.int (((k0_115 >>> ((4 : Int32) &&& 31)) &&& (268435455 : Int32)) &&& (3 : Int32))]) (rest := []) ⟨hx, hb, hml, hown, hts⟩ (c0_X6_call l G c3 q S (((k0_115 >>> ((4 : Int32) &&& 31)) &&& (268435455 : Int32)) &&& (3 : Int32)) r92 S94 h93 H.size) (cwV 1 hts gL_law_X6_call rfl rfl rfl hv_X6_call ⟨Nat.le_of_ble_eq_true rfl, Nat.le_of_ble_eq_true rfl⟩) (tk_pV hE hP hD 0 rfl rfl) rfl rfl hl.1 rfl (lv_room (Nat.le_of_ble_eq_true rfl)) dL_law_518 (tk_rm0 (by omega) (by omega))) hD hS hA (fun H locs hP hD hS => ?_)
        refine lv_iconst (v := 3) hx hb dL_law_521 (by decide) ?_
        refine lv_icmp_ne (tgt := 561) hx hb dL_law_522 (by decide) (fun h95 => ?_) (fun h95 => ?_)
        · have hf := tk_neg hf h95
          exact law_561 l hlst C0 G c3 q hE hC hZ n ih _ _ (by omega) (by omega) x3_115 x5_115 x6_115 r1 (((8 : Int32) * (((k0_115 >>> ((4 : Int32) &&& 31)) &&& (268435455 : Int32)) &&& (3 : Int32))) + (7 : Int32)) S94 H locs hP hD hS ls (lv_sub hl [5, 6, 7, 8, 9, 10, 2, 0] rfl) hf
        · have hf := tk_pos hf h95
          refine lv_aload_n hx hb dL_law_525 rfl (lv_at hl 6 rfl) ?_
          obtain ⟨r96, h97, hf⟩ := tk_b1s hf
          refine tk_ci (ws' := (tk_H c3 q S94)) (va_runV (As := []) (rest := []) ⟨hx, hb, hml, hown, hts⟩ (c_X6_called l G c3 q S94 r96 h97 H.size) (cwV 0 hts gL_law_X6_called rfl rfl rfl hv_X6_called ⟨Nat.le_of_ble_eq_true rfl, Nat.le_of_ble_eq_true rfl⟩) (tk_pV hE hP hD 0 rfl rfl) rfl rfl hl.1 rfl (lv_room (Nat.le_of_ble_eq_true rfl)) dL_law_526 (tk_rm0 (by omega) (by omega))) hD hS hA (fun H locs hP hD hS => ?_)
          refine lv_iload hx hb dL_law_529 (lv_at hl 1 rfl) ?_
          refine lv_icmp_ne (tgt := 561) hx hb dL_law_531 (by decide) (fun h99 => ?_) (fun h99 => ?_)
          · have hf := tk_neg hf h99
            exact law_561 l hlst C0 G c3 q hE hC hZ n ih _ _ (by omega) (by omega) x3_115 x5_115 x6_115 r1 (((8 : Int32) * (((k0_115 >>> ((4 : Int32) &&& 31)) &&& (268435455 : Int32)) &&& (3 : Int32))) + (7 : Int32)) S94 H locs hP hD hS ls (lv_sub hl [5, 6, 7, 8, 9, 10, 2, 0] rfl) hf
          · have hf := tk_pos hf h99
            refine lv_aload_n hx hb dL_law_534 rfl (lv_at hl 6 rfl) ?_
            obtain ⟨r100, h101, hf⟩ := tk_b1s hf
            refine tk_ci (ws' := (tk_H c3 q S94)) (va_runV (As := []) (rest := []) ⟨hx, hb, hml, hown, hts⟩ (c_X6_partner l G c3 q S94 r100 h101 H.size) (cwV 0 hts gL_law_X6_partner rfl rfl rfl hv_X6_partner ⟨Nat.le_of_ble_eq_true rfl, Nat.le_of_ble_eq_true rfl⟩) (tk_pV hE hP hD 0 rfl rfl) rfl rfl hl.1 rfl (lv_room (Nat.le_of_ble_eq_true rfl)) dL_law_535 (tk_rm0 (by omega) (by omega))) hD hS hA (fun H locs hP hD hS => ?_)
            refine lv_if_lt (tgt := 557) hx hb dL_law_538 (by decide) (fun h103 => ?_) (fun h103 => ?_)
            · have hf := tk_pos hf h103
              exact law_557 l hlst C0 G c3 q hE hC hZ n ih _ _ (by omega) (by omega) x3_115 x5_115 x6_115 r1 (((8 : Int32) * (((k0_115 >>> ((4 : Int32) &&& 31)) &&& (268435455 : Int32)) &&& (3 : Int32))) + (7 : Int32)) S94 H locs hP hD hS ls (lv_sub hl [5, 6, 7, 8, 9, 10, 2, 0] rfl) hf
            · have hf := tk_neg hf h103
              refine lv_aload_n hx hb dL_law_541 rfl (lv_at hl 6 rfl) ?_
              refine lv_aload_n hx hb dL_law_542 rfl (lv_at hl 6 rfl) ?_
              obtain ⟨r104, h105, hf⟩ := tk_b1s hf
              refine tk_ci (ws' := (tk_H c3 q S94)) (va_runV (As := []) (rest := [.ref (q 0)]) ⟨hx, hb, hml, hown, hts⟩ (c_X6_partner l G c3 q S94 r104 h105 H.size) (cwV 0 hts gL_law_X6_partner rfl rfl rfl hv_X6_partner ⟨Nat.le_of_ble_eq_true rfl, Nat.le_of_ble_eq_true rfl⟩) (tk_pV hE hP hD 0 rfl rfl) rfl rfl hl.1 rfl (lv_room (Nat.le_of_ble_eq_true rfl)) dL_law_543 (tk_rm0 (by omega) (by omega))) hD hS hA (fun H locs hP hD hS => ?_)
              obtain ⟨r107, h108, hf⟩ := tk_b1s hf
              refine tk_cl (ws' := (tk_H c3 q S94)) (va_runV (As := [.int r104]) (rest := []) ⟨hx, hb, hml, hown, hts⟩ (c0_X6_hand l G c3 q S94 r104 r107 h108 H.size) (cwV 1 hts gL_law_X6_hand rfl rfl rfl hv_X6_hand ⟨Nat.le_of_ble_eq_true rfl, Nat.le_of_ble_eq_true rfl⟩) (tk_pV hE hP hD 0 rfl rfl) rfl rfl hl.1 rfl (lv_room (Nat.le_of_ble_eq_true rfl)) dL_law_546 (tk_rm0 (by omega) (by omega))) hD hS hA (fun H locs hP hD hS => ?_)
              refine lv_iload hx hb dL_law_549 (lv_at hl 0 rfl) ?_
              obtain ⟨r110, h111, hf⟩ := tk_b1s hf
              refine tk_ci (ws' := (tk_H c3 q S94)) (va_runS (As := [.long r107, .int (((8 : Int32) * (((k0_115 >>> ((4 : Int32) &&& 31)) &&& (268435455 : Int32)) &&& (3 : Int32))) + (7 : Int32))]) (rest := []) ⟨hx, hb, hml, hown, hts⟩ (c_L_has l G c3 (tk_H c3 q S94) r107 (((8 : Int32) * (((k0_115 >>> ((4 : Int32) &&& 31)) &&& (268435455 : Int32)) &&& (3 : Int32))) + (7 : Int32)) r110 h111 H.size) (va_cwS 2 hts gL_law_L_has rfl rfl rfl hs_L_has ⟨Nat.le_of_ble_eq_true rfl, Nat.le_of_ble_eq_true rfl⟩) (tk_pS hE hP hD) rfl rfl hl.1 rfl (lv_room (Nat.le_of_ble_eq_true rfl)) dL_law_551 (tk_rm0 (by omega) (by omega))) hD hS hA (fun H locs hP hD hS => ?_)
              refine lv_if_eq (tgt := 561) hx hb dL_law_554 (by decide) (fun h113 => ?_) (fun h113 => ?_)
              · have hf := tk_pos hf h113
                exact law_561 l hlst C0 G c3 q hE hC hZ n ih _ _ (by omega) (by omega) x3_115 x5_115 x6_115 r1 (((8 : Int32) * (((k0_115 >>> ((4 : Int32) &&& 31)) &&& (268435455 : Int32)) &&& (3 : Int32))) + (7 : Int32)) S94 H locs hP hD hS ls (lv_sub hl [5, 6, 7, 8, 9, 10, 2, 0] rfl) hf
              · have hf := tk_neg hf h113
                exact law_557 l hlst C0 G c3 q hE hC hZ n ih _ _ (by omega) (by omega) x3_115 x5_115 x6_115 r1 (((8 : Int32) * (((k0_115 >>> ((4 : Int32) &&& 31)) &&& (268435455 : Int32)) &&& (3 : Int32))) + (7 : Int32)) S94 H locs hP hD hS ls (lv_sub hl [5, 6, 7, 8, 9, 10, 2, 0] rfl) hf
    · have hf := tk_pos hf h5
      refine lv_iload hx hb dL_law_301 (lv_at hl 2 rfl) ?_
      refine lv_bipush (v := 15) hx hb dL_law_303 (by decide) ?_
      refine lv_iand hx hb dL_law_305 ?_
      refine lv_bipush (v := 6) hx hb dL_law_306 (by decide) ?_
      refine lv_icmp_ge (tgt := 315) hx hb dL_law_308 (by decide) (fun h114 => ?_) (fun h114 => ?_)
      · have hf := tk_pos hf h114
        refine lv_iload hx hb dL_law_315 (lv_at hl 1 rfl) ?_
        refine lv_bipush (v := 6) hx hb dL_law_317 (by decide) ?_
        refine tk_irem hx hb dL_law_319 (by decide) ?_
        refine lv_topi (fun y115 ey115 => ?_)
        have hf := tk_nm hf ey115
        exact law_320 l hlst C0 G c3 q hE hC hZ n ih _ _ (by omega) (by omega) x3_115 x5_115 x6_115 r1 y115 S H locs hP hD hS ls (lv_sub hl [3, 4, 5, 6, 7, 8, 0] rfl) hf
      · have hf := tk_neg hf h114
        refine lv_iconst (v := 0) hx hb dL_law_311 (by decide) ?_
        refine lv_goto (tgt := 320) hx hb dL_law_312 (by decide) ?_
        exact law_320 l hlst C0 G c3 q hE hC hZ n ih _ _ (by omega) (by omega) x3_115 x5_115 x6_115 r1 (0 : Int32) S H locs hP hD hS ls (lv_sub hl [3, 4, 5, 6, 7, 8, 0] rfl) hf
  · have hf := tk_pos hf h4
    refine lv_iconst (v := 0) hx hb dL_law_137 (by decide) ?_
    refine lv_istore (lv' := [(10, .int (0 : Int32)), (9, .int r1), (8, .int ((k0_115 >>> ((4 : Int32) &&& 31)) &&& (268435455 : Int32))), (7, .int k0_115), (0, .ref b), (1, .ref (q 0)), (2, .ref (q 17)), (3, .int x3_115), (5, .int x5_115), (6, .int x6_115)]) hx hb dL_law_138 hl (by decide) rfl (fun ls hl => ?_)
    exact law_140 l hlst C0 G c3 q hE hC hZ n ih _ _ (by omega) (by omega) 64 x3_115 x5_115 x6_115 ((k0_115 >>> ((4 : Int32) &&& 31)) &&& (268435455 : Int32)) r1 (0 : Int32) S H locs hP hD hS ls (lv_sub hl [4, 5, 6, 7, 8, 9, 2, 1, 0] rfl) hf
set_option maxHeartbeats 4000000 in
set_option maxRecDepth 100000 in
theorem law_71 {p : Program} {e : Env} {s : State} {m : MethodId} {below : List Frame} {meth : Method} {c : Code} (l : Launch) (hlst : l.stackTraces = false) {b L : Nat} {xs : Nat → Int32} (C0 : lw_At p s m meth c b L xs) (G : va_G) (c3 : ClassId × ClassId × ClassId) (q : Nat → Nat) (hE : tk_E G c3 s) (hC : tk_C s) (hZ : tk_Z (fun x : Nat => s.heap.size ≤ x) s s.heap) : ∀ (n : Nat), law_LS p l e s m below meth c b L xs G c3 q n := by
  obtain ⟨hx, hb, hr, hml, hown, hts0, hX, hbl, hlocks, hgv⟩ := id C0
  have hown : s.vm.findClass RL = some m.cls := hown
  have hts := fun w h => hts0 w (wsL_law_in w h)
  have hA : ∀ x : Nat, s.heap.size ≤ x → (fun x : Nat => s.heap.size ≤ x) x := fun _ h => h
  have hbA : ¬ (fun x : Nat => s.heap.size ≤ x) b := Nat.not_le.mpr hbl
  intro n
  induction n with
  | zero =>
    intro cs ss hc hs x3_71 x4_71 x5_71 x6_71 S H locs hP hD hS ls hl hf
    exact absurd hf (by intro h9; cases h9)
  | succ n ih =>
    intro cs ss hc hs x3_71 x4_71 x5_71 x6_71 S H locs hP hD hS ls hl hf
    rw [f_law_71_s] at hf
    refine lv_iload hx hb dL_law_71 (lv_at hl 6 rfl) ?_
    refine lv_iload hx hb dL_law_73 (lv_at hl 5 rfl) ?_
    refine lv_icmp_ge (tgt := 1096) hx hb dL_law_75 (by decide) (fun h116 => ?_) (fun h116 => ?_)
    · have hf := tk_pos hf h116
      refine lv_iload hx hb dL_law_1096 (lv_at hl 4 rfl) ?_
      refine lv_topi (fun y9 e9 => ?_)
      have e9 := e9.trans (tk_s1 hf)
      subst e9
      refine va_forget (fun q hq => hS.2.2 q hq) ?_
      refine W.widen (k := 600172) (n := 7300668) (by omega) (by omega) ?_
      exact lw_ret hx hb hr hlocks dL_law_1098
    · have hf := tk_neg hf h116
      refine lv_iload hx hb dL_law_78 (lv_at hl 4 rfl) ?_
      refine lv_if_eq (tgt := 1096) hx hb dL_law_80 (by decide) (fun h117 => ?_) (fun h117 => ?_)
      · have hf := tk_pos hf h117
        refine lv_iload hx hb dL_law_1096 (lv_at hl 4 rfl) ?_
        refine lv_topi (fun y9 e9 => ?_)
        have e9 := e9.trans (tk_s1 hf)
        subst e9
        refine va_forget (fun q hq => hS.2.2 q hq) ?_
        refine W.widen (k := 600172) (n := 7300668) (by omega) (by omega) ?_
        exact lw_ret hx hb hr hlocks dL_law_1098
      · have hf := tk_neg hf h117
        refine lv_iload hx hb dL_law_83 (lv_at hl 6 rfl) ?_
        refine lv_aload_n hx hb dL_law_85 rfl (lv_at hl 0 rfl) ?_
        refine va_slen hx hb hX hbl hbA hS dL_law_86 ?_
        refine lv_icmp_ge (tgt := 97) hx hb dL_law_87 (by decide) (fun h118 => ?_) (fun h118 => ?_)
        · have hf := tk_pos hf h118
          refine lv_ldc (v := 810013) hx hb hown (hts0 _ tw_716) dL_law_97 ?_
          refine lv_iload hx hb dL_law_99 (lv_at hl 6 rfl) ?_
          refine lv_imul hx hb dL_law_101 ?_
          refine lv_iload hx hb dL_law_102 (lv_at hl 6 rfl) ?_
          refine lv_imul hx hb dL_law_104 ?_
          refine lv_sipush (v := 27011) hx hb dL_law_105 (by decide) ?_
          refine lv_iload hx hb dL_law_108 (lv_at hl 6 rfl) ?_
          refine lv_imul hx hb dL_law_110 ?_
          refine lv_iadd hx hb dL_law_111 ?_
          refine lv_bipush (v := 28) hx hb dL_law_112 (by decide) ?_
          refine lv_iadd hx hb dL_law_114 ?_
          exact law_115 l hlst C0 G c3 q hE hC hZ n ih _ _ (by omega) (by omega) x3_71 x5_71 x6_71 (((((810013 : Int32) * x6_71) * x6_71) + ((27011 : Int32) * x6_71)) + (28 : Int32)) S H locs hP hD hS ls (lv_sub hl [0, 1, 2, 3, 5, 6] rfl) hf
        · have hf := tk_neg hf h118
          refine lv_aload_n hx hb dL_law_90 rfl (lv_at hl 0 rfl) ?_
          refine lv_iload hx hb dL_law_91 (lv_at hl 6 rfl) ?_
          obtain ⟨h119, hf⟩ := tk_ok hf
          refine va_sld hx hb hX hbl hbA hS h119 dL_law_93 ?_
          refine lv_goto (tgt := 115) hx hb dL_law_94 (by decide) ?_
          exact law_115 l hlst C0 G c3 q hE hC hZ n ih _ _ (by omega) (by omega) x3_71 x5_71 x6_71 (xs x6_71.toNatClampNeg) S H locs hP hD hS ls (lv_sub hl [0, 1, 2, 3, 5, 6] rfl) hf
set_option maxHeartbeats 4000000 in
set_option maxRecDepth 100000 in
theorem law_66 {p : Program} {e : Env} {s : State} {m : MethodId} {below : List Frame} {meth : Method} {c : Code} (l : Launch) (hlst : l.stackTraces = false) {b L : Nat} {xs : Nat → Int32} (C0 : lw_At p s m meth c b L xs) (G : va_G) (c3 : ClassId × ClassId × ClassId) (q : Nat → Nat) (hE : tk_E G c3 s) (hC : tk_C s) (hZ : tk_Z (fun x : Nat => s.heap.size ≤ x) s s.heap) (cs ss : Nat) (hc : cs ≤ 100) (hs : ss ≤ 1000) (x3_66 : Int32) (x4_66 : Int32) (k0_66 : Int32) (S : tk_ST) (H : Heap) (locs : List Loc) (hP : va_P G vwCl (tk_H c3 q S) H) (hD : va_D (fun x : Nat => s.heap.size ≤ x) (tk_H c3 q S)) (hS : va_S (fun x : Nat => s.heap.size ≤ x) s.heap H locs) (ls : Array Slot) (hl : lv_has ls 14 [(0, .ref b), (1, .ref (q 0)), (2, .ref (q 17)), (3, .int x3_66), (4, .int x4_66)]) (hf : f_law_66 L xs x3_66 x4_66 k0_66 S = some (1 : Int32)) : W p l e room_1 s m #[Value.ref b] below meth c H locs cs ss (lw_Z below #[Value.ref b] s) (F0 m 66 ls [.int k0_66]) := by
  obtain ⟨hx, hb, hr, hml, hown, hts0, hX, hbl, hlocks, hgv⟩ := id C0
  have hown : s.vm.findClass RL = some m.cls := hown
  have hts := fun w h => hts0 w (wsL_law_in w h)
  have hA : ∀ x : Nat, s.heap.size ≤ x → (fun x : Nat => s.heap.size ≤ x) x := fun _ h => h
  have hbA : ¬ (fun x : Nat => s.heap.size ≤ x) b := Nat.not_le.mpr hbl
  unfold f_law_66 at hf
  refine lv_istore (lv' := [(5, .int k0_66), (0, .ref b), (1, .ref (q 0)), (2, .ref (q 17)), (3, .int x3_66), (4, .int x4_66)]) hx hb dL_law_66 hl (by decide) rfl (fun ls hl => ?_)
  refine lv_iconst (v := 0) hx hb dL_law_68 (by decide) ?_
  refine lv_istore (lv' := [(6, .int (0 : Int32)), (5, .int k0_66), (0, .ref b), (1, .ref (q 0)), (2, .ref (q 17)), (3, .int x3_66), (4, .int x4_66)]) hx hb dL_law_69 hl (by decide) rfl (fun ls hl => ?_)
  exact law_71 l hlst C0 G c3 q hE hC hZ 500 _ _ (by omega) (by omega) x3_66 x4_66 k0_66 (0 : Int32) S H locs hP hD hS ls (lv_sub hl [2, 3, 4, 5, 6, 1, 0] rfl) hf
set_option maxHeartbeats 4000000 in
set_option maxRecDepth 100000 in
theorem law_34 {p : Program} {e : Env} {s : State} {m : MethodId} {below : List Frame} {meth : Method} {c : Code} (l : Launch) (hlst : l.stackTraces = false) {b L : Nat} {xs : Nat → Int32} (C0 : lw_At p s m meth c b L xs) (G : va_G) (c3 : ClassId × ClassId × ClassId) (q : Nat → Nat) (hE : tk_E G c3 s) (hC : tk_C s) (hZ : tk_Z (fun x : Nat => s.heap.size ≤ x) s s.heap) (cs ss : Nat) (hc : cs ≤ 100) (hs : ss ≤ 1000) (x3_34 : Int32) (k0_34 : Int32) (S : tk_ST) (H : Heap) (locs : List Loc) (hP : va_P G vwCl (tk_H c3 q S) H) (hD : va_D (fun x : Nat => s.heap.size ≤ x) (tk_H c3 q S)) (hS : va_S (fun x : Nat => s.heap.size ≤ x) s.heap H locs) (ls : Array Slot) (hl : lv_has ls 14 [(0, .ref b), (1, .ref (q 0)), (2, .ref (q 17)), (3, .int x3_34)]) (hf : f_law_34 L xs x3_34 k0_34 S = some (1 : Int32)) : W p l e room_1 s m #[Value.ref b] below meth c H locs cs ss (lw_Z below #[Value.ref b] s) (F0 m 34 ls [.int k0_34]) := by
  obtain ⟨hx, hb, hr, hml, hown, hts0, hX, hbl, hlocks, hgv⟩ := id C0
  have hown : s.vm.findClass RL = some m.cls := hown
  have hts := fun w h => hts0 w (wsL_law_in w h)
  have hA : ∀ x : Nat, s.heap.size ≤ x → (fun x : Nat => s.heap.size ≤ x) x := fun _ h => h
  have hbA : ¬ (fun x : Nat => s.heap.size ≤ x) b := Nat.not_le.mpr hbl
  unfold f_law_34 at hf
  refine lv_istore (lv' := [(4, .int k0_34), (0, .ref b), (1, .ref (q 0)), (2, .ref (q 17)), (3, .int x3_34)]) hx hb dL_law_34 hl (by decide) rfl (fun ls hl => ?_)
  refine lv_aload_n hx hb dL_law_36 rfl (lv_at hl 1 rfl) ?_
  refine va_slen hx hb hX hbl hbA hS dL_law_37 ?_
  refine lv_bipush (v := 60) hx hb dL_law_38 (by decide) ?_
  refine lv_icmp_ge (tgt := 49) hx hb dL_law_40 (by decide) (fun h1 => ?_) (fun h1 => ?_)
  · have hf := tk_pos hf h1
    refine lv_aload_n hx hb dL_law_49 rfl (lv_at hl 1 rfl) ?_
    refine va_slen hx hb hX hbl hbA hS dL_law_50 ?_
    refine lv_bipush (v := 120) hx hb dL_law_51 (by decide) ?_
    refine lv_icmp_ge (tgt := 63) hx hb dL_law_53 (by decide) (fun h2 => ?_) (fun h2 => ?_)
    · have hf := tk_pos hf h2
      refine lv_sipush (v := 480) hx hb dL_law_63 (by decide) ?_
      exact law_66 l hlst C0 G c3 q hE hC hZ _ _ (by omega) (by omega) x3_34 k0_34 (480 : Int32) S H locs hP hD hS ls (lv_sub hl [1, 2, 3, 4, 0] rfl) hf
    · have hf := tk_neg hf h2
      refine lv_iconst (v := 4) hx hb dL_law_56 (by decide) ?_
      refine lv_aload_n hx hb dL_law_57 rfl (lv_at hl 1 rfl) ?_
      refine va_slen hx hb hX hbl hbA hS dL_law_58 ?_
      refine lv_imul hx hb dL_law_59 ?_
      refine lv_goto (tgt := 66) hx hb dL_law_60 (by decide) ?_
      exact law_66 l hlst C0 G c3 q hE hC hZ _ _ (by omega) (by omega) x3_34 k0_34 ((4 : Int32) * (Int32.ofNat L)) S H locs hP hD hS ls (lv_sub hl [1, 2, 3, 4, 0] rfl) hf
  · have hf := tk_neg hf h1
    refine lv_sipush (v := 240) hx hb dL_law_43 (by decide) ?_
    refine lv_goto (tgt := 66) hx hb dL_law_46 (by decide) ?_
    exact law_66 l hlst C0 G c3 q hE hC hZ _ _ (by omega) (by omega) x3_34 k0_34 (240 : Int32) S H locs hP hD hS ls (lv_sub hl [1, 2, 3, 4, 0] rfl) hf
set_option maxHeartbeats 4000000 in
set_option maxRecDepth 100000 in
theorem law_33 {p : Program} {e : Env} {s : State} {m : MethodId} {below : List Frame} {meth : Method} {c : Code} (l : Launch) (hlst : l.stackTraces = false) {b L : Nat} {xs : Nat → Int32} (C0 : lw_At p s m meth c b L xs) (G : va_G) (c3 : ClassId × ClassId × ClassId) (q : Nat → Nat) (hE : tk_E G c3 s) (hC : tk_C s) (hZ : tk_Z (fun x : Nat => s.heap.size ≤ x) s s.heap) (cs ss : Nat) (hc : cs ≤ 100) (hs : ss ≤ 1000) (x3_33 : Int32) (S : tk_ST) (H : Heap) (locs : List Loc) (hP : va_P G vwCl (tk_H c3 q S) H) (hD : va_D (fun x : Nat => s.heap.size ≤ x) (tk_H c3 q S)) (hS : va_S (fun x : Nat => s.heap.size ≤ x) s.heap H locs) (ls : Array Slot) (hl : lv_has ls 14 [(0, .ref b), (1, .ref (q 0)), (2, .ref (q 17)), (3, .int x3_33)]) (hf : f_law_33 L xs x3_33 S = some (1 : Int32)) : W p l e room_1 s m #[Value.ref b] below meth c H locs cs ss (lw_Z below #[Value.ref b] s) (F0 m 33 ls []) := by
  obtain ⟨hx, hb, hr, hml, hown, hts0, hX, hbl, hlocks, hgv⟩ := id C0
  have hown : s.vm.findClass RL = some m.cls := hown
  have hts := fun w h => hts0 w (wsL_law_in w h)
  have hA : ∀ x : Nat, s.heap.size ≤ x → (fun x : Nat => s.heap.size ≤ x) x := fun _ h => h
  have hbA : ¬ (fun x : Nat => s.heap.size ≤ x) b := Nat.not_le.mpr hbl
  unfold f_law_33 at hf
  refine lv_iconst (v := 0) hx hb dL_law_33 (by decide) ?_
  exact law_34 l hlst C0 G c3 q hE hC hZ _ _ (by omega) (by omega) x3_33 (0 : Int32) S H locs hP hD hS ls (lv_sub hl [0, 1, 2, 3] rfl) hf
set_option maxHeartbeats 4000000 in
set_option maxRecDepth 100000 in
theorem law_15 {p : Program} {e : Env} {s : State} {m : MethodId} {below : List Frame} {meth : Method} {c : Code} (l : Launch) (hlst : l.stackTraces = false) {b L : Nat} {xs : Nat → Int32} (C0 : lw_At p s m meth c b L xs) (G : va_G) (c3 : ClassId × ClassId × ClassId) (q : Nat → Nat) (hE : tk_E G c3 s) (hC : tk_C s) (hZ : tk_Z (fun x : Nat => s.heap.size ≤ x) s s.heap) (cs ss : Nat) (hc : cs ≤ 100) (hs : ss ≤ 1000) (S : tk_ST) (H : Heap) (locs : List Loc) (hP : va_P G vwCl (tk_H c3 q S) H) (hD : va_D (fun x : Nat => s.heap.size ≤ x) (tk_H c3 q S)) (hS : va_S (fun x : Nat => s.heap.size ≤ x) s.heap H locs) (ls : Array Slot) (hl : lv_has ls 14 [(3, .int (0 : Int32)), (2, .ref (q 17)), (1, .ref (q 0)), (0, .ref b)]) (hf : f_law L xs S = some (1 : Int32)) : W p l e room_1 s m #[Value.ref b] below meth c H locs cs ss (lw_Z below #[Value.ref b] s) (F0 m 15 ls []) := by
  obtain ⟨hx, hb, hr, hml, hown, hts0, hX, hbl, hlocks, hgv⟩ := id C0
  have hown : s.vm.findClass RL = some m.cls := hown
  have hts := fun w h => hts0 w (wsL_law_in w h)
  have hA : ∀ x : Nat, s.heap.size ≤ x → (fun x : Nat => s.heap.size ≤ x) x := fun _ h => h
  have hbA : ¬ (fun x : Nat => s.heap.size ≤ x) b := Nat.not_le.mpr hbl
  unfold f_law at hf
  refine lv_aload_n hx hb dL_law_15 rfl (lv_at hl 2 rfl) ?_
  obtain ⟨r1, h2, hf⟩ := tk_b1s hf
  refine tk_ci (ws' := (tk_H c3 q S)) (va_runS (As := [.ref (q 0)]) (rest := []) ⟨hx, hb, hml, hown, hts⟩ (c_L_areHands l G c3 q S r1 h2 H.size) (va_cwS 1 hts gL_law_L_areHands rfl rfl rfl hs_L_areHands ⟨Nat.le_of_ble_eq_true rfl, Nat.le_of_ble_eq_true rfl⟩) (tk_pS hE hP hD) rfl rfl hl.1 rfl (lv_room (Nat.le_of_ble_eq_true rfl)) dL_law_16 (tk_rm0 (by omega) (by omega))) hD hS hA (fun H locs hP hD hS => ?_)
  refine lv_if_eq (tgt := 33) hx hb dL_law_19 (by decide) (fun h4 => ?_) (fun h4 => ?_)
  · have hf := tk_pos hf h4
    exact law_33 l hlst C0 G c3 q hE hC hZ _ _ (by omega) (by omega) (0 : Int32) S H locs hP hD hS ls (lv_sub hl [3, 2, 1, 0] rfl) hf
  · have hf := tk_neg hf h4
    refine lv_aload_n hx hb dL_law_22 rfl (lv_at hl 2 rfl) ?_
    obtain ⟨r5, h6, hf⟩ := tk_b1s hf
    refine tk_ci (ws' := (tk_H c3 q S)) (va_runS (As := [.ref (q 0)]) (rest := []) ⟨hx, hb, hml, hown, hts⟩ (c_L_areSides l G c3 q S r5 h6 H.size) (va_cwS 1 hts gL_law_L_areSides rfl rfl rfl hs_L_areSides ⟨Nat.le_of_ble_eq_true rfl, Nat.le_of_ble_eq_true rfl⟩) (tk_pS hE hP hD) rfl rfl hl.1 rfl (lv_room (Nat.le_of_ble_eq_true rfl)) dL_law_23 (tk_rm0 (by omega) (by omega))) hD hS hA (fun H locs hP hD hS => ?_)
    refine lv_if_eq (tgt := 33) hx hb dL_law_26 (by decide) (fun h8 => ?_) (fun h8 => ?_)
    · have hf := tk_pos hf h8
      exact law_33 l hlst C0 G c3 q hE hC hZ _ _ (by omega) (by omega) (0 : Int32) S H locs hP hD hS ls (lv_sub hl [3, 2, 1, 0] rfl) hf
    · have hf := tk_neg hf h8
      refine lv_iconst (v := 1) hx hb dL_law_29 (by decide) ?_
      refine lv_goto (tgt := 34) hx hb dL_law_30 (by decide) ?_
      exact law_34 l hlst C0 G c3 q hE hC hZ _ _ (by omega) (by omega) (0 : Int32) (1 : Int32) S H locs hP hD hS ls (lv_sub hl [3, 2, 1, 0] rfl) hf
