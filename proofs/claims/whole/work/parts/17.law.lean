/-! THE CLAIM OUT OF ONE WALK OF THE LAW'S BODY. Your part is whole_start (and what it stands on); all else here is the same for every law, but numbers. -/
def R_law : String := "TarockHallLaw"
def lw_P (b : Addr) (xs : List Int32) (args : Array Value) (s : State) : Prop := args = #[.ref b] ∧ s.IntsAt b xs ∧ xs.length ≤ 1536 ∧ (Jvm.Cond.and given_1 narrow_1).before args s = true
def lw_Q (_ : Array Value) (s : State) (o : Outcome) (t : State) : Prop := o = .returned (some (.int 1)) ∧ Framed s o t [] 668244 7091373
def lw_Z (below : List Frame) (a : Array Value) (s : State) : State → Prop := fun t => ∃ o, t.status = .running ∧ Ended t below o ∧ lw_Q a s o t
/-- the law's own end, with 1 on the stack, nothing written that was there before, its room as the claim has it -/
theorem lw_ret {p : Program} {l : Launch} {e : Env} {s : State} {m : MethodId} {below : List Frame} {meth : Method} {c : Code} {b : Nat} (hx : p.tables.exec = Jvm.exec) (hb : c.code = code) (hr : meth.sig.returnType = ret) (hlocks : meth.locks = false) {pc : Nat} {H : Heap} {ls : Array Slot} (hdg : decode code pc = .ok (.ireturn, 1)) : W p l e room_1 s m #[Value.ref b] below meth c H [] 668244 7091373 (lw_Z below #[Value.ref b] s) (F0 m pc ls [.int 1]) := by
  intro T hT X
  obtain ⟨fs, hret, hrun, hended, hW, hframe⟩ := X.leave (v := some (.int 1)) (hlocks := hlocks) (fun h => by rw [hr] at h; cases h)
  have hmeth' : T.vm.method? m = some meth := X.method'
  refine ⟨T.setFrames fs, ?_, .returned (some (.int 1)), hrun, hended, rfl, ⟨_, rfl⟩, hW, hframe⟩
  jvm_step X.here [X.here.top, hx, hb, hdg, hmeth', hr, ret, narrow_b1]
  (try refine ⟨rfl, ?_⟩); (try refine ⟨rfl, ?_⟩)
  first | (intro acts; rw [hret _ acts rfl rfl rfl]) | rw [hret _ _ rfl rfl rfl]
  exact Steps.refl _
/-- what holds at the law's entry: the machine, the code, the tables' words (any of lw_tbl by 'hts w (by decide +kernel)'), the script of L ints xs at the cell b, what the Statement gives of the start (any of its parts by flat_of_before) -/
def lw_At (p : Program) (s : State) (m : MethodId) (meth : Method) (c : Code) (b L : Nat) (xs : Nat → Int32) : Prop :=
  p.tables.exec = Jvm.exec ∧ c.code = code ∧ meth.sig.returnType = ret ∧ c.maxLocals = 8 ∧ s.vm.findClass R_law = some m.cls ∧ (∀ w ∈ lw_tbl, w.before #[Value.ref b] s = true) ∧ va_X b L xs s s.heap ∧ b < s.heap.size ∧ meth.locks = false ∧ (Jvm.Cond.and given_1 narrow_1).before #[Value.ref b] s = true
set_option maxHeartbeats 4000000 in
set_option maxRecDepth 100000 in
theorem law_c0 {p : Program} {e : Env} {s : State} {m : MethodId} {below : List Frame} {meth : Method} {c : Code} (l : Launch) (hlst : l.stackTraces = false) {b L : Nat} {xs : Nat → Int32} (C0 : lw_At p s m meth c b L xs) (G : va_G) (c3 : ClassId × ClassId × ClassId) (q : Nat → Nat) (hE : tk_E G c3 s) (hC : tk_C s) (hZ : tk_Z (fun x : Nat => s.heap.size ≤ x) s s.heap) (K : tk_ST → (Nat → Int64) → tk_ST → Option Int32) (i : Int32) (S : tk_ST) (o : Nat → Int64) (M : tk_ST) (H : Heap) (locs : List Loc) (cells slots : Nat) (hcs : cells + 1 ≤ 668244 ∧ slots + 6 ≤ 7091373) (hP : va_P G vwCl (tk_W3 c3 q S o M) H) (hD : va_D (fun x : Nat => s.heap.size ≤ x) (tk_W3 c3 q S o M)) (hS : va_S (fun x : Nat => s.heap.size ≤ x) s.heap H locs) (ls : Array Slot) (hl : lv_has ls 8 [(0, .ref b), (1, .ref (q 0)), (2, .ref (q 17)), (3, .ref (q 26)), (4, .int i)]) (hf : f_law_c0 L xs K i S o M = some 1)
    (hk : ∀ (S : tk_ST) (o : Nat → Int64) (M : tk_ST) (H : Heap) (locs : List Loc) (cs ss : Nat), cs ≤ cells + 1 → ss ≤ slots + 6 → va_P G vwCl (tk_W3 c3 q S o M) H → va_D (fun x : Nat => s.heap.size ≤ x) (tk_W3 c3 q S o M) → va_S (fun x : Nat => s.heap.size ≤ x) s.heap H locs → ∀ ls : Array Slot, lv_has ls 8 [(0, .ref b), (1, .ref (q 0)), (2, .ref (q 17)), (3, .ref (q 26)), (4, .int i)] → K S o M = some 1 → W p l e room_1 s m #[Value.ref b] below meth c H locs cs ss (lw_Z below #[Value.ref b] s) (F0 m 1303 ls [])) :
    W p l e room_1 s m #[Value.ref b] below meth c H locs cells slots (lw_Z below #[Value.ref b] s) (F0 m 160 ls []) := by
  obtain ⟨hx, hb, hr, hml, hown, hts, hX, hbl, hlocks, hgv⟩ := id C0
  have hown : s.vm.findClass RL = some m.cls := hown
  have hts := fun w h => hts w (wsL_law_in w h)
  have hA : ∀ x : Nat, s.heap.size ≤ x → (fun x : Nat => s.heap.size ≤ x) x := fun _ h => h
  have hbA : ¬ (fun x : Nat => s.heap.size ≤ x) b := Nat.not_le.mpr hbl
  have h1c : cells + 1 ≤ room_1.cells ∧ slots + 6 ≤ room_1.slots := hcs
  have h0c : cells ≤ room_1.cells ∧ slots ≤ room_1.slots := ⟨Nat.le_trans (Nat.le_add_right _ _) hcs.1, Nat.le_trans (Nat.le_add_right _ _) hcs.2⟩
  unfold f_law_c0 at hf
  refine lv_aload_n hx hb dL_law_160 rfl (lv_at hl 1 rfl) ?_
  refine lv_aload_n hx hb dL_law_161 rfl (lv_at hl 0 rfl) ?_
  refine lv_iload hx hb dL_law_162 (lv_at hl 4 rfl) ?_
  refine lv_iconst (v := 1) hx hb dL_law_164 (by decide) ?_
  refine lv_iadd hx hb dL_law_165 ?_
  obtain ⟨h1, hf⟩ := tk_ok hf
  refine va_sld hx hb hX hbl hbA hS h1 dL_law_166 ?_
  refine lv_aload_n hx hb dL_law_167 rfl (lv_at hl 3 rfl) ?_
  obtain ⟨k2, S3, o4, h5, hf⟩ := tk_b3s hf
  refine tk_ciL (a := tk_H c3 q S ++ tk_O c3 q o) (a' := tk_H c3 q S3 ++ tk_O c3 q o4) (b := tk_M c3 q M) (vx_runSW (As := [.ref (q 0), .int (xs (i + (1 : Int32)).toNatClampNeg), .ref (q 26)]) (rest := []) ⟨hx, hb, hml, hown, hts⟩ (c_L_deal l hlst G c3 q S o (xs (i + (1 : Int32)).toNatClampNeg) k2 S3 o4 h5 H.size) (vx_cwSW 3 hts gL_law_L_deal rfl rfl rfl hs_L_deal ⟨Nat.le_of_ble_eq_true rfl, Nat.le_of_ble_eq_true rfl⟩) (tk_pSL hE hZ hC (tk_Pl hP) (tk_Dl hD) hS hA) rfl rfl hl.1 rfl (lv_room (Nat.le_of_ble_eq_true rfl)) dL_law_168 h1c) hP hD hS hA (fun H locs hP hD hS => ?_)
  refine lv_istore (lv' := [(5, .int k2), (0, .ref b), (1, .ref (q 0)), (2, .ref (q 17)), (3, .ref (q 26)), (4, .int i)]) hx hb dL_law_171 hl (by decide) rfl (fun ls hl => ?_)
  refine lv_aload_n hx hb dL_law_173 rfl (lv_at hl 3 rfl) ?_
  refine lv_aload_n hx hb dL_law_174 rfl (lv_at hl 1 rfl) ?_
  refine lv_iload hx hb dL_law_175 (lv_at hl 5 rfl) ?_
  refine lv_iconst (v := 1) hx hb dL_law_177 (by decide) ?_
  refine lv_iadd hx hb dL_law_178 ?_
  obtain ⟨h6, hf⟩ := tk_ok hf
  refine va_sld hx hb hX hbl hbA hS h6 dL_law_179 ?_
  obtain ⟨r7, M9, h8, hf⟩ := tk_b2s hf
  refine tk_ciR (a := tk_H c3 q S3 ++ tk_O c3 q o4) (b := tk_M c3 q M) (b' := tk_M c3 q M9) (va_runV (As := [.int (xs (i + (1 : Int32)).toNatClampNeg)]) (rest := []) ⟨hx, hb, hml, hown, hts⟩ (c_X7_deal l G c3 q M (xs (i + (1 : Int32)).toNatClampNeg) r7 M9 h8 H.size) (cwV 1 hts gL_law_X7_deal rfl rfl rfl hv_X7_deal ⟨Nat.le_of_ble_eq_true rfl, Nat.le_of_ble_eq_true rfl⟩) (tk_pV hE (tk_Pr hP) (tk_Dr hD) 0 rfl rfl) rfl rfl hl.1 rfl (lv_room (Nat.le_of_ble_eq_true rfl)) dL_law_180 h1c) hP hD hS hA (fun H locs hP hD hS => ?_)
  refine lv_istore (lv' := [(6, .int r7), (5, .int k2), (0, .ref b), (1, .ref (q 0)), (2, .ref (q 17)), (3, .ref (q 26)), (4, .int i)]) hx hb dL_law_183 hl (by decide) rfl (fun ls hl => ?_)
  refine lv_aload_n hx hb dL_law_185 rfl (lv_at hl 4 rfl) ?_
  obtain ⟨r10, h11, hf⟩ := tk_b1s hf
  refine tk_ciR (a := tk_H c3 q S3 ++ tk_O c3 q o4) (b := tk_M c3 q M9) (b' := tk_M c3 q M9) (va_runV (As := []) (rest := []) ⟨hx, hb, hml, hown, hts⟩ (c_X7_thrown l G c3 q M9 r10 h11 H.size) (cwV 0 hts gL_law_X7_thrown rfl rfl rfl hv_X7_thrown ⟨Nat.le_of_ble_eq_true rfl, Nat.le_of_ble_eq_true rfl⟩) (tk_pV hE (tk_Pr hP) (tk_Dr hD) 0 rfl rfl) rfl rfl hl.1 rfl (lv_room (Nat.le_of_ble_eq_true rfl)) dL_law_186 h1c) hP hD hS hA (fun H locs hP hD hS => ?_)
  refine lv_iload hx hb dL_law_189 (lv_at hl 1 rfl) ?_
  refine lv_icmp_eq (tgt := 196) hx hb dL_law_191 (by decide) (fun h12 => ?_) (fun h12 => ?_)
  · have hf := tk_pos hf h12
    refine lv_iload hx hb dL_law_196 (lv_at hl 1 rfl) ?_
    refine lv_if_ne (tgt := 213) hx hb dL_law_198 (by decide) (fun h13 => ?_) (fun h13 => ?_)
    · have hf := tk_neg hf h13
      refine lv_goto (tgt := 1303) hx hb dL_law_213 (by decide) ?_
      exact hk S3 o4 M9 H locs _ _ (by omega) (by omega) hP hD hS ls (lv_sub hl [2, 3, 4, 5, 6] rfl) hf
    · have hf := tk_pos hf h13
      refine lv_aload_n hx hb dL_law_201 rfl (lv_at hl 5 rfl) ?_
      refine lv_iconst (v := 0) hx hb dL_law_202 (by decide) ?_
      refine va_lald (f := o4) hx hb hE.1 hP 17 1 rfl rfl tk_in01 dL_law_203 ?_
      refine lv_iload hx hb dL_law_204 (lv_at hl 0 rfl) ?_
      refine lv_i2l (v := r7.toInt64) hx hb dL_law_206 rfl ?_
      refine W.lcmp hx hb dL_law_207 ?_
      refine lv_if_eq (tgt := 213) hx hb dL_law_208 (by decide) (fun h14 => ?_) (fun h14 => ?_)
      · have hf := tk_pos hf h14
        refine lv_goto (tgt := 1303) hx hb dL_law_213 (by decide) ?_
        exact hk S3 o4 M9 H locs _ _ (by omega) (by omega) hP hD hS ls (lv_sub hl [2, 3, 4, 5, 6] rfl) hf
      · have hf := tk_neg hf h14
        refine lv_iconst (v := 0) hx hb dL_law_211 (by decide) ?_
        exact absurd (tk_s1 hf) (by decide)
  · have hf := tk_neg hf h12
    refine lv_iconst (v := 0) hx hb dL_law_194 (by decide) ?_
    exact absurd (tk_s1 hf) (by decide)
set_option maxHeartbeats 4000000 in
set_option maxRecDepth 100000 in
theorem law_c1 {p : Program} {e : Env} {s : State} {m : MethodId} {below : List Frame} {meth : Method} {c : Code} (l : Launch) (hlst : l.stackTraces = false) {b L : Nat} {xs : Nat → Int32} (C0 : lw_At p s m meth c b L xs) (G : va_G) (c3 : ClassId × ClassId × ClassId) (q : Nat → Nat) (hE : tk_E G c3 s) (hC : tk_C s) (hZ : tk_Z (fun x : Nat => s.heap.size ≤ x) s s.heap) (K : tk_ST → (Nat → Int64) → tk_ST → Option Int32) (i : Int32) (S : tk_ST) (o : Nat → Int64) (M : tk_ST) (H : Heap) (locs : List Loc) (cells slots : Nat) (hcs : cells + 1 ≤ 668244 ∧ slots + 6 ≤ 7091373) (hP : va_P G vwCl (tk_W3 c3 q S o M) H) (hD : va_D (fun x : Nat => s.heap.size ≤ x) (tk_W3 c3 q S o M)) (hS : va_S (fun x : Nat => s.heap.size ≤ x) s.heap H locs) (ls : Array Slot) (hl : lv_has ls 8 [(0, .ref b), (1, .ref (q 0)), (2, .ref (q 17)), (3, .ref (q 26)), (4, .int i)]) (hf : f_law_c1 L xs K i S o M = some 1)
    (hk : ∀ (S : tk_ST) (o : Nat → Int64) (M : tk_ST) (H : Heap) (locs : List Loc) (cs ss : Nat), cs ≤ cells + 1 → ss ≤ slots + 6 → va_P G vwCl (tk_W3 c3 q S o M) H → va_D (fun x : Nat => s.heap.size ≤ x) (tk_W3 c3 q S o M) → va_S (fun x : Nat => s.heap.size ≤ x) s.heap H locs → ∀ ls : Array Slot, lv_has ls 8 [(0, .ref b), (1, .ref (q 0)), (2, .ref (q 17)), (3, .ref (q 26)), (4, .int i)] → K S o M = some 1 → W p l e room_1 s m #[Value.ref b] below meth c H locs cs ss (lw_Z below #[Value.ref b] s) (F0 m 1303 ls [])) :
    W p l e room_1 s m #[Value.ref b] below meth c H locs cells slots (lw_Z below #[Value.ref b] s) (F0 m 216 ls []) := by
  obtain ⟨hx, hb, hr, hml, hown, hts, hX, hbl, hlocks, hgv⟩ := id C0
  have hown : s.vm.findClass RL = some m.cls := hown
  have hts := fun w h => hts w (wsL_law_in w h)
  have hA : ∀ x : Nat, s.heap.size ≤ x → (fun x : Nat => s.heap.size ≤ x) x := fun _ h => h
  have hbA : ¬ (fun x : Nat => s.heap.size ≤ x) b := Nat.not_le.mpr hbl
  have h1c : cells + 1 ≤ room_1.cells ∧ slots + 6 ≤ room_1.slots := hcs
  have h0c : cells ≤ room_1.cells ∧ slots ≤ room_1.slots := ⟨Nat.le_trans (Nat.le_add_right _ _) hcs.1, Nat.le_trans (Nat.le_add_right _ _) hcs.2⟩
  unfold f_law_c1 at hf
  refine lv_aload_n hx hb dL_law_216 rfl (lv_at hl 1 rfl) ?_
  refine lv_aload_n hx hb dL_law_217 rfl (lv_at hl 0 rfl) ?_
  refine lv_iload hx hb dL_law_218 (lv_at hl 4 rfl) ?_
  refine lv_iconst (v := 1) hx hb dL_law_220 (by decide) ?_
  refine lv_iadd hx hb dL_law_221 ?_
  obtain ⟨h1, hf⟩ := tk_ok hf
  refine va_sld hx hb hX hbl hbA hS h1 dL_law_222 ?_
  refine lv_aload_n hx hb dL_law_223 rfl (lv_at hl 3 rfl) ?_
  obtain ⟨k2, S3, o4, h5, hf⟩ := tk_b3s hf
  refine tk_ciL (a := tk_H c3 q S ++ tk_O c3 q o) (a' := tk_H c3 q S3 ++ tk_O c3 q o4) (b := tk_M c3 q M) (vx_runSW (As := [.ref (q 0), .int (xs (i + (1 : Int32)).toNatClampNeg), .ref (q 26)]) (rest := []) ⟨hx, hb, hml, hown, hts⟩ (c_L_bid l hlst G c3 q S o (xs (i + (1 : Int32)).toNatClampNeg) k2 S3 o4 h5 H.size) (vx_cwSW 3 hts gL_law_L_bid rfl rfl rfl hs_L_bid ⟨Nat.le_of_ble_eq_true rfl, Nat.le_of_ble_eq_true rfl⟩) (tk_pSL hE hZ hC (tk_Pl hP) (tk_Dl hD) hS hA) rfl rfl hl.1 rfl (lv_room (Nat.le_of_ble_eq_true rfl)) dL_law_224 h1c) hP hD hS hA (fun H locs hP hD hS => ?_)
  refine lv_istore (lv' := [(5, .int k2), (0, .ref b), (1, .ref (q 0)), (2, .ref (q 17)), (3, .ref (q 26)), (4, .int i)]) hx hb dL_law_227 hl (by decide) rfl (fun ls hl => ?_)
  refine lv_aload_n hx hb dL_law_229 rfl (lv_at hl 3 rfl) ?_
  refine lv_aload_n hx hb dL_law_230 rfl (lv_at hl 1 rfl) ?_
  refine lv_iload hx hb dL_law_231 (lv_at hl 5 rfl) ?_
  refine lv_iconst (v := 1) hx hb dL_law_233 (by decide) ?_
  refine lv_iadd hx hb dL_law_234 ?_
  obtain ⟨h6, hf⟩ := tk_ok hf
  refine va_sld hx hb hX hbl hbA hS h6 dL_law_235 ?_
  obtain ⟨r7, M9, h8, hf⟩ := tk_b2s hf
  refine tk_ciR (a := tk_H c3 q S3 ++ tk_O c3 q o4) (b := tk_M c3 q M) (b' := tk_M c3 q M9) (va_runV (As := [.int (xs (i + (1 : Int32)).toNatClampNeg)]) (rest := []) ⟨hx, hb, hml, hown, hts⟩ (c_X7_bid l G c3 q M (xs (i + (1 : Int32)).toNatClampNeg) r7 M9 h8 H.size) (cwV 1 hts gL_law_X7_bid rfl rfl rfl hv_X7_bid ⟨Nat.le_of_ble_eq_true rfl, Nat.le_of_ble_eq_true rfl⟩) (tk_pV hE (tk_Pr hP) (tk_Dr hD) 0 rfl rfl) rfl rfl hl.1 rfl (lv_room (Nat.le_of_ble_eq_true rfl)) dL_law_236 h1c) hP hD hS hA (fun H locs hP hD hS => ?_)
  refine lv_istore (lv' := [(6, .int r7), (5, .int k2), (0, .ref b), (1, .ref (q 0)), (2, .ref (q 17)), (3, .ref (q 26)), (4, .int i)]) hx hb dL_law_239 hl (by decide) rfl (fun ls hl => ?_)
  refine lv_aload_n hx hb dL_law_241 rfl (lv_at hl 4 rfl) ?_
  obtain ⟨r10, h11, hf⟩ := tk_b1s hf
  refine tk_ciR (a := tk_H c3 q S3 ++ tk_O c3 q o4) (b := tk_M c3 q M9) (b' := tk_M c3 q M9) (va_runV (As := []) (rest := []) ⟨hx, hb, hml, hown, hts⟩ (c_X7_thrown l G c3 q M9 r10 h11 H.size) (cwV 0 hts gL_law_X7_thrown rfl rfl rfl hv_X7_thrown ⟨Nat.le_of_ble_eq_true rfl, Nat.le_of_ble_eq_true rfl⟩) (tk_pV hE (tk_Pr hP) (tk_Dr hD) 0 rfl rfl) rfl rfl hl.1 rfl (lv_room (Nat.le_of_ble_eq_true rfl)) dL_law_242 h1c) hP hD hS hA (fun H locs hP hD hS => ?_)
  refine lv_iload hx hb dL_law_245 (lv_at hl 1 rfl) ?_
  refine lv_icmp_eq (tgt := 252) hx hb dL_law_247 (by decide) (fun h12 => ?_) (fun h12 => ?_)
  · have hf := tk_pos hf h12
    refine lv_iload hx hb dL_law_252 (lv_at hl 1 rfl) ?_
    refine lv_if_ne (tgt := 269) hx hb dL_law_254 (by decide) (fun h13 => ?_) (fun h13 => ?_)
    · have hf := tk_neg hf h13
      refine lv_goto (tgt := 1303) hx hb dL_law_269 (by decide) ?_
      exact hk S3 o4 M9 H locs _ _ (by omega) (by omega) hP hD hS ls (lv_sub hl [2, 3, 4, 5, 6] rfl) hf
    · have hf := tk_pos hf h13
      refine lv_aload_n hx hb dL_law_257 rfl (lv_at hl 5 rfl) ?_
      refine lv_iconst (v := 0) hx hb dL_law_258 (by decide) ?_
      refine va_lald (f := o4) hx hb hE.1 hP 17 1 rfl rfl tk_in01 dL_law_259 ?_
      refine lv_iload hx hb dL_law_260 (lv_at hl 0 rfl) ?_
      refine lv_i2l (v := r7.toInt64) hx hb dL_law_262 rfl ?_
      refine W.lcmp hx hb dL_law_263 ?_
      refine lv_if_eq (tgt := 269) hx hb dL_law_264 (by decide) (fun h14 => ?_) (fun h14 => ?_)
      · have hf := tk_pos hf h14
        refine lv_goto (tgt := 1303) hx hb dL_law_269 (by decide) ?_
        exact hk S3 o4 M9 H locs _ _ (by omega) (by omega) hP hD hS ls (lv_sub hl [2, 3, 4, 5, 6] rfl) hf
      · have hf := tk_neg hf h14
        refine lv_iconst (v := 0) hx hb dL_law_267 (by decide) ?_
        exact absurd (tk_s1 hf) (by decide)
  · have hf := tk_neg hf h12
    refine lv_iconst (v := 0) hx hb dL_law_250 (by decide) ?_
    exact absurd (tk_s1 hf) (by decide)
set_option maxHeartbeats 4000000 in
set_option maxRecDepth 100000 in
theorem law_c2 {p : Program} {e : Env} {s : State} {m : MethodId} {below : List Frame} {meth : Method} {c : Code} (l : Launch) (hlst : l.stackTraces = false) {b L : Nat} {xs : Nat → Int32} (C0 : lw_At p s m meth c b L xs) (G : va_G) (c3 : ClassId × ClassId × ClassId) (q : Nat → Nat) (hE : tk_E G c3 s) (hC : tk_C s) (hZ : tk_Z (fun x : Nat => s.heap.size ≤ x) s s.heap) (K : tk_ST → (Nat → Int64) → tk_ST → Option Int32) (i : Int32) (S : tk_ST) (o : Nat → Int64) (M : tk_ST) (H : Heap) (locs : List Loc) (cells slots : Nat) (hcs : cells + 1 ≤ 668244 ∧ slots + 6 ≤ 7091373) (hP : va_P G vwCl (tk_W3 c3 q S o M) H) (hD : va_D (fun x : Nat => s.heap.size ≤ x) (tk_W3 c3 q S o M)) (hS : va_S (fun x : Nat => s.heap.size ≤ x) s.heap H locs) (ls : Array Slot) (hl : lv_has ls 8 [(0, .ref b), (1, .ref (q 0)), (2, .ref (q 17)), (3, .ref (q 26)), (4, .int i)]) (hf : f_law_c2 L xs K i S o M = some 1)
    (hk : ∀ (S : tk_ST) (o : Nat → Int64) (M : tk_ST) (H : Heap) (locs : List Loc) (cs ss : Nat), cs ≤ cells + 1 → ss ≤ slots + 6 → va_P G vwCl (tk_W3 c3 q S o M) H → va_D (fun x : Nat => s.heap.size ≤ x) (tk_W3 c3 q S o M) → va_S (fun x : Nat => s.heap.size ≤ x) s.heap H locs → ∀ ls : Array Slot, lv_has ls 8 [(0, .ref b), (1, .ref (q 0)), (2, .ref (q 17)), (3, .ref (q 26)), (4, .int i)] → K S o M = some 1 → W p l e room_1 s m #[Value.ref b] below meth c H locs cs ss (lw_Z below #[Value.ref b] s) (F0 m 1303 ls [])) :
    W p l e room_1 s m #[Value.ref b] below meth c H locs cells slots (lw_Z below #[Value.ref b] s) (F0 m 272 ls []) := by
  obtain ⟨hx, hb, hr, hml, hown, hts, hX, hbl, hlocks, hgv⟩ := id C0
  have hown : s.vm.findClass RL = some m.cls := hown
  have hts := fun w h => hts w (wsL_law_in w h)
  have hA : ∀ x : Nat, s.heap.size ≤ x → (fun x : Nat => s.heap.size ≤ x) x := fun _ h => h
  have hbA : ¬ (fun x : Nat => s.heap.size ≤ x) b := Nat.not_le.mpr hbl
  have h1c : cells + 1 ≤ room_1.cells ∧ slots + 6 ≤ room_1.slots := hcs
  have h0c : cells ≤ room_1.cells ∧ slots ≤ room_1.slots := ⟨Nat.le_trans (Nat.le_add_right _ _) hcs.1, Nat.le_trans (Nat.le_add_right _ _) hcs.2⟩
  unfold f_law_c2 at hf
  refine lv_aload_n hx hb dL_law_272 rfl (lv_at hl 1 rfl) ?_
  refine lv_aload_n hx hb dL_law_273 rfl (lv_at hl 0 rfl) ?_
  refine lv_iload hx hb dL_law_274 (lv_at hl 4 rfl) ?_
  refine lv_iconst (v := 1) hx hb dL_law_276 (by decide) ?_
  refine lv_iadd hx hb dL_law_277 ?_
  obtain ⟨h1, hf⟩ := tk_ok hf
  refine va_sld hx hb hX hbl hbA hS h1 dL_law_278 ?_
  refine lv_aload_n hx hb dL_law_279 rfl (lv_at hl 3 rfl) ?_
  obtain ⟨k2, S3, o4, h5, hf⟩ := tk_b3s hf
  refine tk_ciL (a := tk_H c3 q S ++ tk_O c3 q o) (a' := tk_H c3 q S3 ++ tk_O c3 q o4) (b := tk_M c3 q M) (vx_runSW (As := [.ref (q 0), .int (xs (i + (1 : Int32)).toNatClampNeg), .ref (q 26)]) (rest := []) ⟨hx, hb, hml, hown, hts⟩ (c_L_call l hlst G c3 q S o (xs (i + (1 : Int32)).toNatClampNeg) k2 S3 o4 h5 H.size) (vx_cwSW 3 hts gL_law_L_call rfl rfl rfl hs_L_call ⟨Nat.le_of_ble_eq_true rfl, Nat.le_of_ble_eq_true rfl⟩) (tk_pSL hE hZ hC (tk_Pl hP) (tk_Dl hD) hS hA) rfl rfl hl.1 rfl (lv_room (Nat.le_of_ble_eq_true rfl)) dL_law_280 h1c) hP hD hS hA (fun H locs hP hD hS => ?_)
  refine lv_istore (lv' := [(5, .int k2), (0, .ref b), (1, .ref (q 0)), (2, .ref (q 17)), (3, .ref (q 26)), (4, .int i)]) hx hb dL_law_283 hl (by decide) rfl (fun ls hl => ?_)
  refine lv_aload_n hx hb dL_law_285 rfl (lv_at hl 3 rfl) ?_
  refine lv_aload_n hx hb dL_law_286 rfl (lv_at hl 1 rfl) ?_
  refine lv_iload hx hb dL_law_287 (lv_at hl 5 rfl) ?_
  refine lv_iconst (v := 1) hx hb dL_law_289 (by decide) ?_
  refine lv_iadd hx hb dL_law_290 ?_
  obtain ⟨h6, hf⟩ := tk_ok hf
  refine va_sld hx hb hX hbl hbA hS h6 dL_law_291 ?_
  obtain ⟨r7, M9, h8, hf⟩ := tk_b2s hf
  refine tk_ciR (a := tk_H c3 q S3 ++ tk_O c3 q o4) (b := tk_M c3 q M) (b' := tk_M c3 q M9) (va_runV (As := [.int (xs (i + (1 : Int32)).toNatClampNeg)]) (rest := []) ⟨hx, hb, hml, hown, hts⟩ (c_X7_call l G c3 q M (xs (i + (1 : Int32)).toNatClampNeg) r7 M9 h8 H.size) (cwV 1 hts gL_law_X7_call rfl rfl rfl hv_X7_call ⟨Nat.le_of_ble_eq_true rfl, Nat.le_of_ble_eq_true rfl⟩) (tk_pV hE (tk_Pr hP) (tk_Dr hD) 0 rfl rfl) rfl rfl hl.1 rfl (lv_room (Nat.le_of_ble_eq_true rfl)) dL_law_292 h1c) hP hD hS hA (fun H locs hP hD hS => ?_)
  refine lv_istore (lv' := [(6, .int r7), (5, .int k2), (0, .ref b), (1, .ref (q 0)), (2, .ref (q 17)), (3, .ref (q 26)), (4, .int i)]) hx hb dL_law_295 hl (by decide) rfl (fun ls hl => ?_)
  refine lv_aload_n hx hb dL_law_297 rfl (lv_at hl 4 rfl) ?_
  obtain ⟨r10, h11, hf⟩ := tk_b1s hf
  refine tk_ciR (a := tk_H c3 q S3 ++ tk_O c3 q o4) (b := tk_M c3 q M9) (b' := tk_M c3 q M9) (va_runV (As := []) (rest := []) ⟨hx, hb, hml, hown, hts⟩ (c_X7_thrown l G c3 q M9 r10 h11 H.size) (cwV 0 hts gL_law_X7_thrown rfl rfl rfl hv_X7_thrown ⟨Nat.le_of_ble_eq_true rfl, Nat.le_of_ble_eq_true rfl⟩) (tk_pV hE (tk_Pr hP) (tk_Dr hD) 0 rfl rfl) rfl rfl hl.1 rfl (lv_room (Nat.le_of_ble_eq_true rfl)) dL_law_298 h1c) hP hD hS hA (fun H locs hP hD hS => ?_)
  refine lv_iload hx hb dL_law_301 (lv_at hl 1 rfl) ?_
  refine lv_icmp_eq (tgt := 308) hx hb dL_law_303 (by decide) (fun h12 => ?_) (fun h12 => ?_)
  · have hf := tk_pos hf h12
    refine lv_iload hx hb dL_law_308 (lv_at hl 1 rfl) ?_
    refine lv_if_ne (tgt := 325) hx hb dL_law_310 (by decide) (fun h13 => ?_) (fun h13 => ?_)
    · have hf := tk_neg hf h13
      refine lv_goto (tgt := 1303) hx hb dL_law_325 (by decide) ?_
      exact hk S3 o4 M9 H locs _ _ (by omega) (by omega) hP hD hS ls (lv_sub hl [2, 3, 4, 5, 6] rfl) hf
    · have hf := tk_pos hf h13
      refine lv_aload_n hx hb dL_law_313 rfl (lv_at hl 5 rfl) ?_
      refine lv_iconst (v := 0) hx hb dL_law_314 (by decide) ?_
      refine va_lald (f := o4) hx hb hE.1 hP 17 1 rfl rfl tk_in01 dL_law_315 ?_
      refine lv_iload hx hb dL_law_316 (lv_at hl 0 rfl) ?_
      refine lv_i2l (v := r7.toInt64) hx hb dL_law_318 rfl ?_
      refine W.lcmp hx hb dL_law_319 ?_
      refine lv_if_eq (tgt := 325) hx hb dL_law_320 (by decide) (fun h14 => ?_) (fun h14 => ?_)
      · have hf := tk_pos hf h14
        refine lv_goto (tgt := 1303) hx hb dL_law_325 (by decide) ?_
        exact hk S3 o4 M9 H locs _ _ (by omega) (by omega) hP hD hS ls (lv_sub hl [2, 3, 4, 5, 6] rfl) hf
      · have hf := tk_neg hf h14
        refine lv_iconst (v := 0) hx hb dL_law_323 (by decide) ?_
        exact absurd (tk_s1 hf) (by decide)
  · have hf := tk_neg hf h12
    refine lv_iconst (v := 0) hx hb dL_law_306 (by decide) ?_
    exact absurd (tk_s1 hf) (by decide)
set_option maxHeartbeats 4000000 in
set_option maxRecDepth 100000 in
theorem law_c3 {p : Program} {e : Env} {s : State} {m : MethodId} {below : List Frame} {meth : Method} {c : Code} (l : Launch) (hlst : l.stackTraces = false) {b L : Nat} {xs : Nat → Int32} (C0 : lw_At p s m meth c b L xs) (G : va_G) (c3 : ClassId × ClassId × ClassId) (q : Nat → Nat) (hE : tk_E G c3 s) (hC : tk_C s) (hZ : tk_Z (fun x : Nat => s.heap.size ≤ x) s s.heap) (K : tk_ST → (Nat → Int64) → tk_ST → Option Int32) (i : Int32) (S : tk_ST) (o : Nat → Int64) (M : tk_ST) (H : Heap) (locs : List Loc) (cells slots : Nat) (hcs : cells + 1 ≤ 668244 ∧ slots + 6 ≤ 7091373) (hP : va_P G vwCl (tk_W3 c3 q S o M) H) (hD : va_D (fun x : Nat => s.heap.size ≤ x) (tk_W3 c3 q S o M)) (hS : va_S (fun x : Nat => s.heap.size ≤ x) s.heap H locs) (ls : Array Slot) (hl : lv_has ls 8 [(0, .ref b), (1, .ref (q 0)), (2, .ref (q 17)), (3, .ref (q 26)), (4, .int i)]) (hf : f_law_c3 L xs K i S o M = some 1)
    (hk : ∀ (S : tk_ST) (o : Nat → Int64) (M : tk_ST) (H : Heap) (locs : List Loc) (cs ss : Nat), cs ≤ cells + 1 → ss ≤ slots + 6 → va_P G vwCl (tk_W3 c3 q S o M) H → va_D (fun x : Nat => s.heap.size ≤ x) (tk_W3 c3 q S o M) → va_S (fun x : Nat => s.heap.size ≤ x) s.heap H locs → ∀ ls : Array Slot, lv_has ls 8 [(0, .ref b), (1, .ref (q 0)), (2, .ref (q 17)), (3, .ref (q 26)), (4, .int i)] → K S o M = some 1 → W p l e room_1 s m #[Value.ref b] below meth c H locs cs ss (lw_Z below #[Value.ref b] s) (F0 m 1303 ls [])) :
    W p l e room_1 s m #[Value.ref b] below meth c H locs cells slots (lw_Z below #[Value.ref b] s) (F0 m 328 ls []) := by
  obtain ⟨hx, hb, hr, hml, hown, hts, hX, hbl, hlocks, hgv⟩ := id C0
  have hown : s.vm.findClass RL = some m.cls := hown
  have hts := fun w h => hts w (wsL_law_in w h)
  have hA : ∀ x : Nat, s.heap.size ≤ x → (fun x : Nat => s.heap.size ≤ x) x := fun _ h => h
  have hbA : ¬ (fun x : Nat => s.heap.size ≤ x) b := Nat.not_le.mpr hbl
  have h1c : cells + 1 ≤ room_1.cells ∧ slots + 6 ≤ room_1.slots := hcs
  have h0c : cells ≤ room_1.cells ∧ slots ≤ room_1.slots := ⟨Nat.le_trans (Nat.le_add_right _ _) hcs.1, Nat.le_trans (Nat.le_add_right _ _) hcs.2⟩
  unfold f_law_c3 at hf
  refine lv_aload_n hx hb dL_law_328 rfl (lv_at hl 1 rfl) ?_
  refine lv_aload_n hx hb dL_law_329 rfl (lv_at hl 0 rfl) ?_
  refine lv_iload hx hb dL_law_330 (lv_at hl 4 rfl) ?_
  refine lv_iconst (v := 1) hx hb dL_law_332 (by decide) ?_
  refine lv_iadd hx hb dL_law_333 ?_
  obtain ⟨h1, hf⟩ := tk_ok hf
  refine va_sld hx hb hX hbl hbA hS h1 dL_law_334 ?_
  refine lv_aload_n hx hb dL_law_335 rfl (lv_at hl 3 rfl) ?_
  obtain ⟨k2, S3, o4, h5, hf⟩ := tk_b3s hf
  refine tk_ciL (a := tk_H c3 q S ++ tk_O c3 q o) (a' := tk_H c3 q S3 ++ tk_O c3 q o4) (b := tk_M c3 q M) (vx_runSW (As := [.ref (q 0), .int (xs (i + (1 : Int32)).toNatClampNeg), .ref (q 26)]) (rest := []) ⟨hx, hb, hml, hown, hts⟩ (c_L_take l hlst G c3 q S o (xs (i + (1 : Int32)).toNatClampNeg) k2 S3 o4 h5 H.size) (vx_cwSW 3 hts gL_law_L_take rfl rfl rfl hs_L_take ⟨Nat.le_of_ble_eq_true rfl, Nat.le_of_ble_eq_true rfl⟩) (tk_pSL hE hZ hC (tk_Pl hP) (tk_Dl hD) hS hA) rfl rfl hl.1 rfl (lv_room (Nat.le_of_ble_eq_true rfl)) dL_law_336 h1c) hP hD hS hA (fun H locs hP hD hS => ?_)
  refine lv_istore (lv' := [(5, .int k2), (0, .ref b), (1, .ref (q 0)), (2, .ref (q 17)), (3, .ref (q 26)), (4, .int i)]) hx hb dL_law_339 hl (by decide) rfl (fun ls hl => ?_)
  refine lv_aload_n hx hb dL_law_341 rfl (lv_at hl 3 rfl) ?_
  refine lv_aload_n hx hb dL_law_342 rfl (lv_at hl 1 rfl) ?_
  refine lv_iload hx hb dL_law_343 (lv_at hl 5 rfl) ?_
  refine lv_iconst (v := 1) hx hb dL_law_345 (by decide) ?_
  refine lv_iadd hx hb dL_law_346 ?_
  obtain ⟨h6, hf⟩ := tk_ok hf
  refine va_sld hx hb hX hbl hbA hS h6 dL_law_347 ?_
  obtain ⟨r7, M9, h8, hf⟩ := tk_b2s hf
  refine tk_ciR (a := tk_H c3 q S3 ++ tk_O c3 q o4) (b := tk_M c3 q M) (b' := tk_M c3 q M9) (va_runV (As := [.int (xs (i + (1 : Int32)).toNatClampNeg)]) (rest := []) ⟨hx, hb, hml, hown, hts⟩ (c_X7_take l G c3 q M (xs (i + (1 : Int32)).toNatClampNeg) r7 M9 h8 H.size) (cwV 1 hts gL_law_X7_take rfl rfl rfl hv_X7_take ⟨Nat.le_of_ble_eq_true rfl, Nat.le_of_ble_eq_true rfl⟩) (tk_pV hE (tk_Pr hP) (tk_Dr hD) 0 rfl rfl) rfl rfl hl.1 rfl (lv_room (Nat.le_of_ble_eq_true rfl)) dL_law_348 h1c) hP hD hS hA (fun H locs hP hD hS => ?_)
  refine lv_istore (lv' := [(6, .int r7), (5, .int k2), (0, .ref b), (1, .ref (q 0)), (2, .ref (q 17)), (3, .ref (q 26)), (4, .int i)]) hx hb dL_law_351 hl (by decide) rfl (fun ls hl => ?_)
  refine lv_aload_n hx hb dL_law_353 rfl (lv_at hl 4 rfl) ?_
  obtain ⟨r10, h11, hf⟩ := tk_b1s hf
  refine tk_ciR (a := tk_H c3 q S3 ++ tk_O c3 q o4) (b := tk_M c3 q M9) (b' := tk_M c3 q M9) (va_runV (As := []) (rest := []) ⟨hx, hb, hml, hown, hts⟩ (c_X7_thrown l G c3 q M9 r10 h11 H.size) (cwV 0 hts gL_law_X7_thrown rfl rfl rfl hv_X7_thrown ⟨Nat.le_of_ble_eq_true rfl, Nat.le_of_ble_eq_true rfl⟩) (tk_pV hE (tk_Pr hP) (tk_Dr hD) 0 rfl rfl) rfl rfl hl.1 rfl (lv_room (Nat.le_of_ble_eq_true rfl)) dL_law_354 h1c) hP hD hS hA (fun H locs hP hD hS => ?_)
  refine lv_iload hx hb dL_law_357 (lv_at hl 1 rfl) ?_
  refine lv_icmp_eq (tgt := 364) hx hb dL_law_359 (by decide) (fun h12 => ?_) (fun h12 => ?_)
  · have hf := tk_pos hf h12
    refine lv_iload hx hb dL_law_364 (lv_at hl 1 rfl) ?_
    refine lv_if_ne (tgt := 381) hx hb dL_law_366 (by decide) (fun h13 => ?_) (fun h13 => ?_)
    · have hf := tk_neg hf h13
      refine lv_goto (tgt := 1303) hx hb dL_law_381 (by decide) ?_
      exact hk S3 o4 M9 H locs _ _ (by omega) (by omega) hP hD hS ls (lv_sub hl [2, 3, 4, 5, 6] rfl) hf
    · have hf := tk_pos hf h13
      refine lv_aload_n hx hb dL_law_369 rfl (lv_at hl 5 rfl) ?_
      refine lv_iconst (v := 0) hx hb dL_law_370 (by decide) ?_
      refine va_lald (f := o4) hx hb hE.1 hP 17 1 rfl rfl tk_in01 dL_law_371 ?_
      refine lv_iload hx hb dL_law_372 (lv_at hl 0 rfl) ?_
      refine lv_i2l (v := r7.toInt64) hx hb dL_law_374 rfl ?_
      refine W.lcmp hx hb dL_law_375 ?_
      refine lv_if_eq (tgt := 381) hx hb dL_law_376 (by decide) (fun h14 => ?_) (fun h14 => ?_)
      · have hf := tk_pos hf h14
        refine lv_goto (tgt := 1303) hx hb dL_law_381 (by decide) ?_
        exact hk S3 o4 M9 H locs _ _ (by omega) (by omega) hP hD hS ls (lv_sub hl [2, 3, 4, 5, 6] rfl) hf
      · have hf := tk_neg hf h14
        refine lv_iconst (v := 0) hx hb dL_law_379 (by decide) ?_
        exact absurd (tk_s1 hf) (by decide)
  · have hf := tk_neg hf h12
    refine lv_iconst (v := 0) hx hb dL_law_362 (by decide) ?_
    exact absurd (tk_s1 hf) (by decide)
set_option maxHeartbeats 4000000 in
set_option maxRecDepth 100000 in
theorem law_c4 {p : Program} {e : Env} {s : State} {m : MethodId} {below : List Frame} {meth : Method} {c : Code} (l : Launch) (hlst : l.stackTraces = false) {b L : Nat} {xs : Nat → Int32} (C0 : lw_At p s m meth c b L xs) (G : va_G) (c3 : ClassId × ClassId × ClassId) (q : Nat → Nat) (hE : tk_E G c3 s) (hC : tk_C s) (hZ : tk_Z (fun x : Nat => s.heap.size ≤ x) s s.heap) (K : tk_ST → (Nat → Int64) → tk_ST → Option Int32) (i : Int32) (S : tk_ST) (o : Nat → Int64) (M : tk_ST) (H : Heap) (locs : List Loc) (cells slots : Nat) (hcs : cells + 1 ≤ 668244 ∧ slots + 6 ≤ 7091373) (hP : va_P G vwCl (tk_W3 c3 q S o M) H) (hD : va_D (fun x : Nat => s.heap.size ≤ x) (tk_W3 c3 q S o M)) (hS : va_S (fun x : Nat => s.heap.size ≤ x) s.heap H locs) (ls : Array Slot) (hl : lv_has ls 8 [(0, .ref b), (1, .ref (q 0)), (2, .ref (q 17)), (3, .ref (q 26)), (4, .int i)]) (hf : f_law_c4 L xs K i S o M = some 1)
    (hk : ∀ (S : tk_ST) (o : Nat → Int64) (M : tk_ST) (H : Heap) (locs : List Loc) (cs ss : Nat), cs ≤ cells + 1 → ss ≤ slots + 6 → va_P G vwCl (tk_W3 c3 q S o M) H → va_D (fun x : Nat => s.heap.size ≤ x) (tk_W3 c3 q S o M) → va_S (fun x : Nat => s.heap.size ≤ x) s.heap H locs → ∀ ls : Array Slot, lv_has ls 8 [(0, .ref b), (1, .ref (q 0)), (2, .ref (q 17)), (3, .ref (q 26)), (4, .int i)] → K S o M = some 1 → W p l e room_1 s m #[Value.ref b] below meth c H locs cs ss (lw_Z below #[Value.ref b] s) (F0 m 1303 ls [])) :
    W p l e room_1 s m #[Value.ref b] below meth c H locs cells slots (lw_Z below #[Value.ref b] s) (F0 m 384 ls []) := by
  obtain ⟨hx, hb, hr, hml, hown, hts, hX, hbl, hlocks, hgv⟩ := id C0
  have hown : s.vm.findClass RL = some m.cls := hown
  have hts := fun w h => hts w (wsL_law_in w h)
  have hA : ∀ x : Nat, s.heap.size ≤ x → (fun x : Nat => s.heap.size ≤ x) x := fun _ h => h
  have hbA : ¬ (fun x : Nat => s.heap.size ≤ x) b := Nat.not_le.mpr hbl
  have h1c : cells + 1 ≤ room_1.cells ∧ slots + 6 ≤ room_1.slots := hcs
  have h0c : cells ≤ room_1.cells ∧ slots ≤ room_1.slots := ⟨Nat.le_trans (Nat.le_add_right _ _) hcs.1, Nat.le_trans (Nat.le_add_right _ _) hcs.2⟩
  unfold f_law_c4 at hf
  refine lv_aload_n hx hb dL_law_384 rfl (lv_at hl 1 rfl) ?_
  refine lv_aload_n hx hb dL_law_385 rfl (lv_at hl 0 rfl) ?_
  refine lv_iload hx hb dL_law_386 (lv_at hl 4 rfl) ?_
  refine lv_iconst (v := 1) hx hb dL_law_388 (by decide) ?_
  refine lv_iadd hx hb dL_law_389 ?_
  obtain ⟨h1, hf⟩ := tk_ok hf
  refine va_sld hx hb hX hbl hbA hS h1 dL_law_390 ?_
  refine lv_aload_n hx hb dL_law_391 rfl (lv_at hl 3 rfl) ?_
  obtain ⟨k2, S3, o4, h5, hf⟩ := tk_b3s hf
  refine tk_ciL (a := tk_H c3 q S ++ tk_O c3 q o) (a' := tk_H c3 q S3 ++ tk_O c3 q o4) (b := tk_M c3 q M) (vx_runSW (As := [.ref (q 0), .int (xs (i + (1 : Int32)).toNatClampNeg), .ref (q 26)]) (rest := []) ⟨hx, hb, hml, hown, hts⟩ (c_L_discard l hlst G c3 q S o (xs (i + (1 : Int32)).toNatClampNeg) k2 S3 o4 h5 H.size) (vx_cwSW 3 hts gL_law_L_discard rfl rfl rfl hs_L_discard ⟨Nat.le_of_ble_eq_true rfl, Nat.le_of_ble_eq_true rfl⟩) (tk_pSL hE hZ hC (tk_Pl hP) (tk_Dl hD) hS hA) rfl rfl hl.1 rfl (lv_room (Nat.le_of_ble_eq_true rfl)) dL_law_392 h1c) hP hD hS hA (fun H locs hP hD hS => ?_)
  refine lv_istore (lv' := [(5, .int k2), (0, .ref b), (1, .ref (q 0)), (2, .ref (q 17)), (3, .ref (q 26)), (4, .int i)]) hx hb dL_law_395 hl (by decide) rfl (fun ls hl => ?_)
  refine lv_aload_n hx hb dL_law_397 rfl (lv_at hl 3 rfl) ?_
  refine lv_aload_n hx hb dL_law_398 rfl (lv_at hl 1 rfl) ?_
  refine lv_iload hx hb dL_law_399 (lv_at hl 5 rfl) ?_
  refine lv_iconst (v := 1) hx hb dL_law_401 (by decide) ?_
  refine lv_iadd hx hb dL_law_402 ?_
  obtain ⟨h6, hf⟩ := tk_ok hf
  refine va_sld hx hb hX hbl hbA hS h6 dL_law_403 ?_
  obtain ⟨r7, M9, h8, hf⟩ := tk_b2s hf
  refine tk_ciR (a := tk_H c3 q S3 ++ tk_O c3 q o4) (b := tk_M c3 q M) (b' := tk_M c3 q M9) (va_runV (As := [.int (xs (i + (1 : Int32)).toNatClampNeg)]) (rest := []) ⟨hx, hb, hml, hown, hts⟩ (c_X7_discard l G c3 q M (xs (i + (1 : Int32)).toNatClampNeg) r7 M9 h8 H.size) (cwV 1 hts gL_law_X7_discard rfl rfl rfl hv_X7_discard ⟨Nat.le_of_ble_eq_true rfl, Nat.le_of_ble_eq_true rfl⟩) (tk_pV hE (tk_Pr hP) (tk_Dr hD) 0 rfl rfl) rfl rfl hl.1 rfl (lv_room (Nat.le_of_ble_eq_true rfl)) dL_law_404 h1c) hP hD hS hA (fun H locs hP hD hS => ?_)
  refine lv_istore (lv' := [(6, .int r7), (5, .int k2), (0, .ref b), (1, .ref (q 0)), (2, .ref (q 17)), (3, .ref (q 26)), (4, .int i)]) hx hb dL_law_407 hl (by decide) rfl (fun ls hl => ?_)
  refine lv_aload_n hx hb dL_law_409 rfl (lv_at hl 4 rfl) ?_
  obtain ⟨r10, h11, hf⟩ := tk_b1s hf
  refine tk_ciR (a := tk_H c3 q S3 ++ tk_O c3 q o4) (b := tk_M c3 q M9) (b' := tk_M c3 q M9) (va_runV (As := []) (rest := []) ⟨hx, hb, hml, hown, hts⟩ (c_X7_thrown l G c3 q M9 r10 h11 H.size) (cwV 0 hts gL_law_X7_thrown rfl rfl rfl hv_X7_thrown ⟨Nat.le_of_ble_eq_true rfl, Nat.le_of_ble_eq_true rfl⟩) (tk_pV hE (tk_Pr hP) (tk_Dr hD) 0 rfl rfl) rfl rfl hl.1 rfl (lv_room (Nat.le_of_ble_eq_true rfl)) dL_law_410 h1c) hP hD hS hA (fun H locs hP hD hS => ?_)
  refine lv_iload hx hb dL_law_413 (lv_at hl 1 rfl) ?_
  refine lv_icmp_eq (tgt := 420) hx hb dL_law_415 (by decide) (fun h12 => ?_) (fun h12 => ?_)
  · have hf := tk_pos hf h12
    refine lv_iload hx hb dL_law_420 (lv_at hl 1 rfl) ?_
    refine lv_if_ne (tgt := 437) hx hb dL_law_422 (by decide) (fun h13 => ?_) (fun h13 => ?_)
    · have hf := tk_neg hf h13
      refine lv_goto (tgt := 1303) hx hb dL_law_437 (by decide) ?_
      exact hk S3 o4 M9 H locs _ _ (by omega) (by omega) hP hD hS ls (lv_sub hl [2, 3, 4, 5, 6] rfl) hf
    · have hf := tk_pos hf h13
      refine lv_aload_n hx hb dL_law_425 rfl (lv_at hl 5 rfl) ?_
      refine lv_iconst (v := 0) hx hb dL_law_426 (by decide) ?_
      refine va_lald (f := o4) hx hb hE.1 hP 17 1 rfl rfl tk_in01 dL_law_427 ?_
      refine lv_iload hx hb dL_law_428 (lv_at hl 0 rfl) ?_
      refine lv_i2l (v := r7.toInt64) hx hb dL_law_430 rfl ?_
      refine W.lcmp hx hb dL_law_431 ?_
      refine lv_if_eq (tgt := 437) hx hb dL_law_432 (by decide) (fun h14 => ?_) (fun h14 => ?_)
      · have hf := tk_pos hf h14
        refine lv_goto (tgt := 1303) hx hb dL_law_437 (by decide) ?_
        exact hk S3 o4 M9 H locs _ _ (by omega) (by omega) hP hD hS ls (lv_sub hl [2, 3, 4, 5, 6] rfl) hf
      · have hf := tk_neg hf h14
        refine lv_iconst (v := 0) hx hb dL_law_435 (by decide) ?_
        exact absurd (tk_s1 hf) (by decide)
  · have hf := tk_neg hf h12
    refine lv_iconst (v := 0) hx hb dL_law_418 (by decide) ?_
    exact absurd (tk_s1 hf) (by decide)
set_option maxHeartbeats 4000000 in
set_option maxRecDepth 100000 in
theorem law_c5 {p : Program} {e : Env} {s : State} {m : MethodId} {below : List Frame} {meth : Method} {c : Code} (l : Launch) (hlst : l.stackTraces = false) {b L : Nat} {xs : Nat → Int32} (C0 : lw_At p s m meth c b L xs) (G : va_G) (c3 : ClassId × ClassId × ClassId) (q : Nat → Nat) (hE : tk_E G c3 s) (hC : tk_C s) (hZ : tk_Z (fun x : Nat => s.heap.size ≤ x) s s.heap) (K : tk_ST → (Nat → Int64) → tk_ST → Option Int32) (i : Int32) (S : tk_ST) (o : Nat → Int64) (M : tk_ST) (H : Heap) (locs : List Loc) (cells slots : Nat) (hcs : cells + 1 ≤ 668244 ∧ slots + 6 ≤ 7091373) (hP : va_P G vwCl (tk_W3 c3 q S o M) H) (hD : va_D (fun x : Nat => s.heap.size ≤ x) (tk_W3 c3 q S o M)) (hS : va_S (fun x : Nat => s.heap.size ≤ x) s.heap H locs) (ls : Array Slot) (hl : lv_has ls 8 [(0, .ref b), (1, .ref (q 0)), (2, .ref (q 17)), (3, .ref (q 26)), (4, .int i)]) (hf : f_law_c5 L xs K i S o M = some 1)
    (hk : ∀ (S : tk_ST) (o : Nat → Int64) (M : tk_ST) (H : Heap) (locs : List Loc) (cs ss : Nat), cs ≤ cells + 1 → ss ≤ slots + 6 → va_P G vwCl (tk_W3 c3 q S o M) H → va_D (fun x : Nat => s.heap.size ≤ x) (tk_W3 c3 q S o M) → va_S (fun x : Nat => s.heap.size ≤ x) s.heap H locs → ∀ ls : Array Slot, lv_has ls 8 [(0, .ref b), (1, .ref (q 0)), (2, .ref (q 17)), (3, .ref (q 26)), (4, .int i)] → K S o M = some 1 → W p l e room_1 s m #[Value.ref b] below meth c H locs cs ss (lw_Z below #[Value.ref b] s) (F0 m 1303 ls [])) :
    W p l e room_1 s m #[Value.ref b] below meth c H locs cells slots (lw_Z below #[Value.ref b] s) (F0 m 440 ls []) := by
  obtain ⟨hx, hb, hr, hml, hown, hts, hX, hbl, hlocks, hgv⟩ := id C0
  have hown : s.vm.findClass RL = some m.cls := hown
  have hts := fun w h => hts w (wsL_law_in w h)
  have hA : ∀ x : Nat, s.heap.size ≤ x → (fun x : Nat => s.heap.size ≤ x) x := fun _ h => h
  have hbA : ¬ (fun x : Nat => s.heap.size ≤ x) b := Nat.not_le.mpr hbl
  have h1c : cells + 1 ≤ room_1.cells ∧ slots + 6 ≤ room_1.slots := hcs
  have h0c : cells ≤ room_1.cells ∧ slots ≤ room_1.slots := ⟨Nat.le_trans (Nat.le_add_right _ _) hcs.1, Nat.le_trans (Nat.le_add_right _ _) hcs.2⟩
  unfold f_law_c5 at hf
  refine lv_aload_n hx hb dL_law_440 rfl (lv_at hl 1 rfl) ?_
  refine lv_aload_n hx hb dL_law_441 rfl (lv_at hl 0 rfl) ?_
  refine lv_iload hx hb dL_law_442 (lv_at hl 4 rfl) ?_
  refine lv_iconst (v := 1) hx hb dL_law_444 (by decide) ?_
  refine lv_iadd hx hb dL_law_445 ?_
  obtain ⟨h1, hf⟩ := tk_ok hf
  refine va_sld hx hb hX hbl hbA hS h1 dL_law_446 ?_
  refine lv_aload_n hx hb dL_law_447 rfl (lv_at hl 3 rfl) ?_
  obtain ⟨k2, S3, o4, h5, hf⟩ := tk_b3s hf
  refine tk_ciL (a := tk_H c3 q S ++ tk_O c3 q o) (a' := tk_H c3 q S3 ++ tk_O c3 q o4) (b := tk_M c3 q M) (vx_runSW (As := [.ref (q 0), .int (xs (i + (1 : Int32)).toNatClampNeg), .ref (q 26)]) (rest := []) ⟨hx, hb, hml, hown, hts⟩ (c_L_announce l hlst G c3 q S o (xs (i + (1 : Int32)).toNatClampNeg) k2 S3 o4 h5 H.size) (vx_cwSW 3 hts gL_law_L_announce rfl rfl rfl hs_L_announce ⟨Nat.le_of_ble_eq_true rfl, Nat.le_of_ble_eq_true rfl⟩) (tk_pSL hE hZ hC (tk_Pl hP) (tk_Dl hD) hS hA) rfl rfl hl.1 rfl (lv_room (Nat.le_of_ble_eq_true rfl)) dL_law_448 h1c) hP hD hS hA (fun H locs hP hD hS => ?_)
  refine lv_istore (lv' := [(5, .int k2), (0, .ref b), (1, .ref (q 0)), (2, .ref (q 17)), (3, .ref (q 26)), (4, .int i)]) hx hb dL_law_451 hl (by decide) rfl (fun ls hl => ?_)
  refine lv_aload_n hx hb dL_law_453 rfl (lv_at hl 3 rfl) ?_
  refine lv_aload_n hx hb dL_law_454 rfl (lv_at hl 1 rfl) ?_
  refine lv_iload hx hb dL_law_455 (lv_at hl 5 rfl) ?_
  refine lv_iconst (v := 1) hx hb dL_law_457 (by decide) ?_
  refine lv_iadd hx hb dL_law_458 ?_
  obtain ⟨h6, hf⟩ := tk_ok hf
  refine va_sld hx hb hX hbl hbA hS h6 dL_law_459 ?_
  obtain ⟨r7, M9, h8, hf⟩ := tk_b2s hf
  refine tk_ciR (a := tk_H c3 q S3 ++ tk_O c3 q o4) (b := tk_M c3 q M) (b' := tk_M c3 q M9) (va_runV (As := [.int (xs (i + (1 : Int32)).toNatClampNeg)]) (rest := []) ⟨hx, hb, hml, hown, hts⟩ (c_X7_announce l G c3 q M (xs (i + (1 : Int32)).toNatClampNeg) r7 M9 h8 H.size) (cwV 1 hts gL_law_X7_announce rfl rfl rfl hv_X7_announce ⟨Nat.le_of_ble_eq_true rfl, Nat.le_of_ble_eq_true rfl⟩) (tk_pV hE (tk_Pr hP) (tk_Dr hD) 0 rfl rfl) rfl rfl hl.1 rfl (lv_room (Nat.le_of_ble_eq_true rfl)) dL_law_460 h1c) hP hD hS hA (fun H locs hP hD hS => ?_)
  refine lv_istore (lv' := [(6, .int r7), (5, .int k2), (0, .ref b), (1, .ref (q 0)), (2, .ref (q 17)), (3, .ref (q 26)), (4, .int i)]) hx hb dL_law_463 hl (by decide) rfl (fun ls hl => ?_)
  refine lv_aload_n hx hb dL_law_465 rfl (lv_at hl 4 rfl) ?_
  obtain ⟨r10, h11, hf⟩ := tk_b1s hf
  refine tk_ciR (a := tk_H c3 q S3 ++ tk_O c3 q o4) (b := tk_M c3 q M9) (b' := tk_M c3 q M9) (va_runV (As := []) (rest := []) ⟨hx, hb, hml, hown, hts⟩ (c_X7_thrown l G c3 q M9 r10 h11 H.size) (cwV 0 hts gL_law_X7_thrown rfl rfl rfl hv_X7_thrown ⟨Nat.le_of_ble_eq_true rfl, Nat.le_of_ble_eq_true rfl⟩) (tk_pV hE (tk_Pr hP) (tk_Dr hD) 0 rfl rfl) rfl rfl hl.1 rfl (lv_room (Nat.le_of_ble_eq_true rfl)) dL_law_466 h1c) hP hD hS hA (fun H locs hP hD hS => ?_)
  refine lv_iload hx hb dL_law_469 (lv_at hl 1 rfl) ?_
  refine lv_icmp_eq (tgt := 476) hx hb dL_law_471 (by decide) (fun h12 => ?_) (fun h12 => ?_)
  · have hf := tk_pos hf h12
    refine lv_iload hx hb dL_law_476 (lv_at hl 1 rfl) ?_
    refine lv_if_ne (tgt := 493) hx hb dL_law_478 (by decide) (fun h13 => ?_) (fun h13 => ?_)
    · have hf := tk_neg hf h13
      refine lv_goto (tgt := 1303) hx hb dL_law_493 (by decide) ?_
      exact hk S3 o4 M9 H locs _ _ (by omega) (by omega) hP hD hS ls (lv_sub hl [2, 3, 4, 5, 6] rfl) hf
    · have hf := tk_pos hf h13
      refine lv_aload_n hx hb dL_law_481 rfl (lv_at hl 5 rfl) ?_
      refine lv_iconst (v := 0) hx hb dL_law_482 (by decide) ?_
      refine va_lald (f := o4) hx hb hE.1 hP 17 1 rfl rfl tk_in01 dL_law_483 ?_
      refine lv_iload hx hb dL_law_484 (lv_at hl 0 rfl) ?_
      refine lv_i2l (v := r7.toInt64) hx hb dL_law_486 rfl ?_
      refine W.lcmp hx hb dL_law_487 ?_
      refine lv_if_eq (tgt := 493) hx hb dL_law_488 (by decide) (fun h14 => ?_) (fun h14 => ?_)
      · have hf := tk_pos hf h14
        refine lv_goto (tgt := 1303) hx hb dL_law_493 (by decide) ?_
        exact hk S3 o4 M9 H locs _ _ (by omega) (by omega) hP hD hS ls (lv_sub hl [2, 3, 4, 5, 6] rfl) hf
      · have hf := tk_neg hf h14
        refine lv_iconst (v := 0) hx hb dL_law_491 (by decide) ?_
        exact absurd (tk_s1 hf) (by decide)
  · have hf := tk_neg hf h12
    refine lv_iconst (v := 0) hx hb dL_law_474 (by decide) ?_
    exact absurd (tk_s1 hf) (by decide)
set_option maxHeartbeats 4000000 in
set_option maxRecDepth 100000 in
theorem law_c6 {p : Program} {e : Env} {s : State} {m : MethodId} {below : List Frame} {meth : Method} {c : Code} (l : Launch) (hlst : l.stackTraces = false) {b L : Nat} {xs : Nat → Int32} (C0 : lw_At p s m meth c b L xs) (G : va_G) (c3 : ClassId × ClassId × ClassId) (q : Nat → Nat) (hE : tk_E G c3 s) (hC : tk_C s) (hZ : tk_Z (fun x : Nat => s.heap.size ≤ x) s s.heap) (K : tk_ST → (Nat → Int64) → tk_ST → Option Int32) (i : Int32) (S : tk_ST) (o : Nat → Int64) (M : tk_ST) (H : Heap) (locs : List Loc) (cells slots : Nat) (hcs : cells + 1 ≤ 668244 ∧ slots + 6 ≤ 7091373) (hP : va_P G vwCl (tk_W3 c3 q S o M) H) (hD : va_D (fun x : Nat => s.heap.size ≤ x) (tk_W3 c3 q S o M)) (hS : va_S (fun x : Nat => s.heap.size ≤ x) s.heap H locs) (ls : Array Slot) (hl : lv_has ls 8 [(0, .ref b), (1, .ref (q 0)), (2, .ref (q 17)), (3, .ref (q 26)), (4, .int i)]) (hf : f_law_c6 L xs K i S o M = some 1)
    (hk : ∀ (S : tk_ST) (o : Nat → Int64) (M : tk_ST) (H : Heap) (locs : List Loc) (cs ss : Nat), cs ≤ cells + 1 → ss ≤ slots + 6 → va_P G vwCl (tk_W3 c3 q S o M) H → va_D (fun x : Nat => s.heap.size ≤ x) (tk_W3 c3 q S o M) → va_S (fun x : Nat => s.heap.size ≤ x) s.heap H locs → ∀ ls : Array Slot, lv_has ls 8 [(0, .ref b), (1, .ref (q 0)), (2, .ref (q 17)), (3, .ref (q 26)), (4, .int i)] → K S o M = some 1 → W p l e room_1 s m #[Value.ref b] below meth c H locs cs ss (lw_Z below #[Value.ref b] s) (F0 m 1303 ls [])) :
    W p l e room_1 s m #[Value.ref b] below meth c H locs cells slots (lw_Z below #[Value.ref b] s) (F0 m 496 ls []) := by
  obtain ⟨hx, hb, hr, hml, hown, hts, hX, hbl, hlocks, hgv⟩ := id C0
  have hown : s.vm.findClass RL = some m.cls := hown
  have hts := fun w h => hts w (wsL_law_in w h)
  have hA : ∀ x : Nat, s.heap.size ≤ x → (fun x : Nat => s.heap.size ≤ x) x := fun _ h => h
  have hbA : ¬ (fun x : Nat => s.heap.size ≤ x) b := Nat.not_le.mpr hbl
  have h1c : cells + 1 ≤ room_1.cells ∧ slots + 6 ≤ room_1.slots := hcs
  have h0c : cells ≤ room_1.cells ∧ slots ≤ room_1.slots := ⟨Nat.le_trans (Nat.le_add_right _ _) hcs.1, Nat.le_trans (Nat.le_add_right _ _) hcs.2⟩
  unfold f_law_c6 at hf
  refine lv_aload_n hx hb dL_law_496 rfl (lv_at hl 1 rfl) ?_
  refine lv_aload_n hx hb dL_law_497 rfl (lv_at hl 0 rfl) ?_
  refine lv_iload hx hb dL_law_498 (lv_at hl 4 rfl) ?_
  refine lv_iconst (v := 1) hx hb dL_law_500 (by decide) ?_
  refine lv_iadd hx hb dL_law_501 ?_
  obtain ⟨h1, hf⟩ := tk_ok hf
  refine va_sld hx hb hX hbl hbA hS h1 dL_law_502 ?_
  refine lv_aload_n hx hb dL_law_503 rfl (lv_at hl 3 rfl) ?_
  obtain ⟨k2, S3, o4, h5, hf⟩ := tk_b3s hf
  refine tk_ciL (a := tk_H c3 q S ++ tk_O c3 q o) (a' := tk_H c3 q S3 ++ tk_O c3 q o4) (b := tk_M c3 q M) (vx_runSW (As := [.ref (q 0), .int (xs (i + (1 : Int32)).toNatClampNeg), .ref (q 26)]) (rest := []) ⟨hx, hb, hml, hown, hts⟩ (c_L_play l hlst G c3 q S o (xs (i + (1 : Int32)).toNatClampNeg) k2 S3 o4 h5 H.size) (vx_cwSW 3 hts gL_law_L_play rfl rfl rfl hs_L_play ⟨Nat.le_of_ble_eq_true rfl, Nat.le_of_ble_eq_true rfl⟩) (tk_pSL hE hZ hC (tk_Pl hP) (tk_Dl hD) hS hA) rfl rfl hl.1 rfl (lv_room (Nat.le_of_ble_eq_true rfl)) dL_law_504 h1c) hP hD hS hA (fun H locs hP hD hS => ?_)
  refine lv_istore (lv' := [(5, .int k2), (0, .ref b), (1, .ref (q 0)), (2, .ref (q 17)), (3, .ref (q 26)), (4, .int i)]) hx hb dL_law_507 hl (by decide) rfl (fun ls hl => ?_)
  refine lv_aload_n hx hb dL_law_509 rfl (lv_at hl 3 rfl) ?_
  refine lv_aload_n hx hb dL_law_510 rfl (lv_at hl 1 rfl) ?_
  refine lv_iload hx hb dL_law_511 (lv_at hl 5 rfl) ?_
  refine lv_iconst (v := 1) hx hb dL_law_513 (by decide) ?_
  refine lv_iadd hx hb dL_law_514 ?_
  obtain ⟨h6, hf⟩ := tk_ok hf
  refine va_sld hx hb hX hbl hbA hS h6 dL_law_515 ?_
  obtain ⟨r7, M9, h8, hf⟩ := tk_b2s hf
  refine tk_ciR (a := tk_H c3 q S3 ++ tk_O c3 q o4) (b := tk_M c3 q M) (b' := tk_M c3 q M9) (va_runV (As := [.int (xs (i + (1 : Int32)).toNatClampNeg)]) (rest := []) ⟨hx, hb, hml, hown, hts⟩ (c_X7_play l G c3 q M (xs (i + (1 : Int32)).toNatClampNeg) r7 M9 h8 H.size) (cwV 1 hts gL_law_X7_play rfl rfl rfl hv_X7_play ⟨Nat.le_of_ble_eq_true rfl, Nat.le_of_ble_eq_true rfl⟩) (tk_pV hE (tk_Pr hP) (tk_Dr hD) 0 rfl rfl) rfl rfl hl.1 rfl (lv_room (Nat.le_of_ble_eq_true rfl)) dL_law_516 h1c) hP hD hS hA (fun H locs hP hD hS => ?_)
  refine lv_istore (lv' := [(6, .int r7), (5, .int k2), (0, .ref b), (1, .ref (q 0)), (2, .ref (q 17)), (3, .ref (q 26)), (4, .int i)]) hx hb dL_law_519 hl (by decide) rfl (fun ls hl => ?_)
  refine lv_aload_n hx hb dL_law_521 rfl (lv_at hl 4 rfl) ?_
  obtain ⟨r10, h11, hf⟩ := tk_b1s hf
  refine tk_ciR (a := tk_H c3 q S3 ++ tk_O c3 q o4) (b := tk_M c3 q M9) (b' := tk_M c3 q M9) (va_runV (As := []) (rest := []) ⟨hx, hb, hml, hown, hts⟩ (c_X7_thrown l G c3 q M9 r10 h11 H.size) (cwV 0 hts gL_law_X7_thrown rfl rfl rfl hv_X7_thrown ⟨Nat.le_of_ble_eq_true rfl, Nat.le_of_ble_eq_true rfl⟩) (tk_pV hE (tk_Pr hP) (tk_Dr hD) 0 rfl rfl) rfl rfl hl.1 rfl (lv_room (Nat.le_of_ble_eq_true rfl)) dL_law_522 h1c) hP hD hS hA (fun H locs hP hD hS => ?_)
  refine lv_iload hx hb dL_law_525 (lv_at hl 1 rfl) ?_
  refine lv_icmp_eq (tgt := 532) hx hb dL_law_527 (by decide) (fun h12 => ?_) (fun h12 => ?_)
  · have hf := tk_pos hf h12
    refine lv_iload hx hb dL_law_532 (lv_at hl 1 rfl) ?_
    refine lv_if_ne (tgt := 549) hx hb dL_law_534 (by decide) (fun h13 => ?_) (fun h13 => ?_)
    · have hf := tk_neg hf h13
      refine lv_goto (tgt := 1303) hx hb dL_law_549 (by decide) ?_
      exact hk S3 o4 M9 H locs _ _ (by omega) (by omega) hP hD hS ls (lv_sub hl [2, 3, 4, 5, 6] rfl) hf
    · have hf := tk_pos hf h13
      refine lv_aload_n hx hb dL_law_537 rfl (lv_at hl 5 rfl) ?_
      refine lv_iconst (v := 0) hx hb dL_law_538 (by decide) ?_
      refine va_lald (f := o4) hx hb hE.1 hP 17 1 rfl rfl tk_in01 dL_law_539 ?_
      refine lv_iload hx hb dL_law_540 (lv_at hl 0 rfl) ?_
      refine lv_i2l (v := r7.toInt64) hx hb dL_law_542 rfl ?_
      refine W.lcmp hx hb dL_law_543 ?_
      refine lv_if_eq (tgt := 549) hx hb dL_law_544 (by decide) (fun h14 => ?_) (fun h14 => ?_)
      · have hf := tk_pos hf h14
        refine lv_goto (tgt := 1303) hx hb dL_law_549 (by decide) ?_
        exact hk S3 o4 M9 H locs _ _ (by omega) (by omega) hP hD hS ls (lv_sub hl [2, 3, 4, 5, 6] rfl) hf
      · have hf := tk_neg hf h14
        refine lv_iconst (v := 0) hx hb dL_law_547 (by decide) ?_
        exact absurd (tk_s1 hf) (by decide)
  · have hf := tk_neg hf h12
    refine lv_iconst (v := 0) hx hb dL_law_530 (by decide) ?_
    exact absurd (tk_s1 hf) (by decide)
set_option maxHeartbeats 4000000 in
set_option maxRecDepth 100000 in
theorem law_c7 {p : Program} {e : Env} {s : State} {m : MethodId} {below : List Frame} {meth : Method} {c : Code} (l : Launch) (hlst : l.stackTraces = false) {b L : Nat} {xs : Nat → Int32} (C0 : lw_At p s m meth c b L xs) (G : va_G) (c3 : ClassId × ClassId × ClassId) (q : Nat → Nat) (hE : tk_E G c3 s) (hC : tk_C s) (hZ : tk_Z (fun x : Nat => s.heap.size ≤ x) s s.heap) (K : tk_ST → (Nat → Int64) → tk_ST → Option Int32) (i : Int32) (S : tk_ST) (o : Nat → Int64) (M : tk_ST) (H : Heap) (locs : List Loc) (cells slots : Nat) (hcs : cells + 1 ≤ 668244 ∧ slots + 6 ≤ 7091373) (hP : va_P G vwCl (tk_W3 c3 q S o M) H) (hD : va_D (fun x : Nat => s.heap.size ≤ x) (tk_W3 c3 q S o M)) (hS : va_S (fun x : Nat => s.heap.size ≤ x) s.heap H locs) (ls : Array Slot) (hl : lv_has ls 8 [(0, .ref b), (1, .ref (q 0)), (2, .ref (q 17)), (3, .ref (q 26)), (4, .int i)]) (hf : f_law_c7 L xs K i S o M = some 1)
    (hk : ∀ (S : tk_ST) (o : Nat → Int64) (M : tk_ST) (H : Heap) (locs : List Loc) (cs ss : Nat), cs ≤ cells + 1 → ss ≤ slots + 6 → va_P G vwCl (tk_W3 c3 q S o M) H → va_D (fun x : Nat => s.heap.size ≤ x) (tk_W3 c3 q S o M) → va_S (fun x : Nat => s.heap.size ≤ x) s.heap H locs → ∀ ls : Array Slot, lv_has ls 8 [(0, .ref b), (1, .ref (q 0)), (2, .ref (q 17)), (3, .ref (q 26)), (4, .int i)] → K S o M = some 1 → W p l e room_1 s m #[Value.ref b] below meth c H locs cs ss (lw_Z below #[Value.ref b] s) (F0 m 1303 ls [])) :
    W p l e room_1 s m #[Value.ref b] below meth c H locs cells slots (lw_Z below #[Value.ref b] s) (F0 m 552 ls []) := by
  obtain ⟨hx, hb, hr, hml, hown, hts, hX, hbl, hlocks, hgv⟩ := id C0
  have hown : s.vm.findClass RL = some m.cls := hown
  have hts := fun w h => hts w (wsL_law_in w h)
  have hA : ∀ x : Nat, s.heap.size ≤ x → (fun x : Nat => s.heap.size ≤ x) x := fun _ h => h
  have hbA : ¬ (fun x : Nat => s.heap.size ≤ x) b := Nat.not_le.mpr hbl
  have h1c : cells + 1 ≤ room_1.cells ∧ slots + 6 ≤ room_1.slots := hcs
  have h0c : cells ≤ room_1.cells ∧ slots ≤ room_1.slots := ⟨Nat.le_trans (Nat.le_add_right _ _) hcs.1, Nat.le_trans (Nat.le_add_right _ _) hcs.2⟩
  unfold f_law_c7 at hf
  refine lv_aload_n hx hb dL_law_552 rfl (lv_at hl 1 rfl) ?_
  refine lv_aload_n hx hb dL_law_553 rfl (lv_at hl 0 rfl) ?_
  refine lv_iload hx hb dL_law_554 (lv_at hl 4 rfl) ?_
  refine lv_iconst (v := 1) hx hb dL_law_556 (by decide) ?_
  refine lv_iadd hx hb dL_law_557 ?_
  obtain ⟨h1, hf⟩ := tk_ok hf
  refine va_sld hx hb hX hbl hbA hS h1 dL_law_558 ?_
  refine lv_aload_n hx hb dL_law_559 rfl (lv_at hl 3 rfl) ?_
  obtain ⟨k2, S3, o4, h5, hf⟩ := tk_b3s hf
  refine tk_ciL (a := tk_H c3 q S ++ tk_O c3 q o) (a' := tk_H c3 q S3 ++ tk_O c3 q o4) (b := tk_M c3 q M) (vx_runSW (As := [.ref (q 0), .int (xs (i + (1 : Int32)).toNatClampNeg), .ref (q 26)]) (rest := []) ⟨hx, hb, hml, hown, hts⟩ (c_L_playLowest l hlst G c3 q S o (xs (i + (1 : Int32)).toNatClampNeg) k2 S3 o4 h5 H.size) (vx_cwSW 3 hts gL_law_L_playLowest rfl rfl rfl hs_L_playLowest ⟨Nat.le_of_ble_eq_true rfl, Nat.le_of_ble_eq_true rfl⟩) (tk_pSL hE hZ hC (tk_Pl hP) (tk_Dl hD) hS hA) rfl rfl hl.1 rfl (lv_room (Nat.le_of_ble_eq_true rfl)) dL_law_560 h1c) hP hD hS hA (fun H locs hP hD hS => ?_)
  refine lv_istore (lv' := [(5, .int k2), (0, .ref b), (1, .ref (q 0)), (2, .ref (q 17)), (3, .ref (q 26)), (4, .int i)]) hx hb dL_law_563 hl (by decide) rfl (fun ls hl => ?_)
  refine lv_aload_n hx hb dL_law_565 rfl (lv_at hl 3 rfl) ?_
  refine lv_aload_n hx hb dL_law_566 rfl (lv_at hl 1 rfl) ?_
  refine lv_iload hx hb dL_law_567 (lv_at hl 5 rfl) ?_
  refine lv_iconst (v := 1) hx hb dL_law_569 (by decide) ?_
  refine lv_iadd hx hb dL_law_570 ?_
  obtain ⟨h6, hf⟩ := tk_ok hf
  refine va_sld hx hb hX hbl hbA hS h6 dL_law_571 ?_
  obtain ⟨r7, M9, h8, hf⟩ := tk_b2s hf
  refine tk_ciR (a := tk_H c3 q S3 ++ tk_O c3 q o4) (b := tk_M c3 q M) (b' := tk_M c3 q M9) (va_runV (As := [.int (xs (i + (1 : Int32)).toNatClampNeg)]) (rest := []) ⟨hx, hb, hml, hown, hts⟩ (c_X7_playLowest l G c3 q M (xs (i + (1 : Int32)).toNatClampNeg) r7 M9 h8 H.size) (cwV 1 hts gL_law_X7_playLowest rfl rfl rfl hv_X7_playLowest ⟨Nat.le_of_ble_eq_true rfl, Nat.le_of_ble_eq_true rfl⟩) (tk_pV hE (tk_Pr hP) (tk_Dr hD) 0 rfl rfl) rfl rfl hl.1 rfl (lv_room (Nat.le_of_ble_eq_true rfl)) dL_law_572 h1c) hP hD hS hA (fun H locs hP hD hS => ?_)
  refine lv_istore (lv' := [(6, .int r7), (5, .int k2), (0, .ref b), (1, .ref (q 0)), (2, .ref (q 17)), (3, .ref (q 26)), (4, .int i)]) hx hb dL_law_575 hl (by decide) rfl (fun ls hl => ?_)
  refine lv_aload_n hx hb dL_law_577 rfl (lv_at hl 4 rfl) ?_
  obtain ⟨r10, h11, hf⟩ := tk_b1s hf
  refine tk_ciR (a := tk_H c3 q S3 ++ tk_O c3 q o4) (b := tk_M c3 q M9) (b' := tk_M c3 q M9) (va_runV (As := []) (rest := []) ⟨hx, hb, hml, hown, hts⟩ (c_X7_thrown l G c3 q M9 r10 h11 H.size) (cwV 0 hts gL_law_X7_thrown rfl rfl rfl hv_X7_thrown ⟨Nat.le_of_ble_eq_true rfl, Nat.le_of_ble_eq_true rfl⟩) (tk_pV hE (tk_Pr hP) (tk_Dr hD) 0 rfl rfl) rfl rfl hl.1 rfl (lv_room (Nat.le_of_ble_eq_true rfl)) dL_law_578 h1c) hP hD hS hA (fun H locs hP hD hS => ?_)
  refine lv_iload hx hb dL_law_581 (lv_at hl 1 rfl) ?_
  refine lv_icmp_eq (tgt := 588) hx hb dL_law_583 (by decide) (fun h12 => ?_) (fun h12 => ?_)
  · have hf := tk_pos hf h12
    refine lv_iload hx hb dL_law_588 (lv_at hl 1 rfl) ?_
    refine lv_if_ne (tgt := 605) hx hb dL_law_590 (by decide) (fun h13 => ?_) (fun h13 => ?_)
    · have hf := tk_neg hf h13
      refine lv_goto (tgt := 1303) hx hb dL_law_605 (by decide) ?_
      exact hk S3 o4 M9 H locs _ _ (by omega) (by omega) hP hD hS ls (lv_sub hl [2, 3, 4, 5, 6] rfl) hf
    · have hf := tk_pos hf h13
      refine lv_aload_n hx hb dL_law_593 rfl (lv_at hl 5 rfl) ?_
      refine lv_iconst (v := 0) hx hb dL_law_594 (by decide) ?_
      refine va_lald (f := o4) hx hb hE.1 hP 17 1 rfl rfl tk_in01 dL_law_595 ?_
      refine lv_iload hx hb dL_law_596 (lv_at hl 0 rfl) ?_
      refine lv_i2l (v := r7.toInt64) hx hb dL_law_598 rfl ?_
      refine W.lcmp hx hb dL_law_599 ?_
      refine lv_if_eq (tgt := 605) hx hb dL_law_600 (by decide) (fun h14 => ?_) (fun h14 => ?_)
      · have hf := tk_pos hf h14
        refine lv_goto (tgt := 1303) hx hb dL_law_605 (by decide) ?_
        exact hk S3 o4 M9 H locs _ _ (by omega) (by omega) hP hD hS ls (lv_sub hl [2, 3, 4, 5, 6] rfl) hf
      · have hf := tk_neg hf h14
        refine lv_iconst (v := 0) hx hb dL_law_603 (by decide) ?_
        exact absurd (tk_s1 hf) (by decide)
  · have hf := tk_neg hf h12
    refine lv_iconst (v := 0) hx hb dL_law_586 (by decide) ?_
    exact absurd (tk_s1 hf) (by decide)
set_option maxHeartbeats 4000000 in
set_option maxRecDepth 100000 in
theorem law_c8 {p : Program} {e : Env} {s : State} {m : MethodId} {below : List Frame} {meth : Method} {c : Code} (l : Launch) (hlst : l.stackTraces = false) {b L : Nat} {xs : Nat → Int32} (C0 : lw_At p s m meth c b L xs) (G : va_G) (c3 : ClassId × ClassId × ClassId) (q : Nat → Nat) (hE : tk_E G c3 s) (hC : tk_C s) (hZ : tk_Z (fun x : Nat => s.heap.size ≤ x) s s.heap) (K : tk_ST → (Nat → Int64) → tk_ST → Option Int32) (i : Int32) (S : tk_ST) (o : Nat → Int64) (M : tk_ST) (H : Heap) (locs : List Loc) (cells slots : Nat) (hcs : cells + 1 ≤ 668244 ∧ slots + 6 ≤ 7091373) (hP : va_P G vwCl (tk_W3 c3 q S o M) H) (hD : va_D (fun x : Nat => s.heap.size ≤ x) (tk_W3 c3 q S o M)) (hS : va_S (fun x : Nat => s.heap.size ≤ x) s.heap H locs) (ls : Array Slot) (hl : lv_has ls 8 [(0, .ref b), (1, .ref (q 0)), (2, .ref (q 17)), (3, .ref (q 26)), (4, .int i)]) (hf : f_law_c8 L xs K i S o M = some 1)
    (hk : ∀ (S : tk_ST) (o : Nat → Int64) (M : tk_ST) (H : Heap) (locs : List Loc) (cs ss : Nat), cs ≤ cells + 1 → ss ≤ slots + 6 → va_P G vwCl (tk_W3 c3 q S o M) H → va_D (fun x : Nat => s.heap.size ≤ x) (tk_W3 c3 q S o M) → va_S (fun x : Nat => s.heap.size ≤ x) s.heap H locs → ∀ ls : Array Slot, lv_has ls 8 [(0, .ref b), (1, .ref (q 0)), (2, .ref (q 17)), (3, .ref (q 26)), (4, .int i)] → K S o M = some 1 → W p l e room_1 s m #[Value.ref b] below meth c H locs cs ss (lw_Z below #[Value.ref b] s) (F0 m 1303 ls [])) :
    W p l e room_1 s m #[Value.ref b] below meth c H locs cells slots (lw_Z below #[Value.ref b] s) (F0 m 608 ls []) := by
  obtain ⟨hx, hb, hr, hml, hown, hts, hX, hbl, hlocks, hgv⟩ := id C0
  have hown : s.vm.findClass RL = some m.cls := hown
  have hts := fun w h => hts w (wsL_law_in w h)
  have hA : ∀ x : Nat, s.heap.size ≤ x → (fun x : Nat => s.heap.size ≤ x) x := fun _ h => h
  have hbA : ¬ (fun x : Nat => s.heap.size ≤ x) b := Nat.not_le.mpr hbl
  have h1c : cells + 1 ≤ room_1.cells ∧ slots + 6 ≤ room_1.slots := hcs
  have h0c : cells ≤ room_1.cells ∧ slots ≤ room_1.slots := ⟨Nat.le_trans (Nat.le_add_right _ _) hcs.1, Nat.le_trans (Nat.le_add_right _ _) hcs.2⟩
  unfold f_law_c8 at hf
  refine lv_aload_n hx hb dL_law_608 rfl (lv_at hl 1 rfl) ?_
  obtain ⟨r1, h2, hf⟩ := tk_b1s hf
  refine tk_ciH (a := tk_H c3 q S) (va_runV (As := []) (rest := []) ⟨hx, hb, hml, hown, hts⟩ (c_X6_phase l G c3 q S r1 h2 H.size) (cwV 0 hts gL_law_X6_phase rfl rfl rfl hv_X6_phase ⟨Nat.le_of_ble_eq_true rfl, Nat.le_of_ble_eq_true rfl⟩) (tk_pV hE (tk_Pl (tk_Pl hP)) (tk_Dl (tk_Dl hD)) 0 rfl rfl) rfl rfl hl.1 rfl (lv_room (Nat.le_of_ble_eq_true rfl)) dL_law_609 h0c) hP hD hS hA (fun H locs hP hD hS => ?_)
  refine lv_aload_n hx hb dL_law_612 rfl (lv_at hl 2 rfl) ?_
  obtain ⟨r3, M5, h4, hf⟩ := tk_b2s hf
  refine tk_ciR (a := tk_H c3 q S ++ tk_O c3 q o) (b := tk_M c3 q M) (b' := tk_M c3 q M5) (va_runV (As := []) (rest := [.int r1]) ⟨hx, hb, hml, hown, hts⟩ (c_X7_phase l G c3 q M r3 M5 h4 H.size) (cwV 0 hts gL_law_X7_phase rfl rfl rfl hv_X7_phase ⟨Nat.le_of_ble_eq_true rfl, Nat.le_of_ble_eq_true rfl⟩) (tk_pV hE (tk_Pr hP) (tk_Dr hD) 0 rfl rfl) rfl rfl hl.1 rfl (lv_room (Nat.le_of_ble_eq_true rfl)) dL_law_613 h0c) hP hD hS hA (fun H locs hP hD hS => ?_)
  refine lv_icmp_eq (tgt := 1303) hx hb dL_law_616 (by decide) (fun h6 => ?_) (fun h6 => ?_)
  · have hf := tk_pos hf h6
    exact hk S o M5 H locs _ _ (by omega) (by omega) hP hD hS ls (lv_sub hl [0, 1, 2, 3, 4] rfl) hf
  · have hf := tk_neg hf h6
    refine lv_iconst (v := 0) hx hb dL_law_619 (by decide) ?_
    exact absurd (tk_s1 hf) (by decide)
set_option maxHeartbeats 4000000 in
set_option maxRecDepth 100000 in
theorem law_c9 {p : Program} {e : Env} {s : State} {m : MethodId} {below : List Frame} {meth : Method} {c : Code} (l : Launch) (hlst : l.stackTraces = false) {b L : Nat} {xs : Nat → Int32} (C0 : lw_At p s m meth c b L xs) (G : va_G) (c3 : ClassId × ClassId × ClassId) (q : Nat → Nat) (hE : tk_E G c3 s) (hC : tk_C s) (hZ : tk_Z (fun x : Nat => s.heap.size ≤ x) s s.heap) (K : tk_ST → (Nat → Int64) → tk_ST → Option Int32) (i : Int32) (S : tk_ST) (o : Nat → Int64) (M : tk_ST) (H : Heap) (locs : List Loc) (cells slots : Nat) (hcs : cells + 1 ≤ 668244 ∧ slots + 6 ≤ 7091373) (hP : va_P G vwCl (tk_W3 c3 q S o M) H) (hD : va_D (fun x : Nat => s.heap.size ≤ x) (tk_W3 c3 q S o M)) (hS : va_S (fun x : Nat => s.heap.size ≤ x) s.heap H locs) (ls : Array Slot) (hl : lv_has ls 8 [(0, .ref b), (1, .ref (q 0)), (2, .ref (q 17)), (3, .ref (q 26)), (4, .int i)]) (hf : f_law_c9 L xs K i S o M = some 1)
    (hk : ∀ (S : tk_ST) (o : Nat → Int64) (M : tk_ST) (H : Heap) (locs : List Loc) (cs ss : Nat), cs ≤ cells + 1 → ss ≤ slots + 6 → va_P G vwCl (tk_W3 c3 q S o M) H → va_D (fun x : Nat => s.heap.size ≤ x) (tk_W3 c3 q S o M) → va_S (fun x : Nat => s.heap.size ≤ x) s.heap H locs → ∀ ls : Array Slot, lv_has ls 8 [(0, .ref b), (1, .ref (q 0)), (2, .ref (q 17)), (3, .ref (q 26)), (4, .int i)] → K S o M = some 1 → W p l e room_1 s m #[Value.ref b] below meth c H locs cs ss (lw_Z below #[Value.ref b] s) (F0 m 1303 ls [])) :
    W p l e room_1 s m #[Value.ref b] below meth c H locs cells slots (lw_Z below #[Value.ref b] s) (F0 m 621 ls []) := by
  obtain ⟨hx, hb, hr, hml, hown, hts, hX, hbl, hlocks, hgv⟩ := id C0
  have hown : s.vm.findClass RL = some m.cls := hown
  have hts := fun w h => hts w (wsL_law_in w h)
  have hA : ∀ x : Nat, s.heap.size ≤ x → (fun x : Nat => s.heap.size ≤ x) x := fun _ h => h
  have hbA : ¬ (fun x : Nat => s.heap.size ≤ x) b := Nat.not_le.mpr hbl
  have h1c : cells + 1 ≤ room_1.cells ∧ slots + 6 ≤ room_1.slots := hcs
  have h0c : cells ≤ room_1.cells ∧ slots ≤ room_1.slots := ⟨Nat.le_trans (Nat.le_add_right _ _) hcs.1, Nat.le_trans (Nat.le_add_right _ _) hcs.2⟩
  unfold f_law_c9 at hf
  refine lv_aload_n hx hb dL_law_621 rfl (lv_at hl 1 rfl) ?_
  obtain ⟨r1, h2, hf⟩ := tk_b1s hf
  refine tk_ciH (a := tk_H c3 q S) (va_runV (As := []) (rest := []) ⟨hx, hb, hml, hown, hts⟩ (c_X6_turn l G c3 q S r1 h2 H.size) (cwV 0 hts gL_law_X6_turn rfl rfl rfl hv_X6_turn ⟨Nat.le_of_ble_eq_true rfl, Nat.le_of_ble_eq_true rfl⟩) (tk_pV hE (tk_Pl (tk_Pl hP)) (tk_Dl (tk_Dl hD)) 0 rfl rfl) rfl rfl hl.1 rfl (lv_room (Nat.le_of_ble_eq_true rfl)) dL_law_622 h0c) hP hD hS hA (fun H locs hP hD hS => ?_)
  refine lv_aload_n hx hb dL_law_625 rfl (lv_at hl 2 rfl) ?_
  obtain ⟨r3, M5, h4, hf⟩ := tk_b2s hf
  refine tk_ciR (a := tk_H c3 q S ++ tk_O c3 q o) (b := tk_M c3 q M) (b' := tk_M c3 q M5) (va_runV (As := []) (rest := [.int r1]) ⟨hx, hb, hml, hown, hts⟩ (c_X7_turn l G c3 q M r3 M5 h4 H.size) (cwV 0 hts gL_law_X7_turn rfl rfl rfl hv_X7_turn ⟨Nat.le_of_ble_eq_true rfl, Nat.le_of_ble_eq_true rfl⟩) (tk_pV hE (tk_Pr hP) (tk_Dr hD) 0 rfl rfl) rfl rfl hl.1 rfl (lv_room (Nat.le_of_ble_eq_true rfl)) dL_law_626 h0c) hP hD hS hA (fun H locs hP hD hS => ?_)
  refine lv_icmp_eq (tgt := 1303) hx hb dL_law_629 (by decide) (fun h6 => ?_) (fun h6 => ?_)
  · have hf := tk_pos hf h6
    exact hk S o M5 H locs _ _ (by omega) (by omega) hP hD hS ls (lv_sub hl [0, 1, 2, 3, 4] rfl) hf
  · have hf := tk_neg hf h6
    refine lv_iconst (v := 0) hx hb dL_law_632 (by decide) ?_
    exact absurd (tk_s1 hf) (by decide)
set_option maxHeartbeats 4000000 in
set_option maxRecDepth 100000 in
theorem law_c10 {p : Program} {e : Env} {s : State} {m : MethodId} {below : List Frame} {meth : Method} {c : Code} (l : Launch) (hlst : l.stackTraces = false) {b L : Nat} {xs : Nat → Int32} (C0 : lw_At p s m meth c b L xs) (G : va_G) (c3 : ClassId × ClassId × ClassId) (q : Nat → Nat) (hE : tk_E G c3 s) (hC : tk_C s) (hZ : tk_Z (fun x : Nat => s.heap.size ≤ x) s s.heap) (K : tk_ST → (Nat → Int64) → tk_ST → Option Int32) (i : Int32) (S : tk_ST) (o : Nat → Int64) (M : tk_ST) (H : Heap) (locs : List Loc) (cells slots : Nat) (hcs : cells + 1 ≤ 668244 ∧ slots + 6 ≤ 7091373) (hP : va_P G vwCl (tk_W3 c3 q S o M) H) (hD : va_D (fun x : Nat => s.heap.size ≤ x) (tk_W3 c3 q S o M)) (hS : va_S (fun x : Nat => s.heap.size ≤ x) s.heap H locs) (ls : Array Slot) (hl : lv_has ls 8 [(0, .ref b), (1, .ref (q 0)), (2, .ref (q 17)), (3, .ref (q 26)), (4, .int i)]) (hf : f_law_c10 L xs K i S o M = some 1)
    (hk : ∀ (S : tk_ST) (o : Nat → Int64) (M : tk_ST) (H : Heap) (locs : List Loc) (cs ss : Nat), cs ≤ cells + 1 → ss ≤ slots + 6 → va_P G vwCl (tk_W3 c3 q S o M) H → va_D (fun x : Nat => s.heap.size ≤ x) (tk_W3 c3 q S o M) → va_S (fun x : Nat => s.heap.size ≤ x) s.heap H locs → ∀ ls : Array Slot, lv_has ls 8 [(0, .ref b), (1, .ref (q 0)), (2, .ref (q 17)), (3, .ref (q 26)), (4, .int i)] → K S o M = some 1 → W p l e room_1 s m #[Value.ref b] below meth c H locs cs ss (lw_Z below #[Value.ref b] s) (F0 m 1303 ls [])) :
    W p l e room_1 s m #[Value.ref b] below meth c H locs cells slots (lw_Z below #[Value.ref b] s) (F0 m 634 ls []) := by
  obtain ⟨hx, hb, hr, hml, hown, hts, hX, hbl, hlocks, hgv⟩ := id C0
  have hown : s.vm.findClass RL = some m.cls := hown
  have hts := fun w h => hts w (wsL_law_in w h)
  have hA : ∀ x : Nat, s.heap.size ≤ x → (fun x : Nat => s.heap.size ≤ x) x := fun _ h => h
  have hbA : ¬ (fun x : Nat => s.heap.size ≤ x) b := Nat.not_le.mpr hbl
  have h1c : cells + 1 ≤ room_1.cells ∧ slots + 6 ≤ room_1.slots := hcs
  have h0c : cells ≤ room_1.cells ∧ slots ≤ room_1.slots := ⟨Nat.le_trans (Nat.le_add_right _ _) hcs.1, Nat.le_trans (Nat.le_add_right _ _) hcs.2⟩
  unfold f_law_c10 at hf
  refine lv_aload_n hx hb dL_law_634 rfl (lv_at hl 1 rfl) ?_
  obtain ⟨r1, h2, hf⟩ := tk_b1s hf
  refine tk_ciH (a := tk_H c3 q S) (va_runV (As := []) (rest := []) ⟨hx, hb, hml, hown, hts⟩ (c_X6_declarer l G c3 q S r1 h2 H.size) (cwV 0 hts gL_law_X6_declarer rfl rfl rfl hv_X6_declarer ⟨Nat.le_of_ble_eq_true rfl, Nat.le_of_ble_eq_true rfl⟩) (tk_pV hE (tk_Pl (tk_Pl hP)) (tk_Dl (tk_Dl hD)) 0 rfl rfl) rfl rfl hl.1 rfl (lv_room (Nat.le_of_ble_eq_true rfl)) dL_law_635 h0c) hP hD hS hA (fun H locs hP hD hS => ?_)
  refine lv_aload_n hx hb dL_law_638 rfl (lv_at hl 2 rfl) ?_
  obtain ⟨r3, M5, h4, hf⟩ := tk_b2s hf
  refine tk_ciR (a := tk_H c3 q S ++ tk_O c3 q o) (b := tk_M c3 q M) (b' := tk_M c3 q M5) (va_runV (As := []) (rest := [.int r1]) ⟨hx, hb, hml, hown, hts⟩ (c_X7_declarer l G c3 q M r3 M5 h4 H.size) (cwV 0 hts gL_law_X7_declarer rfl rfl rfl hv_X7_declarer ⟨Nat.le_of_ble_eq_true rfl, Nat.le_of_ble_eq_true rfl⟩) (tk_pV hE (tk_Pr hP) (tk_Dr hD) 0 rfl rfl) rfl rfl hl.1 rfl (lv_room (Nat.le_of_ble_eq_true rfl)) dL_law_639 h0c) hP hD hS hA (fun H locs hP hD hS => ?_)
  refine lv_icmp_eq (tgt := 1303) hx hb dL_law_642 (by decide) (fun h6 => ?_) (fun h6 => ?_)
  · have hf := tk_pos hf h6
    exact hk S o M5 H locs _ _ (by omega) (by omega) hP hD hS ls (lv_sub hl [0, 1, 2, 3, 4] rfl) hf
  · have hf := tk_neg hf h6
    refine lv_iconst (v := 0) hx hb dL_law_645 (by decide) ?_
    exact absurd (tk_s1 hf) (by decide)
set_option maxHeartbeats 4000000 in
set_option maxRecDepth 100000 in
theorem law_c11 {p : Program} {e : Env} {s : State} {m : MethodId} {below : List Frame} {meth : Method} {c : Code} (l : Launch) (hlst : l.stackTraces = false) {b L : Nat} {xs : Nat → Int32} (C0 : lw_At p s m meth c b L xs) (G : va_G) (c3 : ClassId × ClassId × ClassId) (q : Nat → Nat) (hE : tk_E G c3 s) (hC : tk_C s) (hZ : tk_Z (fun x : Nat => s.heap.size ≤ x) s s.heap) (K : tk_ST → (Nat → Int64) → tk_ST → Option Int32) (i : Int32) (S : tk_ST) (o : Nat → Int64) (M : tk_ST) (H : Heap) (locs : List Loc) (cells slots : Nat) (hcs : cells + 1 ≤ 668244 ∧ slots + 6 ≤ 7091373) (hP : va_P G vwCl (tk_W3 c3 q S o M) H) (hD : va_D (fun x : Nat => s.heap.size ≤ x) (tk_W3 c3 q S o M)) (hS : va_S (fun x : Nat => s.heap.size ≤ x) s.heap H locs) (ls : Array Slot) (hl : lv_has ls 8 [(0, .ref b), (1, .ref (q 0)), (2, .ref (q 17)), (3, .ref (q 26)), (4, .int i)]) (hf : f_law_c11 L xs K i S o M = some 1)
    (hk : ∀ (S : tk_ST) (o : Nat → Int64) (M : tk_ST) (H : Heap) (locs : List Loc) (cs ss : Nat), cs ≤ cells + 1 → ss ≤ slots + 6 → va_P G vwCl (tk_W3 c3 q S o M) H → va_D (fun x : Nat => s.heap.size ≤ x) (tk_W3 c3 q S o M) → va_S (fun x : Nat => s.heap.size ≤ x) s.heap H locs → ∀ ls : Array Slot, lv_has ls 8 [(0, .ref b), (1, .ref (q 0)), (2, .ref (q 17)), (3, .ref (q 26)), (4, .int i)] → K S o M = some 1 → W p l e room_1 s m #[Value.ref b] below meth c H locs cs ss (lw_Z below #[Value.ref b] s) (F0 m 1303 ls [])) :
    W p l e room_1 s m #[Value.ref b] below meth c H locs cells slots (lw_Z below #[Value.ref b] s) (F0 m 647 ls []) := by
  obtain ⟨hx, hb, hr, hml, hown, hts, hX, hbl, hlocks, hgv⟩ := id C0
  have hown : s.vm.findClass RL = some m.cls := hown
  have hts := fun w h => hts w (wsL_law_in w h)
  have hA : ∀ x : Nat, s.heap.size ≤ x → (fun x : Nat => s.heap.size ≤ x) x := fun _ h => h
  have hbA : ¬ (fun x : Nat => s.heap.size ≤ x) b := Nat.not_le.mpr hbl
  have h1c : cells + 1 ≤ room_1.cells ∧ slots + 6 ≤ room_1.slots := hcs
  have h0c : cells ≤ room_1.cells ∧ slots ≤ room_1.slots := ⟨Nat.le_trans (Nat.le_add_right _ _) hcs.1, Nat.le_trans (Nat.le_add_right _ _) hcs.2⟩
  unfold f_law_c11 at hf
  refine lv_aload_n hx hb dL_law_647 rfl (lv_at hl 1 rfl) ?_
  obtain ⟨r1, h2, hf⟩ := tk_b1s hf
  refine tk_ciH (a := tk_H c3 q S) (va_runV (As := []) (rest := []) ⟨hx, hb, hml, hown, hts⟩ (c_X6_level l G c3 q S r1 h2 H.size) (cwV 0 hts gL_law_X6_level rfl rfl rfl hv_X6_level ⟨Nat.le_of_ble_eq_true rfl, Nat.le_of_ble_eq_true rfl⟩) (tk_pV hE (tk_Pl (tk_Pl hP)) (tk_Dl (tk_Dl hD)) 0 rfl rfl) rfl rfl hl.1 rfl (lv_room (Nat.le_of_ble_eq_true rfl)) dL_law_648 h0c) hP hD hS hA (fun H locs hP hD hS => ?_)
  refine lv_aload_n hx hb dL_law_651 rfl (lv_at hl 2 rfl) ?_
  obtain ⟨r3, M5, h4, hf⟩ := tk_b2s hf
  refine tk_ciR (a := tk_H c3 q S ++ tk_O c3 q o) (b := tk_M c3 q M) (b' := tk_M c3 q M5) (va_runV (As := []) (rest := [.int r1]) ⟨hx, hb, hml, hown, hts⟩ (c_X7_level l G c3 q M r3 M5 h4 H.size) (cwV 0 hts gL_law_X7_level rfl rfl rfl hv_X7_level ⟨Nat.le_of_ble_eq_true rfl, Nat.le_of_ble_eq_true rfl⟩) (tk_pV hE (tk_Pr hP) (tk_Dr hD) 0 rfl rfl) rfl rfl hl.1 rfl (lv_room (Nat.le_of_ble_eq_true rfl)) dL_law_652 h0c) hP hD hS hA (fun H locs hP hD hS => ?_)
  refine lv_icmp_eq (tgt := 1303) hx hb dL_law_655 (by decide) (fun h6 => ?_) (fun h6 => ?_)
  · have hf := tk_pos hf h6
    exact hk S o M5 H locs _ _ (by omega) (by omega) hP hD hS ls (lv_sub hl [0, 1, 2, 3, 4] rfl) hf
  · have hf := tk_neg hf h6
    refine lv_iconst (v := 0) hx hb dL_law_658 (by decide) ?_
    exact absurd (tk_s1 hf) (by decide)
set_option maxHeartbeats 4000000 in
set_option maxRecDepth 100000 in
theorem law_c12 {p : Program} {e : Env} {s : State} {m : MethodId} {below : List Frame} {meth : Method} {c : Code} (l : Launch) (hlst : l.stackTraces = false) {b L : Nat} {xs : Nat → Int32} (C0 : lw_At p s m meth c b L xs) (G : va_G) (c3 : ClassId × ClassId × ClassId) (q : Nat → Nat) (hE : tk_E G c3 s) (hC : tk_C s) (hZ : tk_Z (fun x : Nat => s.heap.size ≤ x) s s.heap) (K : tk_ST → (Nat → Int64) → tk_ST → Option Int32) (i : Int32) (S : tk_ST) (o : Nat → Int64) (M : tk_ST) (H : Heap) (locs : List Loc) (cells slots : Nat) (hcs : cells + 1 ≤ 668244 ∧ slots + 6 ≤ 7091373) (hP : va_P G vwCl (tk_W3 c3 q S o M) H) (hD : va_D (fun x : Nat => s.heap.size ≤ x) (tk_W3 c3 q S o M)) (hS : va_S (fun x : Nat => s.heap.size ≤ x) s.heap H locs) (ls : Array Slot) (hl : lv_has ls 8 [(0, .ref b), (1, .ref (q 0)), (2, .ref (q 17)), (3, .ref (q 26)), (4, .int i)]) (hf : f_law_c12 L xs K i S o M = some 1)
    (hk : ∀ (S : tk_ST) (o : Nat → Int64) (M : tk_ST) (H : Heap) (locs : List Loc) (cs ss : Nat), cs ≤ cells + 1 → ss ≤ slots + 6 → va_P G vwCl (tk_W3 c3 q S o M) H → va_D (fun x : Nat => s.heap.size ≤ x) (tk_W3 c3 q S o M) → va_S (fun x : Nat => s.heap.size ≤ x) s.heap H locs → ∀ ls : Array Slot, lv_has ls 8 [(0, .ref b), (1, .ref (q 0)), (2, .ref (q 17)), (3, .ref (q 26)), (4, .int i)] → K S o M = some 1 → W p l e room_1 s m #[Value.ref b] below meth c H locs cs ss (lw_Z below #[Value.ref b] s) (F0 m 1303 ls [])) :
    W p l e room_1 s m #[Value.ref b] below meth c H locs cells slots (lw_Z below #[Value.ref b] s) (F0 m 660 ls []) := by
  obtain ⟨hx, hb, hr, hml, hown, hts, hX, hbl, hlocks, hgv⟩ := id C0
  have hown : s.vm.findClass RL = some m.cls := hown
  have hts := fun w h => hts w (wsL_law_in w h)
  have hA : ∀ x : Nat, s.heap.size ≤ x → (fun x : Nat => s.heap.size ≤ x) x := fun _ h => h
  have hbA : ¬ (fun x : Nat => s.heap.size ≤ x) b := Nat.not_le.mpr hbl
  have h1c : cells + 1 ≤ room_1.cells ∧ slots + 6 ≤ room_1.slots := hcs
  have h0c : cells ≤ room_1.cells ∧ slots ≤ room_1.slots := ⟨Nat.le_trans (Nat.le_add_right _ _) hcs.1, Nat.le_trans (Nat.le_add_right _ _) hcs.2⟩
  unfold f_law_c12 at hf
  refine lv_aload_n hx hb dL_law_660 rfl (lv_at hl 1 rfl) ?_
  obtain ⟨r1, h2, hf⟩ := tk_b1s hf
  refine tk_ciH (a := tk_H c3 q S) (va_runV (As := []) (rest := []) ⟨hx, hb, hml, hown, hts⟩ (c_X6_called l G c3 q S r1 h2 H.size) (cwV 0 hts gL_law_X6_called rfl rfl rfl hv_X6_called ⟨Nat.le_of_ble_eq_true rfl, Nat.le_of_ble_eq_true rfl⟩) (tk_pV hE (tk_Pl (tk_Pl hP)) (tk_Dl (tk_Dl hD)) 0 rfl rfl) rfl rfl hl.1 rfl (lv_room (Nat.le_of_ble_eq_true rfl)) dL_law_661 h0c) hP hD hS hA (fun H locs hP hD hS => ?_)
  refine lv_aload_n hx hb dL_law_664 rfl (lv_at hl 2 rfl) ?_
  obtain ⟨r3, M5, h4, hf⟩ := tk_b2s hf
  refine tk_ciR (a := tk_H c3 q S ++ tk_O c3 q o) (b := tk_M c3 q M) (b' := tk_M c3 q M5) (va_runV (As := []) (rest := [.int r1]) ⟨hx, hb, hml, hown, hts⟩ (c_X7_called l G c3 q M r3 M5 h4 H.size) (cwV 0 hts gL_law_X7_called rfl rfl rfl hv_X7_called ⟨Nat.le_of_ble_eq_true rfl, Nat.le_of_ble_eq_true rfl⟩) (tk_pV hE (tk_Pr hP) (tk_Dr hD) 0 rfl rfl) rfl rfl hl.1 rfl (lv_room (Nat.le_of_ble_eq_true rfl)) dL_law_665 h0c) hP hD hS hA (fun H locs hP hD hS => ?_)
  refine lv_icmp_eq (tgt := 1303) hx hb dL_law_668 (by decide) (fun h6 => ?_) (fun h6 => ?_)
  · have hf := tk_pos hf h6
    exact hk S o M5 H locs _ _ (by omega) (by omega) hP hD hS ls (lv_sub hl [0, 1, 2, 3, 4] rfl) hf
  · have hf := tk_neg hf h6
    refine lv_iconst (v := 0) hx hb dL_law_671 (by decide) ?_
    exact absurd (tk_s1 hf) (by decide)
set_option maxHeartbeats 4000000 in
set_option maxRecDepth 100000 in
theorem law_c13 {p : Program} {e : Env} {s : State} {m : MethodId} {below : List Frame} {meth : Method} {c : Code} (l : Launch) (hlst : l.stackTraces = false) {b L : Nat} {xs : Nat → Int32} (C0 : lw_At p s m meth c b L xs) (G : va_G) (c3 : ClassId × ClassId × ClassId) (q : Nat → Nat) (hE : tk_E G c3 s) (hC : tk_C s) (hZ : tk_Z (fun x : Nat => s.heap.size ≤ x) s s.heap) (K : tk_ST → (Nat → Int64) → tk_ST → Option Int32) (i : Int32) (S : tk_ST) (o : Nat → Int64) (M : tk_ST) (H : Heap) (locs : List Loc) (cells slots : Nat) (hcs : cells + 1 ≤ 668244 ∧ slots + 6 ≤ 7091373) (hP : va_P G vwCl (tk_W3 c3 q S o M) H) (hD : va_D (fun x : Nat => s.heap.size ≤ x) (tk_W3 c3 q S o M)) (hS : va_S (fun x : Nat => s.heap.size ≤ x) s.heap H locs) (ls : Array Slot) (hl : lv_has ls 8 [(0, .ref b), (1, .ref (q 0)), (2, .ref (q 17)), (3, .ref (q 26)), (4, .int i)]) (hf : f_law_c13 L xs K i S o M = some 1)
    (hk : ∀ (S : tk_ST) (o : Nat → Int64) (M : tk_ST) (H : Heap) (locs : List Loc) (cs ss : Nat), cs ≤ cells + 1 → ss ≤ slots + 6 → va_P G vwCl (tk_W3 c3 q S o M) H → va_D (fun x : Nat => s.heap.size ≤ x) (tk_W3 c3 q S o M) → va_S (fun x : Nat => s.heap.size ≤ x) s.heap H locs → ∀ ls : Array Slot, lv_has ls 8 [(0, .ref b), (1, .ref (q 0)), (2, .ref (q 17)), (3, .ref (q 26)), (4, .int i)] → K S o M = some 1 → W p l e room_1 s m #[Value.ref b] below meth c H locs cs ss (lw_Z below #[Value.ref b] s) (F0 m 1303 ls [])) :
    W p l e room_1 s m #[Value.ref b] below meth c H locs cells slots (lw_Z below #[Value.ref b] s) (F0 m 673 ls []) := by
  obtain ⟨hx, hb, hr, hml, hown, hts, hX, hbl, hlocks, hgv⟩ := id C0
  have hown : s.vm.findClass RL = some m.cls := hown
  have hts := fun w h => hts w (wsL_law_in w h)
  have hA : ∀ x : Nat, s.heap.size ≤ x → (fun x : Nat => s.heap.size ≤ x) x := fun _ h => h
  have hbA : ¬ (fun x : Nat => s.heap.size ≤ x) b := Nat.not_le.mpr hbl
  have h1c : cells + 1 ≤ room_1.cells ∧ slots + 6 ≤ room_1.slots := hcs
  have h0c : cells ≤ room_1.cells ∧ slots ≤ room_1.slots := ⟨Nat.le_trans (Nat.le_add_right _ _) hcs.1, Nat.le_trans (Nat.le_add_right _ _) hcs.2⟩
  unfold f_law_c13 at hf
  refine lv_aload_n hx hb dL_law_673 rfl (lv_at hl 1 rfl) ?_
  obtain ⟨r1, h2, hf⟩ := tk_b1s hf
  refine tk_ciH (a := tk_H c3 q S) (va_runV (As := []) (rest := []) ⟨hx, hb, hml, hown, hts⟩ (c_X6_partner l G c3 q S r1 h2 H.size) (cwV 0 hts gL_law_X6_partner rfl rfl rfl hv_X6_partner ⟨Nat.le_of_ble_eq_true rfl, Nat.le_of_ble_eq_true rfl⟩) (tk_pV hE (tk_Pl (tk_Pl hP)) (tk_Dl (tk_Dl hD)) 0 rfl rfl) rfl rfl hl.1 rfl (lv_room (Nat.le_of_ble_eq_true rfl)) dL_law_674 h0c) hP hD hS hA (fun H locs hP hD hS => ?_)
  refine lv_aload_n hx hb dL_law_677 rfl (lv_at hl 2 rfl) ?_
  obtain ⟨r3, M5, h4, hf⟩ := tk_b2s hf
  refine tk_ciR (a := tk_H c3 q S ++ tk_O c3 q o) (b := tk_M c3 q M) (b' := tk_M c3 q M5) (va_runV (As := []) (rest := [.int r1]) ⟨hx, hb, hml, hown, hts⟩ (c_X7_partner l G c3 q M r3 M5 h4 H.size) (cwV 0 hts gL_law_X7_partner rfl rfl rfl hv_X7_partner ⟨Nat.le_of_ble_eq_true rfl, Nat.le_of_ble_eq_true rfl⟩) (tk_pV hE (tk_Pr hP) (tk_Dr hD) 0 rfl rfl) rfl rfl hl.1 rfl (lv_room (Nat.le_of_ble_eq_true rfl)) dL_law_678 h0c) hP hD hS hA (fun H locs hP hD hS => ?_)
  refine lv_icmp_eq (tgt := 1303) hx hb dL_law_681 (by decide) (fun h6 => ?_) (fun h6 => ?_)
  · have hf := tk_pos hf h6
    exact hk S o M5 H locs _ _ (by omega) (by omega) hP hD hS ls (lv_sub hl [0, 1, 2, 3, 4] rfl) hf
  · have hf := tk_neg hf h6
    refine lv_iconst (v := 0) hx hb dL_law_684 (by decide) ?_
    exact absurd (tk_s1 hf) (by decide)
set_option maxHeartbeats 4000000 in
set_option maxRecDepth 100000 in
theorem law_c14 {p : Program} {e : Env} {s : State} {m : MethodId} {below : List Frame} {meth : Method} {c : Code} (l : Launch) (hlst : l.stackTraces = false) {b L : Nat} {xs : Nat → Int32} (C0 : lw_At p s m meth c b L xs) (G : va_G) (c3 : ClassId × ClassId × ClassId) (q : Nat → Nat) (hE : tk_E G c3 s) (hC : tk_C s) (hZ : tk_Z (fun x : Nat => s.heap.size ≤ x) s s.heap) (K : tk_ST → (Nat → Int64) → tk_ST → Option Int32) (i : Int32) (S : tk_ST) (o : Nat → Int64) (M : tk_ST) (H : Heap) (locs : List Loc) (cells slots : Nat) (hcs : cells + 1 ≤ 668244 ∧ slots + 6 ≤ 7091373) (hP : va_P G vwCl (tk_W3 c3 q S o M) H) (hD : va_D (fun x : Nat => s.heap.size ≤ x) (tk_W3 c3 q S o M)) (hS : va_S (fun x : Nat => s.heap.size ≤ x) s.heap H locs) (ls : Array Slot) (hl : lv_has ls 8 [(0, .ref b), (1, .ref (q 0)), (2, .ref (q 17)), (3, .ref (q 26)), (4, .int i)]) (hf : f_law_c14 L xs K i S o M = some 1)
    (hk : ∀ (S : tk_ST) (o : Nat → Int64) (M : tk_ST) (H : Heap) (locs : List Loc) (cs ss : Nat), cs ≤ cells + 1 → ss ≤ slots + 6 → va_P G vwCl (tk_W3 c3 q S o M) H → va_D (fun x : Nat => s.heap.size ≤ x) (tk_W3 c3 q S o M) → va_S (fun x : Nat => s.heap.size ≤ x) s.heap H locs → ∀ ls : Array Slot, lv_has ls 8 [(0, .ref b), (1, .ref (q 0)), (2, .ref (q 17)), (3, .ref (q 26)), (4, .int i)] → K S o M = some 1 → W p l e room_1 s m #[Value.ref b] below meth c H locs cs ss (lw_Z below #[Value.ref b] s) (F0 m 1303 ls [])) :
    W p l e room_1 s m #[Value.ref b] below meth c H locs cells slots (lw_Z below #[Value.ref b] s) (F0 m 686 ls []) := by
  obtain ⟨hx, hb, hr, hml, hown, hts, hX, hbl, hlocks, hgv⟩ := id C0
  have hown : s.vm.findClass RL = some m.cls := hown
  have hts := fun w h => hts w (wsL_law_in w h)
  have hA : ∀ x : Nat, s.heap.size ≤ x → (fun x : Nat => s.heap.size ≤ x) x := fun _ h => h
  have hbA : ¬ (fun x : Nat => s.heap.size ≤ x) b := Nat.not_le.mpr hbl
  have h1c : cells + 1 ≤ room_1.cells ∧ slots + 6 ≤ room_1.slots := hcs
  have h0c : cells ≤ room_1.cells ∧ slots ≤ room_1.slots := ⟨Nat.le_trans (Nat.le_add_right _ _) hcs.1, Nat.le_trans (Nat.le_add_right _ _) hcs.2⟩
  unfold f_law_c14 at hf
  refine lv_aload_n hx hb dL_law_686 rfl (lv_at hl 1 rfl) ?_
  refine lv_aload_n hx hb dL_law_687 rfl (lv_at hl 0 rfl) ?_
  refine lv_iload hx hb dL_law_688 (lv_at hl 4 rfl) ?_
  refine lv_iconst (v := 1) hx hb dL_law_690 (by decide) ?_
  refine lv_iadd hx hb dL_law_691 ?_
  obtain ⟨h1, hf⟩ := tk_ok hf
  refine va_sld hx hb hX hbl hbA hS h1 dL_law_692 ?_
  refine lv_aload_n hx hb dL_law_693 rfl (lv_at hl 3 rfl) ?_
  obtain ⟨k2, S3, o4, h5, hf⟩ := tk_b3s hf
  refine tk_ciL (a := tk_H c3 q S ++ tk_O c3 q o) (a' := tk_H c3 q S3 ++ tk_O c3 q o4) (b := tk_M c3 q M) (vx_runSW (As := [.ref (q 0), .int (xs (i + (1 : Int32)).toNatClampNeg), .ref (q 26)]) (rest := []) ⟨hx, hb, hml, hown, hts⟩ (c_L_hand l hlst G c3 q S o (xs (i + (1 : Int32)).toNatClampNeg) k2 S3 o4 h5 H.size) (vx_cwSW 3 hts gL_law_L_hand rfl rfl rfl hs_L_hand ⟨Nat.le_of_ble_eq_true rfl, Nat.le_of_ble_eq_true rfl⟩) (tk_pSL hE hZ hC (tk_Pl hP) (tk_Dl hD) hS hA) rfl rfl hl.1 rfl (lv_room (Nat.le_of_ble_eq_true rfl)) dL_law_694 h1c) hP hD hS hA (fun H locs hP hD hS => ?_)
  refine lv_istore (lv' := [(5, .int k2), (0, .ref b), (1, .ref (q 0)), (2, .ref (q 17)), (3, .ref (q 26)), (4, .int i)]) hx hb dL_law_697 hl (by decide) rfl (fun ls hl => ?_)
  refine lv_aload_n hx hb dL_law_699 rfl (lv_at hl 3 rfl) ?_
  refine lv_aload_n hx hb dL_law_700 rfl (lv_at hl 1 rfl) ?_
  refine lv_iload hx hb dL_law_701 (lv_at hl 5 rfl) ?_
  refine lv_iconst (v := 1) hx hb dL_law_703 (by decide) ?_
  refine lv_iadd hx hb dL_law_704 ?_
  obtain ⟨h6, hf⟩ := tk_ok hf
  refine va_sld hx hb hX hbl hbA hS h6 dL_law_705 ?_
  obtain ⟨r7, M9, h8, hf⟩ := tk_b2s hf
  refine tk_clR (a := tk_H c3 q S3 ++ tk_O c3 q o4) (b := tk_M c3 q M) (b' := tk_M c3 q M9) (va_runV (As := [.int (xs (i + (1 : Int32)).toNatClampNeg)]) (rest := []) ⟨hx, hb, hml, hown, hts⟩ (c_X7_hand l G c3 q M (xs (i + (1 : Int32)).toNatClampNeg) r7 M9 h8 H.size) (cwV 1 hts gL_law_X7_hand rfl rfl rfl hv_X7_hand ⟨Nat.le_of_ble_eq_true rfl, Nat.le_of_ble_eq_true rfl⟩) (tk_pV hE (tk_Pr hP) (tk_Dr hD) 0 rfl rfl) rfl rfl hl.1 rfl (lv_room (Nat.le_of_ble_eq_true rfl)) dL_law_706 h1c) hP hD hS hA (fun H locs hP hD hS => ?_)
  refine lv_lstore (lv' := [(6, .long r7), (5, .int k2), (0, .ref b), (1, .ref (q 0)), (2, .ref (q 17)), (3, .ref (q 26)), (4, .int i)]) hx hb dL_law_709 hl (by decide) rfl (fun ls hl => ?_)
  refine lv_aload_n hx hb dL_law_711 rfl (lv_at hl 4 rfl) ?_
  obtain ⟨r10, h11, hf⟩ := tk_b1s hf
  refine tk_ciR (a := tk_H c3 q S3 ++ tk_O c3 q o4) (b := tk_M c3 q M9) (b' := tk_M c3 q M9) (va_runV (As := []) (rest := []) ⟨hx, hb, hml, hown, hts⟩ (c_X7_thrown l G c3 q M9 r10 h11 H.size) (cwV 0 hts gL_law_X7_thrown rfl rfl rfl hv_X7_thrown ⟨Nat.le_of_ble_eq_true rfl, Nat.le_of_ble_eq_true rfl⟩) (tk_pV hE (tk_Pr hP) (tk_Dr hD) 0 rfl rfl) rfl rfl hl.1 rfl (lv_room (Nat.le_of_ble_eq_true rfl)) dL_law_712 h1c) hP hD hS hA (fun H locs hP hD hS => ?_)
  refine lv_iload hx hb dL_law_715 (lv_at hl 1 rfl) ?_
  refine lv_icmp_eq (tgt := 722) hx hb dL_law_717 (by decide) (fun h12 => ?_) (fun h12 => ?_)
  · have hf := tk_pos hf h12
    refine lv_iload hx hb dL_law_722 (lv_at hl 1 rfl) ?_
    refine lv_if_ne (tgt := 738) hx hb dL_law_724 (by decide) (fun h13 => ?_) (fun h13 => ?_)
    · have hf := tk_neg hf h13
      refine lv_goto (tgt := 1303) hx hb dL_law_738 (by decide) ?_
      exact hk S3 o4 M9 H locs _ _ (by omega) (by omega) hP hD hS ls (lv_sub hl [2, 3, 4, 5, 6] rfl) hf
    · have hf := tk_pos hf h13
      refine lv_aload_n hx hb dL_law_727 rfl (lv_at hl 5 rfl) ?_
      refine lv_iconst (v := 0) hx hb dL_law_728 (by decide) ?_
      refine va_lald (f := o4) hx hb hE.1 hP 17 1 rfl rfl tk_in01 dL_law_729 ?_
      refine lv_lload hx hb dL_law_730 (lv_at hl 0 rfl) ?_
      refine W.lcmp hx hb dL_law_732 ?_
      refine lv_if_eq (tgt := 738) hx hb dL_law_733 (by decide) (fun h14 => ?_) (fun h14 => ?_)
      · have hf := tk_pos hf h14
        refine lv_goto (tgt := 1303) hx hb dL_law_738 (by decide) ?_
        exact hk S3 o4 M9 H locs _ _ (by omega) (by omega) hP hD hS ls (lv_sub hl [2, 3, 4, 5, 6] rfl) hf
      · have hf := tk_neg hf h14
        refine lv_iconst (v := 0) hx hb dL_law_736 (by decide) ?_
        exact absurd (tk_s1 hf) (by decide)
  · have hf := tk_neg hf h12
    refine lv_iconst (v := 0) hx hb dL_law_720 (by decide) ?_
    exact absurd (tk_s1 hf) (by decide)
set_option maxHeartbeats 4000000 in
set_option maxRecDepth 100000 in
theorem law_c15 {p : Program} {e : Env} {s : State} {m : MethodId} {below : List Frame} {meth : Method} {c : Code} (l : Launch) (hlst : l.stackTraces = false) {b L : Nat} {xs : Nat → Int32} (C0 : lw_At p s m meth c b L xs) (G : va_G) (c3 : ClassId × ClassId × ClassId) (q : Nat → Nat) (hE : tk_E G c3 s) (hC : tk_C s) (hZ : tk_Z (fun x : Nat => s.heap.size ≤ x) s s.heap) (K : tk_ST → (Nat → Int64) → tk_ST → Option Int32) (i : Int32) (S : tk_ST) (o : Nat → Int64) (M : tk_ST) (H : Heap) (locs : List Loc) (cells slots : Nat) (hcs : cells + 1 ≤ 668244 ∧ slots + 6 ≤ 7091373) (hP : va_P G vwCl (tk_W3 c3 q S o M) H) (hD : va_D (fun x : Nat => s.heap.size ≤ x) (tk_W3 c3 q S o M)) (hS : va_S (fun x : Nat => s.heap.size ≤ x) s.heap H locs) (ls : Array Slot) (hl : lv_has ls 8 [(0, .ref b), (1, .ref (q 0)), (2, .ref (q 17)), (3, .ref (q 26)), (4, .int i)]) (hf : f_law_c15 L xs K i S o M = some 1)
    (hk : ∀ (S : tk_ST) (o : Nat → Int64) (M : tk_ST) (H : Heap) (locs : List Loc) (cs ss : Nat), cs ≤ cells + 1 → ss ≤ slots + 6 → va_P G vwCl (tk_W3 c3 q S o M) H → va_D (fun x : Nat => s.heap.size ≤ x) (tk_W3 c3 q S o M) → va_S (fun x : Nat => s.heap.size ≤ x) s.heap H locs → ∀ ls : Array Slot, lv_has ls 8 [(0, .ref b), (1, .ref (q 0)), (2, .ref (q 17)), (3, .ref (q 26)), (4, .int i)] → K S o M = some 1 → W p l e room_1 s m #[Value.ref b] below meth c H locs cs ss (lw_Z below #[Value.ref b] s) (F0 m 1303 ls [])) :
    W p l e room_1 s m #[Value.ref b] below meth c H locs cells slots (lw_Z below #[Value.ref b] s) (F0 m 741 ls []) := by
  obtain ⟨hx, hb, hr, hml, hown, hts, hX, hbl, hlocks, hgv⟩ := id C0
  have hown : s.vm.findClass RL = some m.cls := hown
  have hts := fun w h => hts w (wsL_law_in w h)
  have hA : ∀ x : Nat, s.heap.size ≤ x → (fun x : Nat => s.heap.size ≤ x) x := fun _ h => h
  have hbA : ¬ (fun x : Nat => s.heap.size ≤ x) b := Nat.not_le.mpr hbl
  have h1c : cells + 1 ≤ room_1.cells ∧ slots + 6 ≤ room_1.slots := hcs
  have h0c : cells ≤ room_1.cells ∧ slots ≤ room_1.slots := ⟨Nat.le_trans (Nat.le_add_right _ _) hcs.1, Nat.le_trans (Nat.le_add_right _ _) hcs.2⟩
  unfold f_law_c15 at hf
  refine lv_aload_n hx hb dL_law_741 rfl (lv_at hl 1 rfl) ?_
  refine lv_aload_n hx hb dL_law_742 rfl (lv_at hl 0 rfl) ?_
  refine lv_iload hx hb dL_law_743 (lv_at hl 4 rfl) ?_
  refine lv_iconst (v := 1) hx hb dL_law_745 (by decide) ?_
  refine lv_iadd hx hb dL_law_746 ?_
  obtain ⟨h1, hf⟩ := tk_ok hf
  refine va_sld hx hb hX hbl hbA hS h1 dL_law_747 ?_
  refine lv_aload_n hx hb dL_law_748 rfl (lv_at hl 3 rfl) ?_
  obtain ⟨k2, S3, o4, h5, hf⟩ := tk_b3s hf
  refine tk_ciL (a := tk_H c3 q S ++ tk_O c3 q o) (a' := tk_H c3 q S3 ++ tk_O c3 q o4) (b := tk_M c3 q M) (vx_runSW (As := [.ref (q 0), .int (xs (i + (1 : Int32)).toNatClampNeg), .ref (q 26)]) (rest := []) ⟨hx, hb, hml, hown, hts⟩ (c_L_talonAt l hlst G c3 q S o (xs (i + (1 : Int32)).toNatClampNeg) k2 S3 o4 h5 H.size) (vx_cwSW 3 hts gL_law_L_talonAt rfl rfl rfl hs_L_talonAt ⟨Nat.le_of_ble_eq_true rfl, Nat.le_of_ble_eq_true rfl⟩) (tk_pSL hE hZ hC (tk_Pl hP) (tk_Dl hD) hS hA) rfl rfl hl.1 rfl (lv_room (Nat.le_of_ble_eq_true rfl)) dL_law_749 h1c) hP hD hS hA (fun H locs hP hD hS => ?_)
  refine lv_istore (lv' := [(5, .int k2), (0, .ref b), (1, .ref (q 0)), (2, .ref (q 17)), (3, .ref (q 26)), (4, .int i)]) hx hb dL_law_752 hl (by decide) rfl (fun ls hl => ?_)
  refine lv_aload_n hx hb dL_law_754 rfl (lv_at hl 3 rfl) ?_
  refine lv_aload_n hx hb dL_law_755 rfl (lv_at hl 1 rfl) ?_
  refine lv_iload hx hb dL_law_756 (lv_at hl 5 rfl) ?_
  refine lv_iconst (v := 1) hx hb dL_law_758 (by decide) ?_
  refine lv_iadd hx hb dL_law_759 ?_
  obtain ⟨h6, hf⟩ := tk_ok hf
  refine va_sld hx hb hX hbl hbA hS h6 dL_law_760 ?_
  obtain ⟨r7, M9, h8, hf⟩ := tk_b2s hf
  refine tk_ciR (a := tk_H c3 q S3 ++ tk_O c3 q o4) (b := tk_M c3 q M) (b' := tk_M c3 q M9) (va_runV (As := [.int (xs (i + (1 : Int32)).toNatClampNeg)]) (rest := []) ⟨hx, hb, hml, hown, hts⟩ (c_X7_talonAt l G c3 q M (xs (i + (1 : Int32)).toNatClampNeg) r7 M9 h8 H.size) (cwV 1 hts gL_law_X7_talonAt rfl rfl rfl hv_X7_talonAt ⟨Nat.le_of_ble_eq_true rfl, Nat.le_of_ble_eq_true rfl⟩) (tk_pV hE (tk_Pr hP) (tk_Dr hD) 0 rfl rfl) rfl rfl hl.1 rfl (lv_room (Nat.le_of_ble_eq_true rfl)) dL_law_761 h1c) hP hD hS hA (fun H locs hP hD hS => ?_)
  refine lv_istore (lv' := [(6, .int r7), (5, .int k2), (0, .ref b), (1, .ref (q 0)), (2, .ref (q 17)), (3, .ref (q 26)), (4, .int i)]) hx hb dL_law_764 hl (by decide) rfl (fun ls hl => ?_)
  refine lv_aload_n hx hb dL_law_766 rfl (lv_at hl 4 rfl) ?_
  obtain ⟨r10, h11, hf⟩ := tk_b1s hf
  refine tk_ciR (a := tk_H c3 q S3 ++ tk_O c3 q o4) (b := tk_M c3 q M9) (b' := tk_M c3 q M9) (va_runV (As := []) (rest := []) ⟨hx, hb, hml, hown, hts⟩ (c_X7_thrown l G c3 q M9 r10 h11 H.size) (cwV 0 hts gL_law_X7_thrown rfl rfl rfl hv_X7_thrown ⟨Nat.le_of_ble_eq_true rfl, Nat.le_of_ble_eq_true rfl⟩) (tk_pV hE (tk_Pr hP) (tk_Dr hD) 0 rfl rfl) rfl rfl hl.1 rfl (lv_room (Nat.le_of_ble_eq_true rfl)) dL_law_767 h1c) hP hD hS hA (fun H locs hP hD hS => ?_)
  refine lv_iload hx hb dL_law_770 (lv_at hl 1 rfl) ?_
  refine lv_icmp_eq (tgt := 777) hx hb dL_law_772 (by decide) (fun h12 => ?_) (fun h12 => ?_)
  · have hf := tk_pos hf h12
    refine lv_iload hx hb dL_law_777 (lv_at hl 1 rfl) ?_
    refine lv_if_ne (tgt := 794) hx hb dL_law_779 (by decide) (fun h13 => ?_) (fun h13 => ?_)
    · have hf := tk_neg hf h13
      refine lv_goto (tgt := 1303) hx hb dL_law_794 (by decide) ?_
      exact hk S3 o4 M9 H locs _ _ (by omega) (by omega) hP hD hS ls (lv_sub hl [2, 3, 4, 5, 6] rfl) hf
    · have hf := tk_pos hf h13
      refine lv_aload_n hx hb dL_law_782 rfl (lv_at hl 5 rfl) ?_
      refine lv_iconst (v := 0) hx hb dL_law_783 (by decide) ?_
      refine va_lald (f := o4) hx hb hE.1 hP 17 1 rfl rfl tk_in01 dL_law_784 ?_
      refine lv_iload hx hb dL_law_785 (lv_at hl 0 rfl) ?_
      refine lv_i2l (v := r7.toInt64) hx hb dL_law_787 rfl ?_
      refine W.lcmp hx hb dL_law_788 ?_
      refine lv_if_eq (tgt := 794) hx hb dL_law_789 (by decide) (fun h14 => ?_) (fun h14 => ?_)
      · have hf := tk_pos hf h14
        refine lv_goto (tgt := 1303) hx hb dL_law_794 (by decide) ?_
        exact hk S3 o4 M9 H locs _ _ (by omega) (by omega) hP hD hS ls (lv_sub hl [2, 3, 4, 5, 6] rfl) hf
      · have hf := tk_neg hf h14
        refine lv_iconst (v := 0) hx hb dL_law_792 (by decide) ?_
        exact absurd (tk_s1 hf) (by decide)
  · have hf := tk_neg hf h12
    refine lv_iconst (v := 0) hx hb dL_law_775 (by decide) ?_
    exact absurd (tk_s1 hf) (by decide)
set_option maxHeartbeats 4000000 in
set_option maxRecDepth 100000 in
theorem law_c16 {p : Program} {e : Env} {s : State} {m : MethodId} {below : List Frame} {meth : Method} {c : Code} (l : Launch) (hlst : l.stackTraces = false) {b L : Nat} {xs : Nat → Int32} (C0 : lw_At p s m meth c b L xs) (G : va_G) (c3 : ClassId × ClassId × ClassId) (q : Nat → Nat) (hE : tk_E G c3 s) (hC : tk_C s) (hZ : tk_Z (fun x : Nat => s.heap.size ≤ x) s s.heap) (K : tk_ST → (Nat → Int64) → tk_ST → Option Int32) (i : Int32) (S : tk_ST) (o : Nat → Int64) (M : tk_ST) (H : Heap) (locs : List Loc) (cells slots : Nat) (hcs : cells + 1 ≤ 668244 ∧ slots + 6 ≤ 7091373) (hP : va_P G vwCl (tk_W3 c3 q S o M) H) (hD : va_D (fun x : Nat => s.heap.size ≤ x) (tk_W3 c3 q S o M)) (hS : va_S (fun x : Nat => s.heap.size ≤ x) s.heap H locs) (ls : Array Slot) (hl : lv_has ls 8 [(0, .ref b), (1, .ref (q 0)), (2, .ref (q 17)), (3, .ref (q 26)), (4, .int i)]) (hf : f_law_c16 L xs K i S o M = some 1)
    (hk : ∀ (S : tk_ST) (o : Nat → Int64) (M : tk_ST) (H : Heap) (locs : List Loc) (cs ss : Nat), cs ≤ cells + 1 → ss ≤ slots + 6 → va_P G vwCl (tk_W3 c3 q S o M) H → va_D (fun x : Nat => s.heap.size ≤ x) (tk_W3 c3 q S o M) → va_S (fun x : Nat => s.heap.size ≤ x) s.heap H locs → ∀ ls : Array Slot, lv_has ls 8 [(0, .ref b), (1, .ref (q 0)), (2, .ref (q 17)), (3, .ref (q 26)), (4, .int i)] → K S o M = some 1 → W p l e room_1 s m #[Value.ref b] below meth c H locs cs ss (lw_Z below #[Value.ref b] s) (F0 m 1303 ls [])) :
    W p l e room_1 s m #[Value.ref b] below meth c H locs cells slots (lw_Z below #[Value.ref b] s) (F0 m 797 ls []) := by
  obtain ⟨hx, hb, hr, hml, hown, hts, hX, hbl, hlocks, hgv⟩ := id C0
  have hown : s.vm.findClass RL = some m.cls := hown
  have hts := fun w h => hts w (wsL_law_in w h)
  have hA : ∀ x : Nat, s.heap.size ≤ x → (fun x : Nat => s.heap.size ≤ x) x := fun _ h => h
  have hbA : ¬ (fun x : Nat => s.heap.size ≤ x) b := Nat.not_le.mpr hbl
  have h1c : cells + 1 ≤ room_1.cells ∧ slots + 6 ≤ room_1.slots := hcs
  have h0c : cells ≤ room_1.cells ∧ slots ≤ room_1.slots := ⟨Nat.le_trans (Nat.le_add_right _ _) hcs.1, Nat.le_trans (Nat.le_add_right _ _) hcs.2⟩
  unfold f_law_c16 at hf
  refine lv_aload_n hx hb dL_law_797 rfl (lv_at hl 1 rfl) ?_
  obtain ⟨r1, h2, hf⟩ := tk_b1s hf
  refine tk_ciH (a := tk_H c3 q S) (va_runV (As := []) (rest := []) ⟨hx, hb, hml, hown, hts⟩ (c_X6_inTrick l G c3 q S r1 h2 H.size) (cwV 0 hts gL_law_X6_inTrick rfl rfl rfl hv_X6_inTrick ⟨Nat.le_of_ble_eq_true rfl, Nat.le_of_ble_eq_true rfl⟩) (tk_pV hE (tk_Pl (tk_Pl hP)) (tk_Dl (tk_Dl hD)) 0 rfl rfl) rfl rfl hl.1 rfl (lv_room (Nat.le_of_ble_eq_true rfl)) dL_law_798 h0c) hP hD hS hA (fun H locs hP hD hS => ?_)
  refine lv_aload_n hx hb dL_law_801 rfl (lv_at hl 2 rfl) ?_
  obtain ⟨r3, M5, h4, hf⟩ := tk_b2s hf
  refine tk_ciR (a := tk_H c3 q S ++ tk_O c3 q o) (b := tk_M c3 q M) (b' := tk_M c3 q M5) (va_runV (As := []) (rest := [.int r1]) ⟨hx, hb, hml, hown, hts⟩ (c_X7_inTrick l G c3 q M r3 M5 h4 H.size) (cwV 0 hts gL_law_X7_inTrick rfl rfl rfl hv_X7_inTrick ⟨Nat.le_of_ble_eq_true rfl, Nat.le_of_ble_eq_true rfl⟩) (tk_pV hE (tk_Pr hP) (tk_Dr hD) 0 rfl rfl) rfl rfl hl.1 rfl (lv_room (Nat.le_of_ble_eq_true rfl)) dL_law_802 h0c) hP hD hS hA (fun H locs hP hD hS => ?_)
  refine lv_icmp_eq (tgt := 1303) hx hb dL_law_805 (by decide) (fun h6 => ?_) (fun h6 => ?_)
  · have hf := tk_pos hf h6
    exact hk S o M5 H locs _ _ (by omega) (by omega) hP hD hS ls (lv_sub hl [0, 1, 2, 3, 4] rfl) hf
  · have hf := tk_neg hf h6
    refine lv_iconst (v := 0) hx hb dL_law_808 (by decide) ?_
    exact absurd (tk_s1 hf) (by decide)
set_option maxHeartbeats 4000000 in
set_option maxRecDepth 100000 in
theorem law_c17 {p : Program} {e : Env} {s : State} {m : MethodId} {below : List Frame} {meth : Method} {c : Code} (l : Launch) (hlst : l.stackTraces = false) {b L : Nat} {xs : Nat → Int32} (C0 : lw_At p s m meth c b L xs) (G : va_G) (c3 : ClassId × ClassId × ClassId) (q : Nat → Nat) (hE : tk_E G c3 s) (hC : tk_C s) (hZ : tk_Z (fun x : Nat => s.heap.size ≤ x) s s.heap) (K : tk_ST → (Nat → Int64) → tk_ST → Option Int32) (i : Int32) (S : tk_ST) (o : Nat → Int64) (M : tk_ST) (H : Heap) (locs : List Loc) (cells slots : Nat) (hcs : cells + 1 ≤ 668244 ∧ slots + 6 ≤ 7091373) (hP : va_P G vwCl (tk_W3 c3 q S o M) H) (hD : va_D (fun x : Nat => s.heap.size ≤ x) (tk_W3 c3 q S o M)) (hS : va_S (fun x : Nat => s.heap.size ≤ x) s.heap H locs) (ls : Array Slot) (hl : lv_has ls 8 [(0, .ref b), (1, .ref (q 0)), (2, .ref (q 17)), (3, .ref (q 26)), (4, .int i)]) (hf : f_law_c17 L xs K i S o M = some 1)
    (hk : ∀ (S : tk_ST) (o : Nat → Int64) (M : tk_ST) (H : Heap) (locs : List Loc) (cs ss : Nat), cs ≤ cells + 1 → ss ≤ slots + 6 → va_P G vwCl (tk_W3 c3 q S o M) H → va_D (fun x : Nat => s.heap.size ≤ x) (tk_W3 c3 q S o M) → va_S (fun x : Nat => s.heap.size ≤ x) s.heap H locs → ∀ ls : Array Slot, lv_has ls 8 [(0, .ref b), (1, .ref (q 0)), (2, .ref (q 17)), (3, .ref (q 26)), (4, .int i)] → K S o M = some 1 → W p l e room_1 s m #[Value.ref b] below meth c H locs cs ss (lw_Z below #[Value.ref b] s) (F0 m 1303 ls [])) :
    W p l e room_1 s m #[Value.ref b] below meth c H locs cells slots (lw_Z below #[Value.ref b] s) (F0 m 810 ls []) := by
  obtain ⟨hx, hb, hr, hml, hown, hts, hX, hbl, hlocks, hgv⟩ := id C0
  have hown : s.vm.findClass RL = some m.cls := hown
  have hts := fun w h => hts w (wsL_law_in w h)
  have hA : ∀ x : Nat, s.heap.size ≤ x → (fun x : Nat => s.heap.size ≤ x) x := fun _ h => h
  have hbA : ¬ (fun x : Nat => s.heap.size ≤ x) b := Nat.not_le.mpr hbl
  have h1c : cells + 1 ≤ room_1.cells ∧ slots + 6 ≤ room_1.slots := hcs
  have h0c : cells ≤ room_1.cells ∧ slots ≤ room_1.slots := ⟨Nat.le_trans (Nat.le_add_right _ _) hcs.1, Nat.le_trans (Nat.le_add_right _ _) hcs.2⟩
  unfold f_law_c17 at hf
  refine lv_aload_n hx hb dL_law_810 rfl (lv_at hl 1 rfl) ?_
  refine lv_aload_n hx hb dL_law_811 rfl (lv_at hl 0 rfl) ?_
  refine lv_iload hx hb dL_law_812 (lv_at hl 4 rfl) ?_
  refine lv_iconst (v := 1) hx hb dL_law_814 (by decide) ?_
  refine lv_iadd hx hb dL_law_815 ?_
  obtain ⟨h1, hf⟩ := tk_ok hf
  refine va_sld hx hb hX hbl hbA hS h1 dL_law_816 ?_
  refine lv_aload_n hx hb dL_law_817 rfl (lv_at hl 3 rfl) ?_
  obtain ⟨k2, S3, o4, h5, hf⟩ := tk_b3s hf
  refine tk_ciL (a := tk_H c3 q S ++ tk_O c3 q o) (a' := tk_H c3 q S3 ++ tk_O c3 q o4) (b := tk_M c3 q M) (vx_runSW (As := [.ref (q 0), .int (xs (i + (1 : Int32)).toNatClampNeg), .ref (q 26)]) (rest := []) ⟨hx, hb, hml, hown, hts⟩ (c_L_trickAt l hlst G c3 q S o (xs (i + (1 : Int32)).toNatClampNeg) k2 S3 o4 h5 H.size) (vx_cwSW 3 hts gL_law_L_trickAt rfl rfl rfl hs_L_trickAt ⟨Nat.le_of_ble_eq_true rfl, Nat.le_of_ble_eq_true rfl⟩) (tk_pSL hE hZ hC (tk_Pl hP) (tk_Dl hD) hS hA) rfl rfl hl.1 rfl (lv_room (Nat.le_of_ble_eq_true rfl)) dL_law_818 h1c) hP hD hS hA (fun H locs hP hD hS => ?_)
  refine lv_istore (lv' := [(5, .int k2), (0, .ref b), (1, .ref (q 0)), (2, .ref (q 17)), (3, .ref (q 26)), (4, .int i)]) hx hb dL_law_821 hl (by decide) rfl (fun ls hl => ?_)
  refine lv_aload_n hx hb dL_law_823 rfl (lv_at hl 3 rfl) ?_
  refine lv_aload_n hx hb dL_law_824 rfl (lv_at hl 1 rfl) ?_
  refine lv_iload hx hb dL_law_825 (lv_at hl 5 rfl) ?_
  refine lv_iconst (v := 1) hx hb dL_law_827 (by decide) ?_
  refine lv_iadd hx hb dL_law_828 ?_
  obtain ⟨h6, hf⟩ := tk_ok hf
  refine va_sld hx hb hX hbl hbA hS h6 dL_law_829 ?_
  obtain ⟨r7, M9, h8, hf⟩ := tk_b2s hf
  refine tk_ciR (a := tk_H c3 q S3 ++ tk_O c3 q o4) (b := tk_M c3 q M) (b' := tk_M c3 q M9) (va_runV (As := [.int (xs (i + (1 : Int32)).toNatClampNeg)]) (rest := []) ⟨hx, hb, hml, hown, hts⟩ (c_X7_trickAt l G c3 q M (xs (i + (1 : Int32)).toNatClampNeg) r7 M9 h8 H.size) (cwV 1 hts gL_law_X7_trickAt rfl rfl rfl hv_X7_trickAt ⟨Nat.le_of_ble_eq_true rfl, Nat.le_of_ble_eq_true rfl⟩) (tk_pV hE (tk_Pr hP) (tk_Dr hD) 0 rfl rfl) rfl rfl hl.1 rfl (lv_room (Nat.le_of_ble_eq_true rfl)) dL_law_830 h1c) hP hD hS hA (fun H locs hP hD hS => ?_)
  refine lv_istore (lv' := [(6, .int r7), (5, .int k2), (0, .ref b), (1, .ref (q 0)), (2, .ref (q 17)), (3, .ref (q 26)), (4, .int i)]) hx hb dL_law_833 hl (by decide) rfl (fun ls hl => ?_)
  refine lv_aload_n hx hb dL_law_835 rfl (lv_at hl 4 rfl) ?_
  obtain ⟨r10, h11, hf⟩ := tk_b1s hf
  refine tk_ciR (a := tk_H c3 q S3 ++ tk_O c3 q o4) (b := tk_M c3 q M9) (b' := tk_M c3 q M9) (va_runV (As := []) (rest := []) ⟨hx, hb, hml, hown, hts⟩ (c_X7_thrown l G c3 q M9 r10 h11 H.size) (cwV 0 hts gL_law_X7_thrown rfl rfl rfl hv_X7_thrown ⟨Nat.le_of_ble_eq_true rfl, Nat.le_of_ble_eq_true rfl⟩) (tk_pV hE (tk_Pr hP) (tk_Dr hD) 0 rfl rfl) rfl rfl hl.1 rfl (lv_room (Nat.le_of_ble_eq_true rfl)) dL_law_836 h1c) hP hD hS hA (fun H locs hP hD hS => ?_)
  refine lv_iload hx hb dL_law_839 (lv_at hl 1 rfl) ?_
  refine lv_icmp_eq (tgt := 846) hx hb dL_law_841 (by decide) (fun h12 => ?_) (fun h12 => ?_)
  · have hf := tk_pos hf h12
    refine lv_iload hx hb dL_law_846 (lv_at hl 1 rfl) ?_
    refine lv_if_ne (tgt := 863) hx hb dL_law_848 (by decide) (fun h13 => ?_) (fun h13 => ?_)
    · have hf := tk_neg hf h13
      refine lv_goto (tgt := 1303) hx hb dL_law_863 (by decide) ?_
      exact hk S3 o4 M9 H locs _ _ (by omega) (by omega) hP hD hS ls (lv_sub hl [2, 3, 4, 5, 6] rfl) hf
    · have hf := tk_pos hf h13
      refine lv_aload_n hx hb dL_law_851 rfl (lv_at hl 5 rfl) ?_
      refine lv_iconst (v := 0) hx hb dL_law_852 (by decide) ?_
      refine va_lald (f := o4) hx hb hE.1 hP 17 1 rfl rfl tk_in01 dL_law_853 ?_
      refine lv_iload hx hb dL_law_854 (lv_at hl 0 rfl) ?_
      refine lv_i2l (v := r7.toInt64) hx hb dL_law_856 rfl ?_
      refine W.lcmp hx hb dL_law_857 ?_
      refine lv_if_eq (tgt := 863) hx hb dL_law_858 (by decide) (fun h14 => ?_) (fun h14 => ?_)
      · have hf := tk_pos hf h14
        refine lv_goto (tgt := 1303) hx hb dL_law_863 (by decide) ?_
        exact hk S3 o4 M9 H locs _ _ (by omega) (by omega) hP hD hS ls (lv_sub hl [2, 3, 4, 5, 6] rfl) hf
      · have hf := tk_neg hf h14
        refine lv_iconst (v := 0) hx hb dL_law_861 (by decide) ?_
        exact absurd (tk_s1 hf) (by decide)
  · have hf := tk_neg hf h12
    refine lv_iconst (v := 0) hx hb dL_law_844 (by decide) ?_
    exact absurd (tk_s1 hf) (by decide)
set_option maxHeartbeats 4000000 in
set_option maxRecDepth 100000 in
theorem law_c18 {p : Program} {e : Env} {s : State} {m : MethodId} {below : List Frame} {meth : Method} {c : Code} (l : Launch) (hlst : l.stackTraces = false) {b L : Nat} {xs : Nat → Int32} (C0 : lw_At p s m meth c b L xs) (G : va_G) (c3 : ClassId × ClassId × ClassId) (q : Nat → Nat) (hE : tk_E G c3 s) (hC : tk_C s) (hZ : tk_Z (fun x : Nat => s.heap.size ≤ x) s s.heap) (K : tk_ST → (Nat → Int64) → tk_ST → Option Int32) (i : Int32) (S : tk_ST) (o : Nat → Int64) (M : tk_ST) (H : Heap) (locs : List Loc) (cells slots : Nat) (hcs : cells + 1 ≤ 668244 ∧ slots + 6 ≤ 7091373) (hP : va_P G vwCl (tk_W3 c3 q S o M) H) (hD : va_D (fun x : Nat => s.heap.size ≤ x) (tk_W3 c3 q S o M)) (hS : va_S (fun x : Nat => s.heap.size ≤ x) s.heap H locs) (ls : Array Slot) (hl : lv_has ls 8 [(0, .ref b), (1, .ref (q 0)), (2, .ref (q 17)), (3, .ref (q 26)), (4, .int i)]) (hf : f_law_c18 L xs K i S o M = some 1)
    (hk : ∀ (S : tk_ST) (o : Nat → Int64) (M : tk_ST) (H : Heap) (locs : List Loc) (cs ss : Nat), cs ≤ cells + 1 → ss ≤ slots + 6 → va_P G vwCl (tk_W3 c3 q S o M) H → va_D (fun x : Nat => s.heap.size ≤ x) (tk_W3 c3 q S o M) → va_S (fun x : Nat => s.heap.size ≤ x) s.heap H locs → ∀ ls : Array Slot, lv_has ls 8 [(0, .ref b), (1, .ref (q 0)), (2, .ref (q 17)), (3, .ref (q 26)), (4, .int i)] → K S o M = some 1 → W p l e room_1 s m #[Value.ref b] below meth c H locs cs ss (lw_Z below #[Value.ref b] s) (F0 m 1303 ls [])) :
    W p l e room_1 s m #[Value.ref b] below meth c H locs cells slots (lw_Z below #[Value.ref b] s) (F0 m 866 ls []) := by
  obtain ⟨hx, hb, hr, hml, hown, hts, hX, hbl, hlocks, hgv⟩ := id C0
  have hown : s.vm.findClass RL = some m.cls := hown
  have hts := fun w h => hts w (wsL_law_in w h)
  have hA : ∀ x : Nat, s.heap.size ≤ x → (fun x : Nat => s.heap.size ≤ x) x := fun _ h => h
  have hbA : ¬ (fun x : Nat => s.heap.size ≤ x) b := Nat.not_le.mpr hbl
  have h1c : cells + 1 ≤ room_1.cells ∧ slots + 6 ≤ room_1.slots := hcs
  have h0c : cells ≤ room_1.cells ∧ slots ≤ room_1.slots := ⟨Nat.le_trans (Nat.le_add_right _ _) hcs.1, Nat.le_trans (Nat.le_add_right _ _) hcs.2⟩
  unfold f_law_c18 at hf
  refine lv_aload_n hx hb dL_law_866 rfl (lv_at hl 1 rfl) ?_
  refine lv_aload_n hx hb dL_law_867 rfl (lv_at hl 0 rfl) ?_
  refine lv_iload hx hb dL_law_868 (lv_at hl 4 rfl) ?_
  refine lv_iconst (v := 1) hx hb dL_law_870 (by decide) ?_
  refine lv_iadd hx hb dL_law_871 ?_
  obtain ⟨h1, hf⟩ := tk_ok hf
  refine va_sld hx hb hX hbl hbA hS h1 dL_law_872 ?_
  refine lv_aload_n hx hb dL_law_873 rfl (lv_at hl 3 rfl) ?_
  obtain ⟨k2, S3, o4, h5, hf⟩ := tk_b3s hf
  refine tk_ciL (a := tk_H c3 q S ++ tk_O c3 q o) (a' := tk_H c3 q S3 ++ tk_O c3 q o4) (b := tk_M c3 q M) (vx_runSW (As := [.ref (q 0), .int (xs (i + (1 : Int32)).toNatClampNeg), .ref (q 26)]) (rest := []) ⟨hx, hb, hml, hown, hts⟩ (c_L_canPlay l hlst G c3 q S o (xs (i + (1 : Int32)).toNatClampNeg) k2 S3 o4 h5 H.size) (vx_cwSW 3 hts gL_law_L_canPlay rfl rfl rfl hs_L_canPlay ⟨Nat.le_of_ble_eq_true rfl, Nat.le_of_ble_eq_true rfl⟩) (tk_pSL hE hZ hC (tk_Pl hP) (tk_Dl hD) hS hA) rfl rfl hl.1 rfl (lv_room (Nat.le_of_ble_eq_true rfl)) dL_law_874 h1c) hP hD hS hA (fun H locs hP hD hS => ?_)
  refine lv_istore (lv' := [(5, .int k2), (0, .ref b), (1, .ref (q 0)), (2, .ref (q 17)), (3, .ref (q 26)), (4, .int i)]) hx hb dL_law_877 hl (by decide) rfl (fun ls hl => ?_)
  refine lv_aload_n hx hb dL_law_879 rfl (lv_at hl 3 rfl) ?_
  refine lv_aload_n hx hb dL_law_880 rfl (lv_at hl 1 rfl) ?_
  refine lv_iload hx hb dL_law_881 (lv_at hl 5 rfl) ?_
  refine lv_iconst (v := 1) hx hb dL_law_883 (by decide) ?_
  refine lv_iadd hx hb dL_law_884 ?_
  obtain ⟨h6, hf⟩ := tk_ok hf
  refine va_sld hx hb hX hbl hbA hS h6 dL_law_885 ?_
  obtain ⟨r7, M9, h8, hf⟩ := tk_b2s hf
  refine tk_ciR (a := tk_H c3 q S3 ++ tk_O c3 q o4) (b := tk_M c3 q M) (b' := tk_M c3 q M9) (va_runV (As := [.int (xs (i + (1 : Int32)).toNatClampNeg)]) (rest := []) ⟨hx, hb, hml, hown, hts⟩ (c_X7_canPlay l G c3 q M (xs (i + (1 : Int32)).toNatClampNeg) r7 M9 h8 H.size) (cwV 1 hts gL_law_X7_canPlay rfl rfl rfl hv_X7_canPlay ⟨Nat.le_of_ble_eq_true rfl, Nat.le_of_ble_eq_true rfl⟩) (tk_pV hE (tk_Pr hP) (tk_Dr hD) 0 rfl rfl) rfl rfl hl.1 rfl (lv_room (Nat.le_of_ble_eq_true rfl)) dL_law_886 h1c) hP hD hS hA (fun H locs hP hD hS => ?_)
  refine lv_istore (lv' := [(6, .int r7), (5, .int k2), (0, .ref b), (1, .ref (q 0)), (2, .ref (q 17)), (3, .ref (q 26)), (4, .int i)]) hx hb dL_law_889 hl (by decide) rfl (fun ls hl => ?_)
  refine lv_aload_n hx hb dL_law_891 rfl (lv_at hl 4 rfl) ?_
  obtain ⟨r10, h11, hf⟩ := tk_b1s hf
  refine tk_ciR (a := tk_H c3 q S3 ++ tk_O c3 q o4) (b := tk_M c3 q M9) (b' := tk_M c3 q M9) (va_runV (As := []) (rest := []) ⟨hx, hb, hml, hown, hts⟩ (c_X7_thrown l G c3 q M9 r10 h11 H.size) (cwV 0 hts gL_law_X7_thrown rfl rfl rfl hv_X7_thrown ⟨Nat.le_of_ble_eq_true rfl, Nat.le_of_ble_eq_true rfl⟩) (tk_pV hE (tk_Pr hP) (tk_Dr hD) 0 rfl rfl) rfl rfl hl.1 rfl (lv_room (Nat.le_of_ble_eq_true rfl)) dL_law_892 h1c) hP hD hS hA (fun H locs hP hD hS => ?_)
  refine lv_iload hx hb dL_law_895 (lv_at hl 1 rfl) ?_
  refine lv_icmp_eq (tgt := 902) hx hb dL_law_897 (by decide) (fun h12 => ?_) (fun h12 => ?_)
  · have hf := tk_pos hf h12
    refine lv_iload hx hb dL_law_902 (lv_at hl 1 rfl) ?_
    refine lv_if_ne (tgt := 926) hx hb dL_law_904 (by decide) (fun h13 => ?_) (fun h13 => ?_)
    · have hf := tk_neg hf h13
      refine lv_goto (tgt := 1303) hx hb dL_law_926 (by decide) ?_
      exact hk S3 o4 M9 H locs _ _ (by omega) (by omega) hP hD hS ls (lv_sub hl [2, 3, 4, 5, 6] rfl) hf
    · have hf := tk_pos hf h13
      refine lv_aload_n hx hb dL_law_907 rfl (lv_at hl 5 rfl) ?_
      refine lv_iconst (v := 0) hx hb dL_law_908 (by decide) ?_
      refine va_lald (f := o4) hx hb hE.1 hP 17 1 rfl rfl tk_in01 dL_law_909 ?_
      refine lv_iload hx hb dL_law_910 (lv_at hl 0 rfl) ?_
      refine lv_if_eq (tgt := 919) hx hb dL_law_912 (by decide) (fun h14 => ?_) (fun h14 => ?_)
      · have hf := tk_pos hf h14
        refine lv_lconst (v := 0) hx hb dL_law_919 (by decide) ?_
        refine W.lcmp hx hb dL_law_920 ?_
        refine lv_if_eq (tgt := 926) hx hb dL_law_921 (by decide) (fun h15 => ?_) (fun h15 => ?_)
        · have hf := tk_pos hf h15
          refine lv_goto (tgt := 1303) hx hb dL_law_926 (by decide) ?_
          exact hk S3 o4 M9 H locs _ _ (by omega) (by omega) hP hD hS ls (lv_sub hl [2, 3, 4, 5, 6] rfl) hf
        · have hf := tk_neg hf h15
          refine lv_iconst (v := 0) hx hb dL_law_924 (by decide) ?_
          exact absurd (tk_s1 hf) (by decide)
      · have hf := tk_neg hf h14
        refine lv_lconst (v := 1) hx hb dL_law_915 (by decide) ?_
        refine lv_goto (tgt := 920) hx hb dL_law_916 (by decide) ?_
        refine W.lcmp hx hb dL_law_920 ?_
        refine lv_if_eq (tgt := 926) hx hb dL_law_921 (by decide) (fun h16 => ?_) (fun h16 => ?_)
        · have hf := tk_pos hf h16
          refine lv_goto (tgt := 1303) hx hb dL_law_926 (by decide) ?_
          exact hk S3 o4 M9 H locs _ _ (by omega) (by omega) hP hD hS ls (lv_sub hl [2, 3, 4, 5, 6] rfl) hf
        · have hf := tk_neg hf h16
          refine lv_iconst (v := 0) hx hb dL_law_924 (by decide) ?_
          exact absurd (tk_s1 hf) (by decide)
  · have hf := tk_neg hf h12
    refine lv_iconst (v := 0) hx hb dL_law_900 (by decide) ?_
    exact absurd (tk_s1 hf) (by decide)
set_option maxHeartbeats 4000000 in
set_option maxRecDepth 100000 in
theorem law_c19 {p : Program} {e : Env} {s : State} {m : MethodId} {below : List Frame} {meth : Method} {c : Code} (l : Launch) (hlst : l.stackTraces = false) {b L : Nat} {xs : Nat → Int32} (C0 : lw_At p s m meth c b L xs) (G : va_G) (c3 : ClassId × ClassId × ClassId) (q : Nat → Nat) (hE : tk_E G c3 s) (hC : tk_C s) (hZ : tk_Z (fun x : Nat => s.heap.size ≤ x) s s.heap) (K : tk_ST → (Nat → Int64) → tk_ST → Option Int32) (i : Int32) (S : tk_ST) (o : Nat → Int64) (M : tk_ST) (H : Heap) (locs : List Loc) (cells slots : Nat) (hcs : cells + 1 ≤ 668244 ∧ slots + 6 ≤ 7091373) (hP : va_P G vwCl (tk_W3 c3 q S o M) H) (hD : va_D (fun x : Nat => s.heap.size ≤ x) (tk_W3 c3 q S o M)) (hS : va_S (fun x : Nat => s.heap.size ≤ x) s.heap H locs) (ls : Array Slot) (hl : lv_has ls 8 [(0, .ref b), (1, .ref (q 0)), (2, .ref (q 17)), (3, .ref (q 26)), (4, .int i)]) (hf : f_law_c19 L xs K i S o M = some 1)
    (hk : ∀ (S : tk_ST) (o : Nat → Int64) (M : tk_ST) (H : Heap) (locs : List Loc) (cs ss : Nat), cs ≤ cells + 1 → ss ≤ slots + 6 → va_P G vwCl (tk_W3 c3 q S o M) H → va_D (fun x : Nat => s.heap.size ≤ x) (tk_W3 c3 q S o M) → va_S (fun x : Nat => s.heap.size ≤ x) s.heap H locs → ∀ ls : Array Slot, lv_has ls 8 [(0, .ref b), (1, .ref (q 0)), (2, .ref (q 17)), (3, .ref (q 26)), (4, .int i)] → K S o M = some 1 → W p l e room_1 s m #[Value.ref b] below meth c H locs cs ss (lw_Z below #[Value.ref b] s) (F0 m 1303 ls [])) :
    W p l e room_1 s m #[Value.ref b] below meth c H locs cells slots (lw_Z below #[Value.ref b] s) (F0 m 929 ls []) := by
  obtain ⟨hx, hb, hr, hml, hown, hts, hX, hbl, hlocks, hgv⟩ := id C0
  have hown : s.vm.findClass RL = some m.cls := hown
  have hts := fun w h => hts w (wsL_law_in w h)
  have hA : ∀ x : Nat, s.heap.size ≤ x → (fun x : Nat => s.heap.size ≤ x) x := fun _ h => h
  have hbA : ¬ (fun x : Nat => s.heap.size ≤ x) b := Nat.not_le.mpr hbl
  have h1c : cells + 1 ≤ room_1.cells ∧ slots + 6 ≤ room_1.slots := hcs
  have h0c : cells ≤ room_1.cells ∧ slots ≤ room_1.slots := ⟨Nat.le_trans (Nat.le_add_right _ _) hcs.1, Nat.le_trans (Nat.le_add_right _ _) hcs.2⟩
  unfold f_law_c19 at hf
  refine lv_aload_n hx hb dL_law_929 rfl (lv_at hl 1 rfl) ?_
  obtain ⟨r1, h2, hf⟩ := tk_b1s hf
  refine tk_ciH (a := tk_H c3 q S) (va_runV (As := []) (rest := []) ⟨hx, hb, hml, hown, hts⟩ (c_X6_tricks l G c3 q S r1 h2 H.size) (cwV 0 hts gL_law_X6_tricks rfl rfl rfl hv_X6_tricks ⟨Nat.le_of_ble_eq_true rfl, Nat.le_of_ble_eq_true rfl⟩) (tk_pV hE (tk_Pl (tk_Pl hP)) (tk_Dl (tk_Dl hD)) 0 rfl rfl) rfl rfl hl.1 rfl (lv_room (Nat.le_of_ble_eq_true rfl)) dL_law_930 h0c) hP hD hS hA (fun H locs hP hD hS => ?_)
  refine lv_aload_n hx hb dL_law_933 rfl (lv_at hl 2 rfl) ?_
  obtain ⟨r3, M5, h4, hf⟩ := tk_b2s hf
  refine tk_ciR (a := tk_H c3 q S ++ tk_O c3 q o) (b := tk_M c3 q M) (b' := tk_M c3 q M5) (va_runV (As := []) (rest := [.int r1]) ⟨hx, hb, hml, hown, hts⟩ (c_X7_tricks l G c3 q M r3 M5 h4 H.size) (cwV 0 hts gL_law_X7_tricks rfl rfl rfl hv_X7_tricks ⟨Nat.le_of_ble_eq_true rfl, Nat.le_of_ble_eq_true rfl⟩) (tk_pV hE (tk_Pr hP) (tk_Dr hD) 0 rfl rfl) rfl rfl hl.1 rfl (lv_room (Nat.le_of_ble_eq_true rfl)) dL_law_934 h0c) hP hD hS hA (fun H locs hP hD hS => ?_)
  refine lv_icmp_eq (tgt := 1303) hx hb dL_law_937 (by decide) (fun h6 => ?_) (fun h6 => ?_)
  · have hf := tk_pos hf h6
    exact hk S o M5 H locs _ _ (by omega) (by omega) hP hD hS ls (lv_sub hl [0, 1, 2, 3, 4] rfl) hf
  · have hf := tk_neg hf h6
    refine lv_iconst (v := 0) hx hb dL_law_940 (by decide) ?_
    exact absurd (tk_s1 hf) (by decide)
set_option maxHeartbeats 4000000 in
set_option maxRecDepth 100000 in
theorem law_c20 {p : Program} {e : Env} {s : State} {m : MethodId} {below : List Frame} {meth : Method} {c : Code} (l : Launch) (hlst : l.stackTraces = false) {b L : Nat} {xs : Nat → Int32} (C0 : lw_At p s m meth c b L xs) (G : va_G) (c3 : ClassId × ClassId × ClassId) (q : Nat → Nat) (hE : tk_E G c3 s) (hC : tk_C s) (hZ : tk_Z (fun x : Nat => s.heap.size ≤ x) s s.heap) (K : tk_ST → (Nat → Int64) → tk_ST → Option Int32) (i : Int32) (S : tk_ST) (o : Nat → Int64) (M : tk_ST) (H : Heap) (locs : List Loc) (cells slots : Nat) (hcs : cells + 1 ≤ 668244 ∧ slots + 6 ≤ 7091373) (hP : va_P G vwCl (tk_W3 c3 q S o M) H) (hD : va_D (fun x : Nat => s.heap.size ≤ x) (tk_W3 c3 q S o M)) (hS : va_S (fun x : Nat => s.heap.size ≤ x) s.heap H locs) (ls : Array Slot) (hl : lv_has ls 8 [(0, .ref b), (1, .ref (q 0)), (2, .ref (q 17)), (3, .ref (q 26)), (4, .int i)]) (hf : f_law_c20 L xs K i S o M = some 1)
    (hk : ∀ (S : tk_ST) (o : Nat → Int64) (M : tk_ST) (H : Heap) (locs : List Loc) (cs ss : Nat), cs ≤ cells + 1 → ss ≤ slots + 6 → va_P G vwCl (tk_W3 c3 q S o M) H → va_D (fun x : Nat => s.heap.size ≤ x) (tk_W3 c3 q S o M) → va_S (fun x : Nat => s.heap.size ≤ x) s.heap H locs → ∀ ls : Array Slot, lv_has ls 8 [(0, .ref b), (1, .ref (q 0)), (2, .ref (q 17)), (3, .ref (q 26)), (4, .int i)] → K S o M = some 1 → W p l e room_1 s m #[Value.ref b] below meth c H locs cs ss (lw_Z below #[Value.ref b] s) (F0 m 1303 ls [])) :
    W p l e room_1 s m #[Value.ref b] below meth c H locs cells slots (lw_Z below #[Value.ref b] s) (F0 m 942 ls []) := by
  obtain ⟨hx, hb, hr, hml, hown, hts, hX, hbl, hlocks, hgv⟩ := id C0
  have hown : s.vm.findClass RL = some m.cls := hown
  have hts := fun w h => hts w (wsL_law_in w h)
  have hA : ∀ x : Nat, s.heap.size ≤ x → (fun x : Nat => s.heap.size ≤ x) x := fun _ h => h
  have hbA : ¬ (fun x : Nat => s.heap.size ≤ x) b := Nat.not_le.mpr hbl
  have h1c : cells + 1 ≤ room_1.cells ∧ slots + 6 ≤ room_1.slots := hcs
  have h0c : cells ≤ room_1.cells ∧ slots ≤ room_1.slots := ⟨Nat.le_trans (Nat.le_add_right _ _) hcs.1, Nat.le_trans (Nat.le_add_right _ _) hcs.2⟩
  unfold f_law_c20 at hf
  refine lv_aload_n hx hb dL_law_942 rfl (lv_at hl 1 rfl) ?_
  refine lv_aload_n hx hb dL_law_943 rfl (lv_at hl 0 rfl) ?_
  refine lv_iload hx hb dL_law_944 (lv_at hl 4 rfl) ?_
  refine lv_iconst (v := 1) hx hb dL_law_946 (by decide) ?_
  refine lv_iadd hx hb dL_law_947 ?_
  obtain ⟨h1, hf⟩ := tk_ok hf
  refine va_sld hx hb hX hbl hbA hS h1 dL_law_948 ?_
  refine lv_aload_n hx hb dL_law_949 rfl (lv_at hl 3 rfl) ?_
  obtain ⟨k2, S3, o4, h5, hf⟩ := tk_b3s hf
  refine tk_ciL (a := tk_H c3 q S ++ tk_O c3 q o) (a' := tk_H c3 q S3 ++ tk_O c3 q o4) (b := tk_M c3 q M) (vx_runSW (As := [.ref (q 0), .int (xs (i + (1 : Int32)).toNatClampNeg), .ref (q 26)]) (rest := []) ⟨hx, hb, hml, hown, hts⟩ (c_L_valueOf l hlst G c3 q S o (xs (i + (1 : Int32)).toNatClampNeg) k2 S3 o4 h5 H.size) (vx_cwSW 3 hts gL_law_L_valueOf rfl rfl rfl hs_L_valueOf ⟨Nat.le_of_ble_eq_true rfl, Nat.le_of_ble_eq_true rfl⟩) (tk_pSL hE hZ hC (tk_Pl hP) (tk_Dl hD) hS hA) rfl rfl hl.1 rfl (lv_room (Nat.le_of_ble_eq_true rfl)) dL_law_950 h1c) hP hD hS hA (fun H locs hP hD hS => ?_)
  refine lv_istore (lv' := [(5, .int k2), (0, .ref b), (1, .ref (q 0)), (2, .ref (q 17)), (3, .ref (q 26)), (4, .int i)]) hx hb dL_law_953 hl (by decide) rfl (fun ls hl => ?_)
  refine lv_aload_n hx hb dL_law_955 rfl (lv_at hl 3 rfl) ?_
  refine lv_aload_n hx hb dL_law_956 rfl (lv_at hl 1 rfl) ?_
  refine lv_iload hx hb dL_law_957 (lv_at hl 5 rfl) ?_
  refine lv_iconst (v := 1) hx hb dL_law_959 (by decide) ?_
  refine lv_iadd hx hb dL_law_960 ?_
  obtain ⟨h6, hf⟩ := tk_ok hf
  refine va_sld hx hb hX hbl hbA hS h6 dL_law_961 ?_
  obtain ⟨r7, M9, h8, hf⟩ := tk_b2s hf
  refine tk_ciR (a := tk_H c3 q S3 ++ tk_O c3 q o4) (b := tk_M c3 q M) (b' := tk_M c3 q M9) (va_runV (As := [.int (xs (i + (1 : Int32)).toNatClampNeg)]) (rest := []) ⟨hx, hb, hml, hown, hts⟩ (c_X7_valueOf l G c3 q M (xs (i + (1 : Int32)).toNatClampNeg) r7 M9 h8 H.size) (cwV 1 hts gL_law_X7_valueOf rfl rfl rfl hv_X7_valueOf ⟨Nat.le_of_ble_eq_true rfl, Nat.le_of_ble_eq_true rfl⟩) (tk_pV hE (tk_Pr hP) (tk_Dr hD) 0 rfl rfl) rfl rfl hl.1 rfl (lv_room (Nat.le_of_ble_eq_true rfl)) dL_law_962 h1c) hP hD hS hA (fun H locs hP hD hS => ?_)
  refine lv_istore (lv' := [(6, .int r7), (5, .int k2), (0, .ref b), (1, .ref (q 0)), (2, .ref (q 17)), (3, .ref (q 26)), (4, .int i)]) hx hb dL_law_965 hl (by decide) rfl (fun ls hl => ?_)
  refine lv_aload_n hx hb dL_law_967 rfl (lv_at hl 4 rfl) ?_
  obtain ⟨r10, h11, hf⟩ := tk_b1s hf
  refine tk_ciR (a := tk_H c3 q S3 ++ tk_O c3 q o4) (b := tk_M c3 q M9) (b' := tk_M c3 q M9) (va_runV (As := []) (rest := []) ⟨hx, hb, hml, hown, hts⟩ (c_X7_thrown l G c3 q M9 r10 h11 H.size) (cwV 0 hts gL_law_X7_thrown rfl rfl rfl hv_X7_thrown ⟨Nat.le_of_ble_eq_true rfl, Nat.le_of_ble_eq_true rfl⟩) (tk_pV hE (tk_Pr hP) (tk_Dr hD) 0 rfl rfl) rfl rfl hl.1 rfl (lv_room (Nat.le_of_ble_eq_true rfl)) dL_law_968 h1c) hP hD hS hA (fun H locs hP hD hS => ?_)
  refine lv_iload hx hb dL_law_971 (lv_at hl 1 rfl) ?_
  refine lv_icmp_eq (tgt := 978) hx hb dL_law_973 (by decide) (fun h12 => ?_) (fun h12 => ?_)
  · have hf := tk_pos hf h12
    refine lv_iload hx hb dL_law_978 (lv_at hl 1 rfl) ?_
    refine lv_if_ne (tgt := 995) hx hb dL_law_980 (by decide) (fun h13 => ?_) (fun h13 => ?_)
    · have hf := tk_neg hf h13
      refine lv_goto (tgt := 1303) hx hb dL_law_995 (by decide) ?_
      exact hk S3 o4 M9 H locs _ _ (by omega) (by omega) hP hD hS ls (lv_sub hl [2, 3, 4, 5, 6] rfl) hf
    · have hf := tk_pos hf h13
      refine lv_aload_n hx hb dL_law_983 rfl (lv_at hl 5 rfl) ?_
      refine lv_iconst (v := 0) hx hb dL_law_984 (by decide) ?_
      refine va_lald (f := o4) hx hb hE.1 hP 17 1 rfl rfl tk_in01 dL_law_985 ?_
      refine lv_iload hx hb dL_law_986 (lv_at hl 0 rfl) ?_
      refine lv_i2l (v := r7.toInt64) hx hb dL_law_988 rfl ?_
      refine W.lcmp hx hb dL_law_989 ?_
      refine lv_if_eq (tgt := 995) hx hb dL_law_990 (by decide) (fun h14 => ?_) (fun h14 => ?_)
      · have hf := tk_pos hf h14
        refine lv_goto (tgt := 1303) hx hb dL_law_995 (by decide) ?_
        exact hk S3 o4 M9 H locs _ _ (by omega) (by omega) hP hD hS ls (lv_sub hl [2, 3, 4, 5, 6] rfl) hf
      · have hf := tk_neg hf h14
        refine lv_iconst (v := 0) hx hb dL_law_993 (by decide) ?_
        exact absurd (tk_s1 hf) (by decide)
  · have hf := tk_neg hf h12
    refine lv_iconst (v := 0) hx hb dL_law_976 (by decide) ?_
    exact absurd (tk_s1 hf) (by decide)
set_option maxHeartbeats 4000000 in
set_option maxRecDepth 100000 in
theorem law_c21 {p : Program} {e : Env} {s : State} {m : MethodId} {below : List Frame} {meth : Method} {c : Code} (l : Launch) (hlst : l.stackTraces = false) {b L : Nat} {xs : Nat → Int32} (C0 : lw_At p s m meth c b L xs) (G : va_G) (c3 : ClassId × ClassId × ClassId) (q : Nat → Nat) (hE : tk_E G c3 s) (hC : tk_C s) (hZ : tk_Z (fun x : Nat => s.heap.size ≤ x) s s.heap) (K : tk_ST → (Nat → Int64) → tk_ST → Option Int32) (i : Int32) (S : tk_ST) (o : Nat → Int64) (M : tk_ST) (H : Heap) (locs : List Loc) (cells slots : Nat) (hcs : cells + 1 ≤ 668244 ∧ slots + 6 ≤ 7091373) (hP : va_P G vwCl (tk_W3 c3 q S o M) H) (hD : va_D (fun x : Nat => s.heap.size ≤ x) (tk_W3 c3 q S o M)) (hS : va_S (fun x : Nat => s.heap.size ≤ x) s.heap H locs) (ls : Array Slot) (hl : lv_has ls 8 [(0, .ref b), (1, .ref (q 0)), (2, .ref (q 17)), (3, .ref (q 26)), (4, .int i)]) (hf : f_law_c21 L xs K i S o M = some 1)
    (hk : ∀ (S : tk_ST) (o : Nat → Int64) (M : tk_ST) (H : Heap) (locs : List Loc) (cs ss : Nat), cs ≤ cells + 1 → ss ≤ slots + 6 → va_P G vwCl (tk_W3 c3 q S o M) H → va_D (fun x : Nat => s.heap.size ≤ x) (tk_W3 c3 q S o M) → va_S (fun x : Nat => s.heap.size ≤ x) s.heap H locs → ∀ ls : Array Slot, lv_has ls 8 [(0, .ref b), (1, .ref (q 0)), (2, .ref (q 17)), (3, .ref (q 26)), (4, .int i)] → K S o M = some 1 → W p l e room_1 s m #[Value.ref b] below meth c H locs cs ss (lw_Z below #[Value.ref b] s) (F0 m 1303 ls [])) :
    W p l e room_1 s m #[Value.ref b] below meth c H locs cells slots (lw_Z below #[Value.ref b] s) (F0 m 998 ls []) := by
  obtain ⟨hx, hb, hr, hml, hown, hts, hX, hbl, hlocks, hgv⟩ := id C0
  have hown : s.vm.findClass RL = some m.cls := hown
  have hts := fun w h => hts w (wsL_law_in w h)
  have hA : ∀ x : Nat, s.heap.size ≤ x → (fun x : Nat => s.heap.size ≤ x) x := fun _ h => h
  have hbA : ¬ (fun x : Nat => s.heap.size ≤ x) b := Nat.not_le.mpr hbl
  have h1c : cells + 1 ≤ room_1.cells ∧ slots + 6 ≤ room_1.slots := hcs
  have h0c : cells ≤ room_1.cells ∧ slots ≤ room_1.slots := ⟨Nat.le_trans (Nat.le_add_right _ _) hcs.1, Nat.le_trans (Nat.le_add_right _ _) hcs.2⟩
  unfold f_law_c21 at hf
  refine lv_aload_n hx hb dL_law_998 rfl (lv_at hl 1 rfl) ?_
  refine lv_aload_n hx hb dL_law_999 rfl (lv_at hl 0 rfl) ?_
  refine lv_iload hx hb dL_law_1000 (lv_at hl 4 rfl) ?_
  refine lv_iconst (v := 1) hx hb dL_law_1002 (by decide) ?_
  refine lv_iadd hx hb dL_law_1003 ?_
  obtain ⟨h1, hf⟩ := tk_ok hf
  refine va_sld hx hb hX hbl hbA hS h1 dL_law_1004 ?_
  refine lv_aload_n hx hb dL_law_1005 rfl (lv_at hl 3 rfl) ?_
  obtain ⟨k2, S3, o4, h5, hf⟩ := tk_b3s hf
  refine tk_ciL (a := tk_H c3 q S ++ tk_O c3 q o) (a' := tk_H c3 q S3 ++ tk_O c3 q o4) (b := tk_M c3 q M) (vx_runSW (As := [.ref (q 0), .int (xs (i + (1 : Int32)).toNatClampNeg), .ref (q 26)]) (rest := []) ⟨hx, hb, hml, hown, hts⟩ (c_L_thirds l hlst G c3 q S o (xs (i + (1 : Int32)).toNatClampNeg) k2 S3 o4 h5 H.size) (vx_cwSW 3 hts gL_law_L_thirds rfl rfl rfl hs_L_thirds ⟨Nat.le_of_ble_eq_true rfl, Nat.le_of_ble_eq_true rfl⟩) (tk_pSL hE hZ hC (tk_Pl hP) (tk_Dl hD) hS hA) rfl rfl hl.1 rfl (lv_room (Nat.le_of_ble_eq_true rfl)) dL_law_1006 h1c) hP hD hS hA (fun H locs hP hD hS => ?_)
  refine lv_istore (lv' := [(5, .int k2), (0, .ref b), (1, .ref (q 0)), (2, .ref (q 17)), (3, .ref (q 26)), (4, .int i)]) hx hb dL_law_1009 hl (by decide) rfl (fun ls hl => ?_)
  refine lv_aload_n hx hb dL_law_1011 rfl (lv_at hl 3 rfl) ?_
  refine lv_aload_n hx hb dL_law_1012 rfl (lv_at hl 1 rfl) ?_
  refine lv_iload hx hb dL_law_1013 (lv_at hl 5 rfl) ?_
  refine lv_iconst (v := 1) hx hb dL_law_1015 (by decide) ?_
  refine lv_iadd hx hb dL_law_1016 ?_
  obtain ⟨h6, hf⟩ := tk_ok hf
  refine va_sld hx hb hX hbl hbA hS h6 dL_law_1017 ?_
  obtain ⟨r7, M9, h8, hf⟩ := tk_b2s hf
  refine tk_ciR (a := tk_H c3 q S3 ++ tk_O c3 q o4) (b := tk_M c3 q M) (b' := tk_M c3 q M9) (va_runV (As := [.int (xs (i + (1 : Int32)).toNatClampNeg)]) (rest := []) ⟨hx, hb, hml, hown, hts⟩ (c_X7_thirds l G c3 q M (xs (i + (1 : Int32)).toNatClampNeg) r7 M9 h8 H.size) (cwV 1 hts gL_law_X7_thirds rfl rfl rfl hv_X7_thirds ⟨Nat.le_of_ble_eq_true rfl, Nat.le_of_ble_eq_true rfl⟩) (tk_pV hE (tk_Pr hP) (tk_Dr hD) 0 rfl rfl) rfl rfl hl.1 rfl (lv_room (Nat.le_of_ble_eq_true rfl)) dL_law_1018 h1c) hP hD hS hA (fun H locs hP hD hS => ?_)
  refine lv_istore (lv' := [(6, .int r7), (5, .int k2), (0, .ref b), (1, .ref (q 0)), (2, .ref (q 17)), (3, .ref (q 26)), (4, .int i)]) hx hb dL_law_1021 hl (by decide) rfl (fun ls hl => ?_)
  refine lv_aload_n hx hb dL_law_1023 rfl (lv_at hl 4 rfl) ?_
  obtain ⟨r10, h11, hf⟩ := tk_b1s hf
  refine tk_ciR (a := tk_H c3 q S3 ++ tk_O c3 q o4) (b := tk_M c3 q M9) (b' := tk_M c3 q M9) (va_runV (As := []) (rest := []) ⟨hx, hb, hml, hown, hts⟩ (c_X7_thrown l G c3 q M9 r10 h11 H.size) (cwV 0 hts gL_law_X7_thrown rfl rfl rfl hv_X7_thrown ⟨Nat.le_of_ble_eq_true rfl, Nat.le_of_ble_eq_true rfl⟩) (tk_pV hE (tk_Pr hP) (tk_Dr hD) 0 rfl rfl) rfl rfl hl.1 rfl (lv_room (Nat.le_of_ble_eq_true rfl)) dL_law_1024 h1c) hP hD hS hA (fun H locs hP hD hS => ?_)
  refine lv_iload hx hb dL_law_1027 (lv_at hl 1 rfl) ?_
  refine lv_icmp_eq (tgt := 1034) hx hb dL_law_1029 (by decide) (fun h12 => ?_) (fun h12 => ?_)
  · have hf := tk_pos hf h12
    refine lv_iload hx hb dL_law_1034 (lv_at hl 1 rfl) ?_
    refine lv_if_ne (tgt := 1051) hx hb dL_law_1036 (by decide) (fun h13 => ?_) (fun h13 => ?_)
    · have hf := tk_neg hf h13
      refine lv_goto (tgt := 1303) hx hb dL_law_1051 (by decide) ?_
      exact hk S3 o4 M9 H locs _ _ (by omega) (by omega) hP hD hS ls (lv_sub hl [2, 3, 4, 5, 6] rfl) hf
    · have hf := tk_pos hf h13
      refine lv_aload_n hx hb dL_law_1039 rfl (lv_at hl 5 rfl) ?_
      refine lv_iconst (v := 0) hx hb dL_law_1040 (by decide) ?_
      refine va_lald (f := o4) hx hb hE.1 hP 17 1 rfl rfl tk_in01 dL_law_1041 ?_
      refine lv_iload hx hb dL_law_1042 (lv_at hl 0 rfl) ?_
      refine lv_i2l (v := r7.toInt64) hx hb dL_law_1044 rfl ?_
      refine W.lcmp hx hb dL_law_1045 ?_
      refine lv_if_eq (tgt := 1051) hx hb dL_law_1046 (by decide) (fun h14 => ?_) (fun h14 => ?_)
      · have hf := tk_pos hf h14
        refine lv_goto (tgt := 1303) hx hb dL_law_1051 (by decide) ?_
        exact hk S3 o4 M9 H locs _ _ (by omega) (by omega) hP hD hS ls (lv_sub hl [2, 3, 4, 5, 6] rfl) hf
      · have hf := tk_neg hf h14
        refine lv_iconst (v := 0) hx hb dL_law_1049 (by decide) ?_
        exact absurd (tk_s1 hf) (by decide)
  · have hf := tk_neg hf h12
    refine lv_iconst (v := 0) hx hb dL_law_1032 (by decide) ?_
    exact absurd (tk_s1 hf) (by decide)
set_option maxHeartbeats 4000000 in
set_option maxRecDepth 100000 in
theorem law_c22 {p : Program} {e : Env} {s : State} {m : MethodId} {below : List Frame} {meth : Method} {c : Code} (l : Launch) (hlst : l.stackTraces = false) {b L : Nat} {xs : Nat → Int32} (C0 : lw_At p s m meth c b L xs) (G : va_G) (c3 : ClassId × ClassId × ClassId) (q : Nat → Nat) (hE : tk_E G c3 s) (hC : tk_C s) (hZ : tk_Z (fun x : Nat => s.heap.size ≤ x) s s.heap) (K : tk_ST → (Nat → Int64) → tk_ST → Option Int32) (i : Int32) (S : tk_ST) (o : Nat → Int64) (M : tk_ST) (H : Heap) (locs : List Loc) (cells slots : Nat) (hcs : cells + 1 ≤ 668244 ∧ slots + 6 ≤ 7091373) (hP : va_P G vwCl (tk_W3 c3 q S o M) H) (hD : va_D (fun x : Nat => s.heap.size ≤ x) (tk_W3 c3 q S o M)) (hS : va_S (fun x : Nat => s.heap.size ≤ x) s.heap H locs) (ls : Array Slot) (hl : lv_has ls 8 [(0, .ref b), (1, .ref (q 0)), (2, .ref (q 17)), (3, .ref (q 26)), (4, .int i)]) (hf : f_law_c22 L xs K i S o M = some 1)
    (hk : ∀ (S : tk_ST) (o : Nat → Int64) (M : tk_ST) (H : Heap) (locs : List Loc) (cs ss : Nat), cs ≤ cells + 1 → ss ≤ slots + 6 → va_P G vwCl (tk_W3 c3 q S o M) H → va_D (fun x : Nat => s.heap.size ≤ x) (tk_W3 c3 q S o M) → va_S (fun x : Nat => s.heap.size ≤ x) s.heap H locs → ∀ ls : Array Slot, lv_has ls 8 [(0, .ref b), (1, .ref (q 0)), (2, .ref (q 17)), (3, .ref (q 26)), (4, .int i)] → K S o M = some 1 → W p l e room_1 s m #[Value.ref b] below meth c H locs cs ss (lw_Z below #[Value.ref b] s) (F0 m 1303 ls [])) :
    W p l e room_1 s m #[Value.ref b] below meth c H locs cells slots (lw_Z below #[Value.ref b] s) (F0 m 1054 ls []) := by
  obtain ⟨hx, hb, hr, hml, hown, hts, hX, hbl, hlocks, hgv⟩ := id C0
  have hown : s.vm.findClass RL = some m.cls := hown
  have hts := fun w h => hts w (wsL_law_in w h)
  have hA : ∀ x : Nat, s.heap.size ≤ x → (fun x : Nat => s.heap.size ≤ x) x := fun _ h => h
  have hbA : ¬ (fun x : Nat => s.heap.size ≤ x) b := Nat.not_le.mpr hbl
  have h1c : cells + 1 ≤ room_1.cells ∧ slots + 6 ≤ room_1.slots := hcs
  have h0c : cells ≤ room_1.cells ∧ slots ≤ room_1.slots := ⟨Nat.le_trans (Nat.le_add_right _ _) hcs.1, Nat.le_trans (Nat.le_add_right _ _) hcs.2⟩
  unfold f_law_c22 at hf
  refine lv_aload_n hx hb dL_law_1054 rfl (lv_at hl 1 rfl) ?_
  refine lv_aload_n hx hb dL_law_1055 rfl (lv_at hl 0 rfl) ?_
  refine lv_iload hx hb dL_law_1056 (lv_at hl 4 rfl) ?_
  refine lv_iconst (v := 1) hx hb dL_law_1058 (by decide) ?_
  refine lv_iadd hx hb dL_law_1059 ?_
  obtain ⟨h1, hf⟩ := tk_ok hf
  refine va_sld hx hb hX hbl hbA hS h1 dL_law_1060 ?_
  refine lv_aload_n hx hb dL_law_1061 rfl (lv_at hl 3 rfl) ?_
  obtain ⟨k2, S3, o4, h5, hf⟩ := tk_b3s hf
  refine tk_ciL (a := tk_H c3 q S ++ tk_O c3 q o) (a' := tk_H c3 q S3 ++ tk_O c3 q o4) (b := tk_M c3 q M) (vx_runSW (As := [.ref (q 0), .int (xs (i + (1 : Int32)).toNatClampNeg), .ref (q 26)]) (rest := []) ⟨hx, hb, hml, hown, hts⟩ (c_L_byPacks l hlst G c3 q S o (xs (i + (1 : Int32)).toNatClampNeg) k2 S3 o4 h5 H.size) (vx_cwSW 3 hts gL_law_L_byPacks rfl rfl rfl hs_L_byPacks ⟨Nat.le_of_ble_eq_true rfl, Nat.le_of_ble_eq_true rfl⟩) (tk_pSL hE hZ hC (tk_Pl hP) (tk_Dl hD) hS hA) rfl rfl hl.1 rfl (lv_room (Nat.le_of_ble_eq_true rfl)) dL_law_1062 h1c) hP hD hS hA (fun H locs hP hD hS => ?_)
  refine lv_istore (lv' := [(5, .int k2), (0, .ref b), (1, .ref (q 0)), (2, .ref (q 17)), (3, .ref (q 26)), (4, .int i)]) hx hb dL_law_1065 hl (by decide) rfl (fun ls hl => ?_)
  refine lv_aload_n hx hb dL_law_1067 rfl (lv_at hl 3 rfl) ?_
  refine lv_aload_n hx hb dL_law_1068 rfl (lv_at hl 1 rfl) ?_
  refine lv_iload hx hb dL_law_1069 (lv_at hl 5 rfl) ?_
  refine lv_iconst (v := 1) hx hb dL_law_1071 (by decide) ?_
  refine lv_iadd hx hb dL_law_1072 ?_
  obtain ⟨h6, hf⟩ := tk_ok hf
  refine va_sld hx hb hX hbl hbA hS h6 dL_law_1073 ?_
  obtain ⟨r7, M9, h8, hf⟩ := tk_b2s hf
  refine tk_ciR (a := tk_H c3 q S3 ++ tk_O c3 q o4) (b := tk_M c3 q M) (b' := tk_M c3 q M9) (va_runV (As := [.int (xs (i + (1 : Int32)).toNatClampNeg)]) (rest := []) ⟨hx, hb, hml, hown, hts⟩ (c_X7_byPacks l G c3 q M (xs (i + (1 : Int32)).toNatClampNeg) r7 M9 h8 H.size) (cwV 1 hts gL_law_X7_byPacks rfl rfl rfl hv_X7_byPacks ⟨Nat.le_of_ble_eq_true rfl, Nat.le_of_ble_eq_true rfl⟩) (tk_pV hE (tk_Pr hP) (tk_Dr hD) 0 rfl rfl) rfl rfl hl.1 rfl (lv_room (Nat.le_of_ble_eq_true rfl)) dL_law_1074 h1c) hP hD hS hA (fun H locs hP hD hS => ?_)
  refine lv_istore (lv' := [(6, .int r7), (5, .int k2), (0, .ref b), (1, .ref (q 0)), (2, .ref (q 17)), (3, .ref (q 26)), (4, .int i)]) hx hb dL_law_1077 hl (by decide) rfl (fun ls hl => ?_)
  refine lv_aload_n hx hb dL_law_1079 rfl (lv_at hl 4 rfl) ?_
  obtain ⟨r10, h11, hf⟩ := tk_b1s hf
  refine tk_ciR (a := tk_H c3 q S3 ++ tk_O c3 q o4) (b := tk_M c3 q M9) (b' := tk_M c3 q M9) (va_runV (As := []) (rest := []) ⟨hx, hb, hml, hown, hts⟩ (c_X7_thrown l G c3 q M9 r10 h11 H.size) (cwV 0 hts gL_law_X7_thrown rfl rfl rfl hv_X7_thrown ⟨Nat.le_of_ble_eq_true rfl, Nat.le_of_ble_eq_true rfl⟩) (tk_pV hE (tk_Pr hP) (tk_Dr hD) 0 rfl rfl) rfl rfl hl.1 rfl (lv_room (Nat.le_of_ble_eq_true rfl)) dL_law_1080 h1c) hP hD hS hA (fun H locs hP hD hS => ?_)
  refine lv_iload hx hb dL_law_1083 (lv_at hl 1 rfl) ?_
  refine lv_icmp_eq (tgt := 1090) hx hb dL_law_1085 (by decide) (fun h12 => ?_) (fun h12 => ?_)
  · have hf := tk_pos hf h12
    refine lv_iload hx hb dL_law_1090 (lv_at hl 1 rfl) ?_
    refine lv_if_ne (tgt := 1107) hx hb dL_law_1092 (by decide) (fun h13 => ?_) (fun h13 => ?_)
    · have hf := tk_neg hf h13
      refine lv_goto (tgt := 1303) hx hb dL_law_1107 (by decide) ?_
      exact hk S3 o4 M9 H locs _ _ (by omega) (by omega) hP hD hS ls (lv_sub hl [2, 3, 4, 5, 6] rfl) hf
    · have hf := tk_pos hf h13
      refine lv_aload_n hx hb dL_law_1095 rfl (lv_at hl 5 rfl) ?_
      refine lv_iconst (v := 0) hx hb dL_law_1096 (by decide) ?_
      refine va_lald (f := o4) hx hb hE.1 hP 17 1 rfl rfl tk_in01 dL_law_1097 ?_
      refine lv_iload hx hb dL_law_1098 (lv_at hl 0 rfl) ?_
      refine lv_i2l (v := r7.toInt64) hx hb dL_law_1100 rfl ?_
      refine W.lcmp hx hb dL_law_1101 ?_
      refine lv_if_eq (tgt := 1107) hx hb dL_law_1102 (by decide) (fun h14 => ?_) (fun h14 => ?_)
      · have hf := tk_pos hf h14
        refine lv_goto (tgt := 1303) hx hb dL_law_1107 (by decide) ?_
        exact hk S3 o4 M9 H locs _ _ (by omega) (by omega) hP hD hS ls (lv_sub hl [2, 3, 4, 5, 6] rfl) hf
      · have hf := tk_neg hf h14
        refine lv_iconst (v := 0) hx hb dL_law_1105 (by decide) ?_
        exact absurd (tk_s1 hf) (by decide)
  · have hf := tk_neg hf h12
    refine lv_iconst (v := 0) hx hb dL_law_1088 (by decide) ?_
    exact absurd (tk_s1 hf) (by decide)
set_option maxHeartbeats 4000000 in
set_option maxRecDepth 100000 in
theorem law_c23 {p : Program} {e : Env} {s : State} {m : MethodId} {below : List Frame} {meth : Method} {c : Code} (l : Launch) (hlst : l.stackTraces = false) {b L : Nat} {xs : Nat → Int32} (C0 : lw_At p s m meth c b L xs) (G : va_G) (c3 : ClassId × ClassId × ClassId) (q : Nat → Nat) (hE : tk_E G c3 s) (hC : tk_C s) (hZ : tk_Z (fun x : Nat => s.heap.size ≤ x) s s.heap) (K : tk_ST → (Nat → Int64) → tk_ST → Option Int32) (i : Int32) (S : tk_ST) (o : Nat → Int64) (M : tk_ST) (H : Heap) (locs : List Loc) (cells slots : Nat) (hcs : cells + 1 ≤ 668244 ∧ slots + 6 ≤ 7091373) (hP : va_P G vwCl (tk_W3 c3 q S o M) H) (hD : va_D (fun x : Nat => s.heap.size ≤ x) (tk_W3 c3 q S o M)) (hS : va_S (fun x : Nat => s.heap.size ≤ x) s.heap H locs) (ls : Array Slot) (hl : lv_has ls 8 [(0, .ref b), (1, .ref (q 0)), (2, .ref (q 17)), (3, .ref (q 26)), (4, .int i)]) (hf : f_law_c23 L xs K i S o M = some 1)
    (hk : ∀ (S : tk_ST) (o : Nat → Int64) (M : tk_ST) (H : Heap) (locs : List Loc) (cs ss : Nat), cs ≤ cells + 1 → ss ≤ slots + 6 → va_P G vwCl (tk_W3 c3 q S o M) H → va_D (fun x : Nat => s.heap.size ≤ x) (tk_W3 c3 q S o M) → va_S (fun x : Nat => s.heap.size ≤ x) s.heap H locs → ∀ ls : Array Slot, lv_has ls 8 [(0, .ref b), (1, .ref (q 0)), (2, .ref (q 17)), (3, .ref (q 26)), (4, .int i)] → K S o M = some 1 → W p l e room_1 s m #[Value.ref b] below meth c H locs cs ss (lw_Z below #[Value.ref b] s) (F0 m 1303 ls [])) :
    W p l e room_1 s m #[Value.ref b] below meth c H locs cells slots (lw_Z below #[Value.ref b] s) (F0 m 1110 ls []) := by
  obtain ⟨hx, hb, hr, hml, hown, hts, hX, hbl, hlocks, hgv⟩ := id C0
  have hown : s.vm.findClass RL = some m.cls := hown
  have hts := fun w h => hts w (wsL_law_in w h)
  have hA : ∀ x : Nat, s.heap.size ≤ x → (fun x : Nat => s.heap.size ≤ x) x := fun _ h => h
  have hbA : ¬ (fun x : Nat => s.heap.size ≤ x) b := Nat.not_le.mpr hbl
  have h1c : cells + 1 ≤ room_1.cells ∧ slots + 6 ≤ room_1.slots := hcs
  have h0c : cells ≤ room_1.cells ∧ slots ≤ room_1.slots := ⟨Nat.le_trans (Nat.le_add_right _ _) hcs.1, Nat.le_trans (Nat.le_add_right _ _) hcs.2⟩
  unfold f_law_c23 at hf
  refine lv_aload_n hx hb dL_law_1110 rfl (lv_at hl 1 rfl) ?_
  refine lv_aload_n hx hb dL_law_1111 rfl (lv_at hl 0 rfl) ?_
  refine lv_iload hx hb dL_law_1112 (lv_at hl 4 rfl) ?_
  refine lv_iconst (v := 1) hx hb dL_law_1114 (by decide) ?_
  refine lv_iadd hx hb dL_law_1115 ?_
  obtain ⟨h1, hf⟩ := tk_ok hf
  refine va_sld hx hb hX hbl hbA hS h1 dL_law_1116 ?_
  refine lv_aload_n hx hb dL_law_1117 rfl (lv_at hl 3 rfl) ?_
  obtain ⟨k2, S3, o4, h5, hf⟩ := tk_b3s hf
  refine tk_ciL (a := tk_H c3 q S ++ tk_O c3 q o) (a' := tk_H c3 q S3 ++ tk_O c3 q o4) (b := tk_M c3 q M) (vx_runSW (As := [.ref (q 0), .int (xs (i + (1 : Int32)).toNatClampNeg), .ref (q 26)]) (rest := []) ⟨hx, hb, hml, hown, hts⟩ (c_L_score l hlst G c3 q S o (xs (i + (1 : Int32)).toNatClampNeg) k2 S3 o4 h5 H.size) (vx_cwSW 3 hts gL_law_L_score rfl rfl rfl hs_L_score ⟨Nat.le_of_ble_eq_true rfl, Nat.le_of_ble_eq_true rfl⟩) (tk_pSL hE hZ hC (tk_Pl hP) (tk_Dl hD) hS hA) rfl rfl hl.1 rfl (lv_room (Nat.le_of_ble_eq_true rfl)) dL_law_1118 h1c) hP hD hS hA (fun H locs hP hD hS => ?_)
  refine lv_istore (lv' := [(5, .int k2), (0, .ref b), (1, .ref (q 0)), (2, .ref (q 17)), (3, .ref (q 26)), (4, .int i)]) hx hb dL_law_1121 hl (by decide) rfl (fun ls hl => ?_)
  refine lv_aload_n hx hb dL_law_1123 rfl (lv_at hl 3 rfl) ?_
  refine lv_aload_n hx hb dL_law_1124 rfl (lv_at hl 1 rfl) ?_
  refine lv_iload hx hb dL_law_1125 (lv_at hl 5 rfl) ?_
  refine lv_iconst (v := 1) hx hb dL_law_1127 (by decide) ?_
  refine lv_iadd hx hb dL_law_1128 ?_
  obtain ⟨h6, hf⟩ := tk_ok hf
  refine va_sld hx hb hX hbl hbA hS h6 dL_law_1129 ?_
  obtain ⟨r7, M9, h8, hf⟩ := tk_b2s hf
  refine tk_ciR (a := tk_H c3 q S3 ++ tk_O c3 q o4) (b := tk_M c3 q M) (b' := tk_M c3 q M9) (va_runV (As := [.int (xs (i + (1 : Int32)).toNatClampNeg)]) (rest := []) ⟨hx, hb, hml, hown, hts⟩ (c_X7_score l G c3 q M (xs (i + (1 : Int32)).toNatClampNeg) r7 M9 h8 H.size) (cwV 1 hts gL_law_X7_score rfl rfl rfl hv_X7_score ⟨Nat.le_of_ble_eq_true rfl, Nat.le_of_ble_eq_true rfl⟩) (tk_pV hE (tk_Pr hP) (tk_Dr hD) 0 rfl rfl) rfl rfl hl.1 rfl (lv_room (Nat.le_of_ble_eq_true rfl)) dL_law_1130 h1c) hP hD hS hA (fun H locs hP hD hS => ?_)
  refine lv_istore (lv' := [(6, .int r7), (5, .int k2), (0, .ref b), (1, .ref (q 0)), (2, .ref (q 17)), (3, .ref (q 26)), (4, .int i)]) hx hb dL_law_1133 hl (by decide) rfl (fun ls hl => ?_)
  refine lv_aload_n hx hb dL_law_1135 rfl (lv_at hl 4 rfl) ?_
  obtain ⟨r10, h11, hf⟩ := tk_b1s hf
  refine tk_ciR (a := tk_H c3 q S3 ++ tk_O c3 q o4) (b := tk_M c3 q M9) (b' := tk_M c3 q M9) (va_runV (As := []) (rest := []) ⟨hx, hb, hml, hown, hts⟩ (c_X7_thrown l G c3 q M9 r10 h11 H.size) (cwV 0 hts gL_law_X7_thrown rfl rfl rfl hv_X7_thrown ⟨Nat.le_of_ble_eq_true rfl, Nat.le_of_ble_eq_true rfl⟩) (tk_pV hE (tk_Pr hP) (tk_Dr hD) 0 rfl rfl) rfl rfl hl.1 rfl (lv_room (Nat.le_of_ble_eq_true rfl)) dL_law_1136 h1c) hP hD hS hA (fun H locs hP hD hS => ?_)
  refine lv_iload hx hb dL_law_1139 (lv_at hl 1 rfl) ?_
  refine lv_icmp_eq (tgt := 1146) hx hb dL_law_1141 (by decide) (fun h12 => ?_) (fun h12 => ?_)
  · have hf := tk_pos hf h12
    refine lv_iload hx hb dL_law_1146 (lv_at hl 1 rfl) ?_
    refine lv_if_ne (tgt := 1163) hx hb dL_law_1148 (by decide) (fun h13 => ?_) (fun h13 => ?_)
    · have hf := tk_neg hf h13
      refine lv_goto (tgt := 1303) hx hb dL_law_1163 (by decide) ?_
      exact hk S3 o4 M9 H locs _ _ (by omega) (by omega) hP hD hS ls (lv_sub hl [2, 3, 4, 5, 6] rfl) hf
    · have hf := tk_pos hf h13
      refine lv_aload_n hx hb dL_law_1151 rfl (lv_at hl 5 rfl) ?_
      refine lv_iconst (v := 0) hx hb dL_law_1152 (by decide) ?_
      refine va_lald (f := o4) hx hb hE.1 hP 17 1 rfl rfl tk_in01 dL_law_1153 ?_
      refine lv_iload hx hb dL_law_1154 (lv_at hl 0 rfl) ?_
      refine lv_i2l (v := r7.toInt64) hx hb dL_law_1156 rfl ?_
      refine W.lcmp hx hb dL_law_1157 ?_
      refine lv_if_eq (tgt := 1163) hx hb dL_law_1158 (by decide) (fun h14 => ?_) (fun h14 => ?_)
      · have hf := tk_pos hf h14
        refine lv_goto (tgt := 1303) hx hb dL_law_1163 (by decide) ?_
        exact hk S3 o4 M9 H locs _ _ (by omega) (by omega) hP hD hS ls (lv_sub hl [2, 3, 4, 5, 6] rfl) hf
      · have hf := tk_neg hf h14
        refine lv_iconst (v := 0) hx hb dL_law_1161 (by decide) ?_
        exact absurd (tk_s1 hf) (by decide)
  · have hf := tk_neg hf h12
    refine lv_iconst (v := 0) hx hb dL_law_1144 (by decide) ?_
    exact absurd (tk_s1 hf) (by decide)
set_option maxHeartbeats 4000000 in
set_option maxRecDepth 100000 in
theorem law_c24 {p : Program} {e : Env} {s : State} {m : MethodId} {below : List Frame} {meth : Method} {c : Code} (l : Launch) (hlst : l.stackTraces = false) {b L : Nat} {xs : Nat → Int32} (C0 : lw_At p s m meth c b L xs) (G : va_G) (c3 : ClassId × ClassId × ClassId) (q : Nat → Nat) (hE : tk_E G c3 s) (hC : tk_C s) (hZ : tk_Z (fun x : Nat => s.heap.size ≤ x) s s.heap) (K : tk_ST → (Nat → Int64) → tk_ST → Option Int32) (i : Int32) (S : tk_ST) (o : Nat → Int64) (M : tk_ST) (H : Heap) (locs : List Loc) (cells slots : Nat) (hcs : cells + 1 ≤ 668244 ∧ slots + 6 ≤ 7091373) (hP : va_P G vwCl (tk_W3 c3 q S o M) H) (hD : va_D (fun x : Nat => s.heap.size ≤ x) (tk_W3 c3 q S o M)) (hS : va_S (fun x : Nat => s.heap.size ≤ x) s.heap H locs) (ls : Array Slot) (hl : lv_has ls 8 [(0, .ref b), (1, .ref (q 0)), (2, .ref (q 17)), (3, .ref (q 26)), (4, .int i)]) (hf : f_law_c24 L xs K i S o M = some 1)
    (hk : ∀ (S : tk_ST) (o : Nat → Int64) (M : tk_ST) (H : Heap) (locs : List Loc) (cs ss : Nat), cs ≤ cells + 1 → ss ≤ slots + 6 → va_P G vwCl (tk_W3 c3 q S o M) H → va_D (fun x : Nat => s.heap.size ≤ x) (tk_W3 c3 q S o M) → va_S (fun x : Nat => s.heap.size ≤ x) s.heap H locs → ∀ ls : Array Slot, lv_has ls 8 [(0, .ref b), (1, .ref (q 0)), (2, .ref (q 17)), (3, .ref (q 26)), (4, .int i)] → K S o M = some 1 → W p l e room_1 s m #[Value.ref b] below meth c H locs cs ss (lw_Z below #[Value.ref b] s) (F0 m 1303 ls [])) :
    W p l e room_1 s m #[Value.ref b] below meth c H locs cells slots (lw_Z below #[Value.ref b] s) (F0 m 1166 ls []) := by
  obtain ⟨hx, hb, hr, hml, hown, hts, hX, hbl, hlocks, hgv⟩ := id C0
  have hown : s.vm.findClass RL = some m.cls := hown
  have hts := fun w h => hts w (wsL_law_in w h)
  have hA : ∀ x : Nat, s.heap.size ≤ x → (fun x : Nat => s.heap.size ≤ x) x := fun _ h => h
  have hbA : ¬ (fun x : Nat => s.heap.size ≤ x) b := Nat.not_le.mpr hbl
  have h1c : cells + 1 ≤ room_1.cells ∧ slots + 6 ≤ room_1.slots := hcs
  have h0c : cells ≤ room_1.cells ∧ slots ≤ room_1.slots := ⟨Nat.le_trans (Nat.le_add_right _ _) hcs.1, Nat.le_trans (Nat.le_add_right _ _) hcs.2⟩
  unfold f_law_c24 at hf
  refine lv_aload_n hx hb dL_law_1166 rfl (lv_at hl 1 rfl) ?_
  refine lv_aload_n hx hb dL_law_1167 rfl (lv_at hl 0 rfl) ?_
  refine lv_iload hx hb dL_law_1168 (lv_at hl 4 rfl) ?_
  refine lv_iconst (v := 1) hx hb dL_law_1170 (by decide) ?_
  refine lv_iadd hx hb dL_law_1171 ?_
  obtain ⟨h1, hf⟩ := tk_ok hf
  refine va_sld hx hb hX hbl hbA hS h1 dL_law_1172 ?_
  refine lv_aload_n hx hb dL_law_1173 rfl (lv_at hl 3 rfl) ?_
  obtain ⟨k2, S3, o4, h5, hf⟩ := tk_b3s hf
  refine tk_ciL (a := tk_H c3 q S ++ tk_O c3 q o) (a' := tk_H c3 q S3 ++ tk_O c3 q o4) (b := tk_M c3 q M) (vx_runSW (As := [.ref (q 0), .int (xs (i + (1 : Int32)).toNatClampNeg), .ref (q 26)]) (rest := []) ⟨hx, hb, hml, hown, hts⟩ (c_L_radli l hlst G c3 q S o (xs (i + (1 : Int32)).toNatClampNeg) k2 S3 o4 h5 H.size) (vx_cwSW 3 hts gL_law_L_radli rfl rfl rfl hs_L_radli ⟨Nat.le_of_ble_eq_true rfl, Nat.le_of_ble_eq_true rfl⟩) (tk_pSL hE hZ hC (tk_Pl hP) (tk_Dl hD) hS hA) rfl rfl hl.1 rfl (lv_room (Nat.le_of_ble_eq_true rfl)) dL_law_1174 h1c) hP hD hS hA (fun H locs hP hD hS => ?_)
  refine lv_istore (lv' := [(5, .int k2), (0, .ref b), (1, .ref (q 0)), (2, .ref (q 17)), (3, .ref (q 26)), (4, .int i)]) hx hb dL_law_1177 hl (by decide) rfl (fun ls hl => ?_)
  refine lv_aload_n hx hb dL_law_1179 rfl (lv_at hl 3 rfl) ?_
  refine lv_aload_n hx hb dL_law_1180 rfl (lv_at hl 1 rfl) ?_
  refine lv_iload hx hb dL_law_1181 (lv_at hl 5 rfl) ?_
  refine lv_iconst (v := 1) hx hb dL_law_1183 (by decide) ?_
  refine lv_iadd hx hb dL_law_1184 ?_
  obtain ⟨h6, hf⟩ := tk_ok hf
  refine va_sld hx hb hX hbl hbA hS h6 dL_law_1185 ?_
  obtain ⟨r7, M9, h8, hf⟩ := tk_b2s hf
  refine tk_ciR (a := tk_H c3 q S3 ++ tk_O c3 q o4) (b := tk_M c3 q M) (b' := tk_M c3 q M9) (va_runV (As := [.int (xs (i + (1 : Int32)).toNatClampNeg)]) (rest := []) ⟨hx, hb, hml, hown, hts⟩ (c_X7_radli l G c3 q M (xs (i + (1 : Int32)).toNatClampNeg) r7 M9 h8 H.size) (cwV 1 hts gL_law_X7_radli rfl rfl rfl hv_X7_radli ⟨Nat.le_of_ble_eq_true rfl, Nat.le_of_ble_eq_true rfl⟩) (tk_pV hE (tk_Pr hP) (tk_Dr hD) 0 rfl rfl) rfl rfl hl.1 rfl (lv_room (Nat.le_of_ble_eq_true rfl)) dL_law_1186 h1c) hP hD hS hA (fun H locs hP hD hS => ?_)
  refine lv_istore (lv' := [(6, .int r7), (5, .int k2), (0, .ref b), (1, .ref (q 0)), (2, .ref (q 17)), (3, .ref (q 26)), (4, .int i)]) hx hb dL_law_1189 hl (by decide) rfl (fun ls hl => ?_)
  refine lv_aload_n hx hb dL_law_1191 rfl (lv_at hl 4 rfl) ?_
  obtain ⟨r10, h11, hf⟩ := tk_b1s hf
  refine tk_ciR (a := tk_H c3 q S3 ++ tk_O c3 q o4) (b := tk_M c3 q M9) (b' := tk_M c3 q M9) (va_runV (As := []) (rest := []) ⟨hx, hb, hml, hown, hts⟩ (c_X7_thrown l G c3 q M9 r10 h11 H.size) (cwV 0 hts gL_law_X7_thrown rfl rfl rfl hv_X7_thrown ⟨Nat.le_of_ble_eq_true rfl, Nat.le_of_ble_eq_true rfl⟩) (tk_pV hE (tk_Pr hP) (tk_Dr hD) 0 rfl rfl) rfl rfl hl.1 rfl (lv_room (Nat.le_of_ble_eq_true rfl)) dL_law_1192 h1c) hP hD hS hA (fun H locs hP hD hS => ?_)
  refine lv_iload hx hb dL_law_1195 (lv_at hl 1 rfl) ?_
  refine lv_icmp_eq (tgt := 1202) hx hb dL_law_1197 (by decide) (fun h12 => ?_) (fun h12 => ?_)
  · have hf := tk_pos hf h12
    refine lv_iload hx hb dL_law_1202 (lv_at hl 1 rfl) ?_
    refine lv_if_ne (tgt := 1219) hx hb dL_law_1204 (by decide) (fun h13 => ?_) (fun h13 => ?_)
    · have hf := tk_neg hf h13
      refine lv_goto (tgt := 1303) hx hb dL_law_1219 (by decide) ?_
      exact hk S3 o4 M9 H locs _ _ (by omega) (by omega) hP hD hS ls (lv_sub hl [2, 3, 4, 5, 6] rfl) hf
    · have hf := tk_pos hf h13
      refine lv_aload_n hx hb dL_law_1207 rfl (lv_at hl 5 rfl) ?_
      refine lv_iconst (v := 0) hx hb dL_law_1208 (by decide) ?_
      refine va_lald (f := o4) hx hb hE.1 hP 17 1 rfl rfl tk_in01 dL_law_1209 ?_
      refine lv_iload hx hb dL_law_1210 (lv_at hl 0 rfl) ?_
      refine lv_i2l (v := r7.toInt64) hx hb dL_law_1212 rfl ?_
      refine W.lcmp hx hb dL_law_1213 ?_
      refine lv_if_eq (tgt := 1219) hx hb dL_law_1214 (by decide) (fun h14 => ?_) (fun h14 => ?_)
      · have hf := tk_pos hf h14
        refine lv_goto (tgt := 1303) hx hb dL_law_1219 (by decide) ?_
        exact hk S3 o4 M9 H locs _ _ (by omega) (by omega) hP hD hS ls (lv_sub hl [2, 3, 4, 5, 6] rfl) hf
      · have hf := tk_neg hf h14
        refine lv_iconst (v := 0) hx hb dL_law_1217 (by decide) ?_
        exact absurd (tk_s1 hf) (by decide)
  · have hf := tk_neg hf h12
    refine lv_iconst (v := 0) hx hb dL_law_1200 (by decide) ?_
    exact absurd (tk_s1 hf) (by decide)
set_option maxHeartbeats 4000000 in
set_option maxRecDepth 100000 in
theorem law_c25 {p : Program} {e : Env} {s : State} {m : MethodId} {below : List Frame} {meth : Method} {c : Code} (l : Launch) (hlst : l.stackTraces = false) {b L : Nat} {xs : Nat → Int32} (C0 : lw_At p s m meth c b L xs) (G : va_G) (c3 : ClassId × ClassId × ClassId) (q : Nat → Nat) (hE : tk_E G c3 s) (hC : tk_C s) (hZ : tk_Z (fun x : Nat => s.heap.size ≤ x) s s.heap) (K : tk_ST → (Nat → Int64) → tk_ST → Option Int32) (i : Int32) (S : tk_ST) (o : Nat → Int64) (M : tk_ST) (H : Heap) (locs : List Loc) (cells slots : Nat) (hcs : cells + 1 ≤ 668244 ∧ slots + 6 ≤ 7091373) (hP : va_P G vwCl (tk_W3 c3 q S o M) H) (hD : va_D (fun x : Nat => s.heap.size ≤ x) (tk_W3 c3 q S o M)) (hS : va_S (fun x : Nat => s.heap.size ≤ x) s.heap H locs) (ls : Array Slot) (hl : lv_has ls 8 [(0, .ref b), (1, .ref (q 0)), (2, .ref (q 17)), (3, .ref (q 26)), (4, .int i)]) (hf : f_law_c25 L xs K i S o M = some 1)
    (hk : ∀ (S : tk_ST) (o : Nat → Int64) (M : tk_ST) (H : Heap) (locs : List Loc) (cs ss : Nat), cs ≤ cells + 1 → ss ≤ slots + 6 → va_P G vwCl (tk_W3 c3 q S o M) H → va_D (fun x : Nat => s.heap.size ≤ x) (tk_W3 c3 q S o M) → va_S (fun x : Nat => s.heap.size ≤ x) s.heap H locs → ∀ ls : Array Slot, lv_has ls 8 [(0, .ref b), (1, .ref (q 0)), (2, .ref (q 17)), (3, .ref (q 26)), (4, .int i)] → K S o M = some 1 → W p l e room_1 s m #[Value.ref b] below meth c H locs cs ss (lw_Z below #[Value.ref b] s) (F0 m 1303 ls [])) :
    W p l e room_1 s m #[Value.ref b] below meth c H locs cells slots (lw_Z below #[Value.ref b] s) (F0 m 1222 ls []) := by
  obtain ⟨hx, hb, hr, hml, hown, hts, hX, hbl, hlocks, hgv⟩ := id C0
  have hown : s.vm.findClass RL = some m.cls := hown
  have hts := fun w h => hts w (wsL_law_in w h)
  have hA : ∀ x : Nat, s.heap.size ≤ x → (fun x : Nat => s.heap.size ≤ x) x := fun _ h => h
  have hbA : ¬ (fun x : Nat => s.heap.size ≤ x) b := Nat.not_le.mpr hbl
  have h1c : cells + 1 ≤ room_1.cells ∧ slots + 6 ≤ room_1.slots := hcs
  have h0c : cells ≤ room_1.cells ∧ slots ≤ room_1.slots := ⟨Nat.le_trans (Nat.le_add_right _ _) hcs.1, Nat.le_trans (Nat.le_add_right _ _) hcs.2⟩
  unfold f_law_c25 at hf
  refine lv_aload_n hx hb dL_law_1222 rfl (lv_at hl 1 rfl) ?_
  obtain ⟨r1, h2, hf⟩ := tk_b1s hf
  refine tk_ciH (a := tk_H c3 q S) (va_runV (As := []) (rest := []) ⟨hx, hb, hml, hown, hts⟩ (c_X6_result l G c3 q S r1 h2 H.size) (cwV 0 hts gL_law_X6_result rfl rfl rfl hv_X6_result ⟨Nat.le_of_ble_eq_true rfl, Nat.le_of_ble_eq_true rfl⟩) (tk_pV hE (tk_Pl (tk_Pl hP)) (tk_Dl (tk_Dl hD)) 0 rfl rfl) rfl rfl hl.1 rfl (lv_room (Nat.le_of_ble_eq_true rfl)) dL_law_1223 h0c) hP hD hS hA (fun H locs hP hD hS => ?_)
  refine lv_aload_n hx hb dL_law_1226 rfl (lv_at hl 2 rfl) ?_
  obtain ⟨r3, M5, h4, hf⟩ := tk_b2s hf
  refine tk_ciR (a := tk_H c3 q S ++ tk_O c3 q o) (b := tk_M c3 q M) (b' := tk_M c3 q M5) (va_runV (As := []) (rest := [.int r1]) ⟨hx, hb, hml, hown, hts⟩ (c_X7_result l G c3 q M r3 M5 h4 H.size) (cwV 0 hts gL_law_X7_result rfl rfl rfl hv_X7_result ⟨Nat.le_of_ble_eq_true rfl, Nat.le_of_ble_eq_true rfl⟩) (tk_pV hE (tk_Pr hP) (tk_Dr hD) 0 rfl rfl) rfl rfl hl.1 rfl (lv_room (Nat.le_of_ble_eq_true rfl)) dL_law_1227 h0c) hP hD hS hA (fun H locs hP hD hS => ?_)
  refine lv_icmp_eq (tgt := 1303) hx hb dL_law_1230 (by decide) (fun h6 => ?_) (fun h6 => ?_)
  · have hf := tk_pos hf h6
    exact hk S o M5 H locs _ _ (by omega) (by omega) hP hD hS ls (lv_sub hl [0, 1, 2, 3, 4] rfl) hf
  · have hf := tk_neg hf h6
    refine lv_iconst (v := 0) hx hb dL_law_1233 (by decide) ?_
    exact absurd (tk_s1 hf) (by decide)
set_option maxHeartbeats 4000000 in
set_option maxRecDepth 100000 in
theorem law_c26 {p : Program} {e : Env} {s : State} {m : MethodId} {below : List Frame} {meth : Method} {c : Code} (l : Launch) (hlst : l.stackTraces = false) {b L : Nat} {xs : Nat → Int32} (C0 : lw_At p s m meth c b L xs) (G : va_G) (c3 : ClassId × ClassId × ClassId) (q : Nat → Nat) (hE : tk_E G c3 s) (hC : tk_C s) (hZ : tk_Z (fun x : Nat => s.heap.size ≤ x) s s.heap) (K : tk_ST → (Nat → Int64) → tk_ST → Option Int32) (i : Int32) (S : tk_ST) (o : Nat → Int64) (M : tk_ST) (H : Heap) (locs : List Loc) (cells slots : Nat) (hcs : cells + 1 ≤ 668244 ∧ slots + 6 ≤ 7091373) (hP : va_P G vwCl (tk_W3 c3 q S o M) H) (hD : va_D (fun x : Nat => s.heap.size ≤ x) (tk_W3 c3 q S o M)) (hS : va_S (fun x : Nat => s.heap.size ≤ x) s.heap H locs) (ls : Array Slot) (hl : lv_has ls 8 [(0, .ref b), (1, .ref (q 0)), (2, .ref (q 17)), (3, .ref (q 26)), (4, .int i)]) (hf : f_law_c26 L xs K i S o M = some 1)
    (hk : ∀ (S : tk_ST) (o : Nat → Int64) (M : tk_ST) (H : Heap) (locs : List Loc) (cs ss : Nat), cs ≤ cells + 1 → ss ≤ slots + 6 → va_P G vwCl (tk_W3 c3 q S o M) H → va_D (fun x : Nat => s.heap.size ≤ x) (tk_W3 c3 q S o M) → va_S (fun x : Nat => s.heap.size ≤ x) s.heap H locs → ∀ ls : Array Slot, lv_has ls 8 [(0, .ref b), (1, .ref (q 0)), (2, .ref (q 17)), (3, .ref (q 26)), (4, .int i)] → K S o M = some 1 → W p l e room_1 s m #[Value.ref b] below meth c H locs cs ss (lw_Z below #[Value.ref b] s) (F0 m 1303 ls [])) :
    W p l e room_1 s m #[Value.ref b] below meth c H locs cells slots (lw_Z below #[Value.ref b] s) (F0 m 1235 ls []) := by
  obtain ⟨hx, hb, hr, hml, hown, hts, hX, hbl, hlocks, hgv⟩ := id C0
  have hown : s.vm.findClass RL = some m.cls := hown
  have hts := fun w h => hts w (wsL_law_in w h)
  have hA : ∀ x : Nat, s.heap.size ≤ x → (fun x : Nat => s.heap.size ≤ x) x := fun _ h => h
  have hbA : ¬ (fun x : Nat => s.heap.size ≤ x) b := Nat.not_le.mpr hbl
  have h1c : cells + 1 ≤ room_1.cells ∧ slots + 6 ≤ room_1.slots := hcs
  have h0c : cells ≤ room_1.cells ∧ slots ≤ room_1.slots := ⟨Nat.le_trans (Nat.le_add_right _ _) hcs.1, Nat.le_trans (Nat.le_add_right _ _) hcs.2⟩
  unfold f_law_c26 at hf
  refine lv_aload_n hx hb dL_law_1235 rfl (lv_at hl 1 rfl) ?_
  refine lv_aload_n hx hb dL_law_1236 rfl (lv_at hl 0 rfl) ?_
  refine lv_iload hx hb dL_law_1237 (lv_at hl 4 rfl) ?_
  refine lv_iconst (v := 1) hx hb dL_law_1239 (by decide) ?_
  refine lv_iadd hx hb dL_law_1240 ?_
  obtain ⟨h1, hf⟩ := tk_ok hf
  refine va_sld hx hb hX hbl hbA hS h1 dL_law_1241 ?_
  refine lv_aload_n hx hb dL_law_1242 rfl (lv_at hl 0 rfl) ?_
  refine lv_iload hx hb dL_law_1243 (lv_at hl 4 rfl) ?_
  refine lv_iconst (v := 2) hx hb dL_law_1245 (by decide) ?_
  refine lv_iadd hx hb dL_law_1246 ?_
  obtain ⟨h2, hf⟩ := tk_ok hf
  refine va_sld hx hb hX hbl hbA hS h2 dL_law_1247 ?_
  refine lv_aload_n hx hb dL_law_1248 rfl (lv_at hl 3 rfl) ?_
  obtain ⟨k3, S4, o5, h6, hf⟩ := tk_b3s hf
  refine tk_ciL (a := tk_H c3 q S ++ tk_O c3 q o) (a' := tk_H c3 q S4 ++ tk_O c3 q o5) (b := tk_M c3 q M) (vx_runSW (As := [.ref (q 0), .int (xs (i + (1 : Int32)).toNatClampNeg), .int (xs (i + (2 : Int32)).toNatClampNeg), .ref (q 26)]) (rest := []) ⟨hx, hb, hml, hown, hts⟩ (c_L_knows l hlst G c3 q S o (xs (i + (1 : Int32)).toNatClampNeg) (xs (i + (2 : Int32)).toNatClampNeg) k3 S4 o5 h6 H.size) (vx_cwSW 4 hts gL_law_L_knows rfl rfl rfl hs_L_knows ⟨Nat.le_of_ble_eq_true rfl, Nat.le_of_ble_eq_true rfl⟩) (tk_pSL hE hZ hC (tk_Pl hP) (tk_Dl hD) hS hA) rfl rfl hl.1 rfl (lv_room (Nat.le_of_ble_eq_true rfl)) dL_law_1249 h1c) hP hD hS hA (fun H locs hP hD hS => ?_)
  refine lv_istore (lv' := [(5, .int k3), (0, .ref b), (1, .ref (q 0)), (2, .ref (q 17)), (3, .ref (q 26)), (4, .int i)]) hx hb dL_law_1252 hl (by decide) rfl (fun ls hl => ?_)
  refine lv_aload_n hx hb dL_law_1254 rfl (lv_at hl 3 rfl) ?_
  refine lv_aload_n hx hb dL_law_1255 rfl (lv_at hl 1 rfl) ?_
  refine lv_iload hx hb dL_law_1256 (lv_at hl 5 rfl) ?_
  refine lv_iconst (v := 1) hx hb dL_law_1258 (by decide) ?_
  refine lv_iadd hx hb dL_law_1259 ?_
  obtain ⟨h7, hf⟩ := tk_ok hf
  refine va_sld hx hb hX hbl hbA hS h7 dL_law_1260 ?_
  refine lv_aload_n hx hb dL_law_1261 rfl (lv_at hl 1 rfl) ?_
  refine lv_iload hx hb dL_law_1262 (lv_at hl 5 rfl) ?_
  refine lv_iconst (v := 2) hx hb dL_law_1264 (by decide) ?_
  refine lv_iadd hx hb dL_law_1265 ?_
  obtain ⟨h8, hf⟩ := tk_ok hf
  refine va_sld hx hb hX hbl hbA hS h8 dL_law_1266 ?_
  obtain ⟨r9, M11, h10, hf⟩ := tk_b2s hf
  refine tk_ciR (a := tk_H c3 q S4 ++ tk_O c3 q o5) (b := tk_M c3 q M) (b' := tk_M c3 q M11) (va_runV (As := [.int (xs (i + (1 : Int32)).toNatClampNeg), .int (xs (i + (2 : Int32)).toNatClampNeg)]) (rest := []) ⟨hx, hb, hml, hown, hts⟩ (c_X7_knows l G c3 q M (xs (i + (1 : Int32)).toNatClampNeg) (xs (i + (2 : Int32)).toNatClampNeg) r9 M11 h10 H.size) (cwV 2 hts gL_law_X7_knows rfl rfl rfl hv_X7_knows ⟨Nat.le_of_ble_eq_true rfl, Nat.le_of_ble_eq_true rfl⟩) (tk_pV hE (tk_Pr hP) (tk_Dr hD) 0 rfl rfl) rfl rfl hl.1 rfl (lv_room (Nat.le_of_ble_eq_true rfl)) dL_law_1267 h1c) hP hD hS hA (fun H locs hP hD hS => ?_)
  refine lv_istore (lv' := [(6, .int r9), (5, .int k3), (0, .ref b), (1, .ref (q 0)), (2, .ref (q 17)), (3, .ref (q 26)), (4, .int i)]) hx hb dL_law_1270 hl (by decide) rfl (fun ls hl => ?_)
  refine lv_aload_n hx hb dL_law_1272 rfl (lv_at hl 4 rfl) ?_
  obtain ⟨r12, h13, hf⟩ := tk_b1s hf
  refine tk_ciR (a := tk_H c3 q S4 ++ tk_O c3 q o5) (b := tk_M c3 q M11) (b' := tk_M c3 q M11) (va_runV (As := []) (rest := []) ⟨hx, hb, hml, hown, hts⟩ (c_X7_thrown l G c3 q M11 r12 h13 H.size) (cwV 0 hts gL_law_X7_thrown rfl rfl rfl hv_X7_thrown ⟨Nat.le_of_ble_eq_true rfl, Nat.le_of_ble_eq_true rfl⟩) (tk_pV hE (tk_Pr hP) (tk_Dr hD) 0 rfl rfl) rfl rfl hl.1 rfl (lv_room (Nat.le_of_ble_eq_true rfl)) dL_law_1273 h1c) hP hD hS hA (fun H locs hP hD hS => ?_)
  refine lv_iload hx hb dL_law_1276 (lv_at hl 1 rfl) ?_
  refine lv_icmp_eq (tgt := 1283) hx hb dL_law_1278 (by decide) (fun h14 => ?_) (fun h14 => ?_)
  · have hf := tk_pos hf h14
    refine lv_iload hx hb dL_law_1283 (lv_at hl 1 rfl) ?_
    refine lv_if_ne (tgt := 1300) hx hb dL_law_1285 (by decide) (fun h15 => ?_) (fun h15 => ?_)
    · have hf := tk_neg hf h15
      refine lv_goto (tgt := 1303) hx hb dL_law_1300 (by decide) ?_
      exact hk S4 o5 M11 H locs _ _ (by omega) (by omega) hP hD hS ls (lv_sub hl [2, 3, 4, 5, 6] rfl) hf
    · have hf := tk_pos hf h15
      refine lv_aload_n hx hb dL_law_1288 rfl (lv_at hl 5 rfl) ?_
      refine lv_iconst (v := 0) hx hb dL_law_1289 (by decide) ?_
      refine va_lald (f := o5) hx hb hE.1 hP 17 1 rfl rfl tk_in01 dL_law_1290 ?_
      refine lv_iload hx hb dL_law_1291 (lv_at hl 0 rfl) ?_
      refine lv_i2l (v := r9.toInt64) hx hb dL_law_1293 rfl ?_
      refine W.lcmp hx hb dL_law_1294 ?_
      refine lv_if_eq (tgt := 1300) hx hb dL_law_1295 (by decide) (fun h16 => ?_) (fun h16 => ?_)
      · have hf := tk_pos hf h16
        refine lv_goto (tgt := 1303) hx hb dL_law_1300 (by decide) ?_
        exact hk S4 o5 M11 H locs _ _ (by omega) (by omega) hP hD hS ls (lv_sub hl [2, 3, 4, 5, 6] rfl) hf
      · have hf := tk_neg hf h16
        refine lv_iconst (v := 0) hx hb dL_law_1298 (by decide) ?_
        exact absurd (tk_s1 hf) (by decide)
  · have hf := tk_neg hf h14
    refine lv_iconst (v := 0) hx hb dL_law_1281 (by decide) ?_
    exact absurd (tk_s1 hf) (by decide)
set_option maxHeartbeats 4000000 in
set_option maxRecDepth 100000 in
theorem law_loop {p : Program} {e : Env} {s : State} {m : MethodId} {below : List Frame} {meth : Method} {c : Code} (l : Launch) (hlst : l.stackTraces = false) {b L : Nat} {xs : Nat → Int32} (C0 : lw_At p s m meth c b L xs) (G : va_G) (c3 : ClassId × ClassId × ClassId) (q : Nat → Nat) (hE : tk_E G c3 s) (hC : tk_C s) (hZ : tk_Z (fun x : Nat => s.heap.size ≤ x) s s.heap) : ∀ (n : Nat) (i : Int32) (S : tk_ST) (o : Nat → Int64) (M : tk_ST) (H : Heap) (locs : List Loc) (cells slots : Nat), cells + n ≤ 600000 → slots + 6 * n ≤ 600000 → va_P G vwCl (tk_W3 c3 q S o M) H → va_D (fun x : Nat => s.heap.size ≤ x) (tk_W3 c3 q S o M) → va_S (fun x : Nat => s.heap.size ≤ x) s.heap H locs → ∀ ls : Array Slot, lv_has ls 8 [(0, .ref b), (1, .ref (q 0)), (2, .ref (q 17)), (3, .ref (q 26)), (4, .int i)] → f_law L xs n i S o M = some 1 →
    W p l e room_1 s m #[Value.ref b] below meth c H locs cells slots (lw_Z below #[Value.ref b] s) (F0 m 23 ls []) := by
  obtain ⟨hx, hb, hr, hml, hown, hts, hX, hbl, hlocks, hgv⟩ := id C0
  have hown : s.vm.findClass RL = some m.cls := hown
  have hts := fun w h => hts w (wsL_law_in w h)
  have hA : ∀ x : Nat, s.heap.size ≤ x → (fun x : Nat => s.heap.size ≤ x) x := fun _ h => h
  have hbA : ¬ (fun x : Nat => s.heap.size ≤ x) b := Nat.not_le.mpr hbl
  intro n
  induction n with
  | zero =>
    intro i S o M H locs cells slots _ _ _ _ _ ls _ hf
    exact nomatch hf
  | succ n ih =>
    intro i S o M H locs cells slots hc hs hP hD hS ls hl hf
    rw [f_law_s] at hf
    refine lv_iload hx hb dL_law_23 (lv_at hl 4 rfl) ?_
    refine lv_aload_n hx hb dL_law_25 rfl (lv_at hl 0 rfl) ?_
    refine va_slen hx hb hX hbl hbA hS dL_law_26 ?_
    refine lv_iconst (v := 3) hx hb dL_law_27 (by decide) ?_
    refine lv_isub hx hb dL_law_28 ?_
    refine lv_icmp_gt (tgt := 1309) hx hb dL_law_29 (by decide) (fun h1 => ?_) (fun h1 => ?_)
    · refine lv_iconst (v := 1) hx hb dL_law_1309 (by decide) ?_
      refine va_forget (fun q hq => hS.2.2 q hq) ?_
      refine W.widen (k := 668244) (n := 7091373) (by omega) (by omega) ?_
      exact lw_ret hx hb hr hlocks dL_law_1310
    · have hf := tk_neg hf h1
      obtain ⟨h2, hf⟩ := tk_ok hf
      refine lv_aload_n hx hb dL_law_32 rfl (lv_at hl 0 rfl) ?_
      refine lv_iload hx hb dL_law_33 (lv_at hl 4 rfl) ?_
      refine va_sld hx hb hX hbl hbA hS h2 dL_law_35 ?_
      refine lv_bipush (v := 31) hx hb dL_law_36 (by decide) ?_
      refine lv_iand hx hb dL_law_38 ?_
      have J : ∀ (S : tk_ST) (o : Nat → Int64) (M : tk_ST) (H : Heap) (locs : List Loc) (cs ss : Nat), cs ≤ cells + 1 → ss ≤ slots + 6 → va_P G vwCl (tk_W3 c3 q S o M) H → va_D (fun x : Nat => s.heap.size ≤ x) (tk_W3 c3 q S o M) → va_S (fun x : Nat => s.heap.size ≤ x) s.heap H locs → ∀ ls : Array Slot, lv_has ls 8 [(0, .ref b), (1, .ref (q 0)), (2, .ref (q 17)), (3, .ref (q 26)), (4, .int i)] → f_law L xs n (i + (3 : Int32)) S o M = some 1 → W p l e room_1 s m #[Value.ref b] below meth c H locs cs ss (lw_Z below #[Value.ref b] s) (F0 m 1303 ls []) := by
        intro S o M H locs cs ss hcs hss hP hD hS ls hl hf
        refine lv_iinc (v := i + (3 : Int32)) (lv' := [(4, .int (i + (3 : Int32))), (0, .ref b), (1, .ref (q 0)), (2, .ref (q 17)), (3, .ref (q 26))]) hx hb dL_law_1303 hl (k := 4) rfl rfl (by decide) rfl (fun ls hl => ?_)
        refine lv_goto (tgt := 23) hx hb dL_law_1306 (by decide) ?_
        exact ih _ _ _ _ _ _ _ _ (by omega) (by omega) hP hD hS ls (lv_sub hl [1, 2, 3, 4, 0] rfl) hf
      have hcs : cells + 1 ≤ 668244 ∧ slots + 6 ≤ 7091373 := ⟨by omega, by omega⟩
      by_cases g0 : (xs i.toNatClampNeg &&& (31 : Int32)) = (0 : Int32)
      · have hf := tk_pos hf g0
        refine lv_tableIn (tgt := 160) hx hb dL_law_39 (by rw [g0]; decide) (by rw [g0]; decide) (by rw [g0]; rfl) (by decide) ?_
        exact law_c0 l hlst C0 G c3 q hE hC hZ (f_law L xs n (i + (3 : Int32))) i S o M H locs cells slots hcs hP hD hS ls hl hf J
      have hf := tk_neg hf g0
      by_cases g1 : (xs i.toNatClampNeg &&& (31 : Int32)) = (1 : Int32)
      · have hf := tk_pos hf g1
        refine lv_tableIn (tgt := 216) hx hb dL_law_39 (by rw [g1]; decide) (by rw [g1]; decide) (by rw [g1]; rfl) (by decide) ?_
        exact law_c1 l hlst C0 G c3 q hE hC hZ (f_law L xs n (i + (3 : Int32))) i S o M H locs cells slots hcs hP hD hS ls hl hf J
      have hf := tk_neg hf g1
      by_cases g2 : (xs i.toNatClampNeg &&& (31 : Int32)) = (2 : Int32)
      · have hf := tk_pos hf g2
        refine lv_tableIn (tgt := 272) hx hb dL_law_39 (by rw [g2]; decide) (by rw [g2]; decide) (by rw [g2]; rfl) (by decide) ?_
        exact law_c2 l hlst C0 G c3 q hE hC hZ (f_law L xs n (i + (3 : Int32))) i S o M H locs cells slots hcs hP hD hS ls hl hf J
      have hf := tk_neg hf g2
      by_cases g3 : (xs i.toNatClampNeg &&& (31 : Int32)) = (3 : Int32)
      · have hf := tk_pos hf g3
        refine lv_tableIn (tgt := 328) hx hb dL_law_39 (by rw [g3]; decide) (by rw [g3]; decide) (by rw [g3]; rfl) (by decide) ?_
        exact law_c3 l hlst C0 G c3 q hE hC hZ (f_law L xs n (i + (3 : Int32))) i S o M H locs cells slots hcs hP hD hS ls hl hf J
      have hf := tk_neg hf g3
      by_cases g4 : (xs i.toNatClampNeg &&& (31 : Int32)) = (4 : Int32)
      · have hf := tk_pos hf g4
        refine lv_tableIn (tgt := 384) hx hb dL_law_39 (by rw [g4]; decide) (by rw [g4]; decide) (by rw [g4]; rfl) (by decide) ?_
        exact law_c4 l hlst C0 G c3 q hE hC hZ (f_law L xs n (i + (3 : Int32))) i S o M H locs cells slots hcs hP hD hS ls hl hf J
      have hf := tk_neg hf g4
      by_cases g5 : (xs i.toNatClampNeg &&& (31 : Int32)) = (5 : Int32)
      · have hf := tk_pos hf g5
        refine lv_tableIn (tgt := 440) hx hb dL_law_39 (by rw [g5]; decide) (by rw [g5]; decide) (by rw [g5]; rfl) (by decide) ?_
        exact law_c5 l hlst C0 G c3 q hE hC hZ (f_law L xs n (i + (3 : Int32))) i S o M H locs cells slots hcs hP hD hS ls hl hf J
      have hf := tk_neg hf g5
      by_cases g6 : (xs i.toNatClampNeg &&& (31 : Int32)) = (6 : Int32)
      · have hf := tk_pos hf g6
        refine lv_tableIn (tgt := 496) hx hb dL_law_39 (by rw [g6]; decide) (by rw [g6]; decide) (by rw [g6]; rfl) (by decide) ?_
        exact law_c6 l hlst C0 G c3 q hE hC hZ (f_law L xs n (i + (3 : Int32))) i S o M H locs cells slots hcs hP hD hS ls hl hf J
      have hf := tk_neg hf g6
      by_cases g7 : (xs i.toNatClampNeg &&& (31 : Int32)) = (7 : Int32)
      · have hf := tk_pos hf g7
        refine lv_tableIn (tgt := 552) hx hb dL_law_39 (by rw [g7]; decide) (by rw [g7]; decide) (by rw [g7]; rfl) (by decide) ?_
        exact law_c7 l hlst C0 G c3 q hE hC hZ (f_law L xs n (i + (3 : Int32))) i S o M H locs cells slots hcs hP hD hS ls hl hf J
      have hf := tk_neg hf g7
      by_cases g8 : (xs i.toNatClampNeg &&& (31 : Int32)) = (8 : Int32)
      · have hf := tk_pos hf g8
        refine lv_tableIn (tgt := 608) hx hb dL_law_39 (by rw [g8]; decide) (by rw [g8]; decide) (by rw [g8]; rfl) (by decide) ?_
        exact law_c8 l hlst C0 G c3 q hE hC hZ (f_law L xs n (i + (3 : Int32))) i S o M H locs cells slots hcs hP hD hS ls hl hf J
      have hf := tk_neg hf g8
      by_cases g9 : (xs i.toNatClampNeg &&& (31 : Int32)) = (9 : Int32)
      · have hf := tk_pos hf g9
        refine lv_tableIn (tgt := 621) hx hb dL_law_39 (by rw [g9]; decide) (by rw [g9]; decide) (by rw [g9]; rfl) (by decide) ?_
        exact law_c9 l hlst C0 G c3 q hE hC hZ (f_law L xs n (i + (3 : Int32))) i S o M H locs cells slots hcs hP hD hS ls hl hf J
      have hf := tk_neg hf g9
      by_cases g10 : (xs i.toNatClampNeg &&& (31 : Int32)) = (10 : Int32)
      · have hf := tk_pos hf g10
        refine lv_tableIn (tgt := 634) hx hb dL_law_39 (by rw [g10]; decide) (by rw [g10]; decide) (by rw [g10]; rfl) (by decide) ?_
        exact law_c10 l hlst C0 G c3 q hE hC hZ (f_law L xs n (i + (3 : Int32))) i S o M H locs cells slots hcs hP hD hS ls hl hf J
      have hf := tk_neg hf g10
      by_cases g11 : (xs i.toNatClampNeg &&& (31 : Int32)) = (11 : Int32)
      · have hf := tk_pos hf g11
        refine lv_tableIn (tgt := 647) hx hb dL_law_39 (by rw [g11]; decide) (by rw [g11]; decide) (by rw [g11]; rfl) (by decide) ?_
        exact law_c11 l hlst C0 G c3 q hE hC hZ (f_law L xs n (i + (3 : Int32))) i S o M H locs cells slots hcs hP hD hS ls hl hf J
      have hf := tk_neg hf g11
      by_cases g12 : (xs i.toNatClampNeg &&& (31 : Int32)) = (12 : Int32)
      · have hf := tk_pos hf g12
        refine lv_tableIn (tgt := 660) hx hb dL_law_39 (by rw [g12]; decide) (by rw [g12]; decide) (by rw [g12]; rfl) (by decide) ?_
        exact law_c12 l hlst C0 G c3 q hE hC hZ (f_law L xs n (i + (3 : Int32))) i S o M H locs cells slots hcs hP hD hS ls hl hf J
      have hf := tk_neg hf g12
      by_cases g13 : (xs i.toNatClampNeg &&& (31 : Int32)) = (13 : Int32)
      · have hf := tk_pos hf g13
        refine lv_tableIn (tgt := 673) hx hb dL_law_39 (by rw [g13]; decide) (by rw [g13]; decide) (by rw [g13]; rfl) (by decide) ?_
        exact law_c13 l hlst C0 G c3 q hE hC hZ (f_law L xs n (i + (3 : Int32))) i S o M H locs cells slots hcs hP hD hS ls hl hf J
      have hf := tk_neg hf g13
      by_cases g14 : (xs i.toNatClampNeg &&& (31 : Int32)) = (14 : Int32)
      · have hf := tk_pos hf g14
        refine lv_tableIn (tgt := 686) hx hb dL_law_39 (by rw [g14]; decide) (by rw [g14]; decide) (by rw [g14]; rfl) (by decide) ?_
        exact law_c14 l hlst C0 G c3 q hE hC hZ (f_law L xs n (i + (3 : Int32))) i S o M H locs cells slots hcs hP hD hS ls hl hf J
      have hf := tk_neg hf g14
      by_cases g15 : (xs i.toNatClampNeg &&& (31 : Int32)) = (15 : Int32)
      · have hf := tk_pos hf g15
        refine lv_tableIn (tgt := 741) hx hb dL_law_39 (by rw [g15]; decide) (by rw [g15]; decide) (by rw [g15]; rfl) (by decide) ?_
        exact law_c15 l hlst C0 G c3 q hE hC hZ (f_law L xs n (i + (3 : Int32))) i S o M H locs cells slots hcs hP hD hS ls hl hf J
      have hf := tk_neg hf g15
      by_cases g16 : (xs i.toNatClampNeg &&& (31 : Int32)) = (16 : Int32)
      · have hf := tk_pos hf g16
        refine lv_tableIn (tgt := 797) hx hb dL_law_39 (by rw [g16]; decide) (by rw [g16]; decide) (by rw [g16]; rfl) (by decide) ?_
        exact law_c16 l hlst C0 G c3 q hE hC hZ (f_law L xs n (i + (3 : Int32))) i S o M H locs cells slots hcs hP hD hS ls hl hf J
      have hf := tk_neg hf g16
      by_cases g17 : (xs i.toNatClampNeg &&& (31 : Int32)) = (17 : Int32)
      · have hf := tk_pos hf g17
        refine lv_tableIn (tgt := 810) hx hb dL_law_39 (by rw [g17]; decide) (by rw [g17]; decide) (by rw [g17]; rfl) (by decide) ?_
        exact law_c17 l hlst C0 G c3 q hE hC hZ (f_law L xs n (i + (3 : Int32))) i S o M H locs cells slots hcs hP hD hS ls hl hf J
      have hf := tk_neg hf g17
      by_cases g18 : (xs i.toNatClampNeg &&& (31 : Int32)) = (18 : Int32)
      · have hf := tk_pos hf g18
        refine lv_tableIn (tgt := 866) hx hb dL_law_39 (by rw [g18]; decide) (by rw [g18]; decide) (by rw [g18]; rfl) (by decide) ?_
        exact law_c18 l hlst C0 G c3 q hE hC hZ (f_law L xs n (i + (3 : Int32))) i S o M H locs cells slots hcs hP hD hS ls hl hf J
      have hf := tk_neg hf g18
      by_cases g19 : (xs i.toNatClampNeg &&& (31 : Int32)) = (19 : Int32)
      · have hf := tk_pos hf g19
        refine lv_tableIn (tgt := 929) hx hb dL_law_39 (by rw [g19]; decide) (by rw [g19]; decide) (by rw [g19]; rfl) (by decide) ?_
        exact law_c19 l hlst C0 G c3 q hE hC hZ (f_law L xs n (i + (3 : Int32))) i S o M H locs cells slots hcs hP hD hS ls hl hf J
      have hf := tk_neg hf g19
      by_cases g20 : (xs i.toNatClampNeg &&& (31 : Int32)) = (20 : Int32)
      · have hf := tk_pos hf g20
        refine lv_tableIn (tgt := 942) hx hb dL_law_39 (by rw [g20]; decide) (by rw [g20]; decide) (by rw [g20]; rfl) (by decide) ?_
        exact law_c20 l hlst C0 G c3 q hE hC hZ (f_law L xs n (i + (3 : Int32))) i S o M H locs cells slots hcs hP hD hS ls hl hf J
      have hf := tk_neg hf g20
      by_cases g21 : (xs i.toNatClampNeg &&& (31 : Int32)) = (21 : Int32)
      · have hf := tk_pos hf g21
        refine lv_tableIn (tgt := 998) hx hb dL_law_39 (by rw [g21]; decide) (by rw [g21]; decide) (by rw [g21]; rfl) (by decide) ?_
        exact law_c21 l hlst C0 G c3 q hE hC hZ (f_law L xs n (i + (3 : Int32))) i S o M H locs cells slots hcs hP hD hS ls hl hf J
      have hf := tk_neg hf g21
      by_cases g22 : (xs i.toNatClampNeg &&& (31 : Int32)) = (22 : Int32)
      · have hf := tk_pos hf g22
        refine lv_tableIn (tgt := 1054) hx hb dL_law_39 (by rw [g22]; decide) (by rw [g22]; decide) (by rw [g22]; rfl) (by decide) ?_
        exact law_c22 l hlst C0 G c3 q hE hC hZ (f_law L xs n (i + (3 : Int32))) i S o M H locs cells slots hcs hP hD hS ls hl hf J
      have hf := tk_neg hf g22
      by_cases g23 : (xs i.toNatClampNeg &&& (31 : Int32)) = (23 : Int32)
      · have hf := tk_pos hf g23
        refine lv_tableIn (tgt := 1110) hx hb dL_law_39 (by rw [g23]; decide) (by rw [g23]; decide) (by rw [g23]; rfl) (by decide) ?_
        exact law_c23 l hlst C0 G c3 q hE hC hZ (f_law L xs n (i + (3 : Int32))) i S o M H locs cells slots hcs hP hD hS ls hl hf J
      have hf := tk_neg hf g23
      by_cases g24 : (xs i.toNatClampNeg &&& (31 : Int32)) = (24 : Int32)
      · have hf := tk_pos hf g24
        refine lv_tableIn (tgt := 1166) hx hb dL_law_39 (by rw [g24]; decide) (by rw [g24]; decide) (by rw [g24]; rfl) (by decide) ?_
        exact law_c24 l hlst C0 G c3 q hE hC hZ (f_law L xs n (i + (3 : Int32))) i S o M H locs cells slots hcs hP hD hS ls hl hf J
      have hf := tk_neg hf g24
      by_cases g25 : (xs i.toNatClampNeg &&& (31 : Int32)) = (25 : Int32)
      · have hf := tk_pos hf g25
        refine lv_tableIn (tgt := 1222) hx hb dL_law_39 (by rw [g25]; decide) (by rw [g25]; decide) (by rw [g25]; rfl) (by decide) ?_
        exact law_c25 l hlst C0 G c3 q hE hC hZ (f_law L xs n (i + (3 : Int32))) i S o M H locs cells slots hcs hP hD hS ls hl hf J
      have hf := tk_neg hf g25
      by_cases g26 : (xs i.toNatClampNeg &&& (31 : Int32)) = (26 : Int32)
      · have hf := tk_pos hf g26
        refine lv_tableIn (tgt := 1235) hx hb dL_law_39 (by rw [g26]; decide) (by rw [g26]; decide) (by rw [g26]; rfl) (by decide) ?_
        exact law_c26 l hlst C0 G c3 q hE hC hZ (f_law L xs n (i + (3 : Int32))) i S o M H locs cells slots hcs hP hD hS ls hl hf J
      have hf := tk_neg hf g26
      refine lv_tableOut (tgt := 1303) hx hb dL_law_39 (tk_out 0 26 _ (fun j z1 z2 => by intro hj; rcases (show j = 0 ∨ j = 1 ∨ j = 2 ∨ j = 3 ∨ j = 4 ∨ j = 5 ∨ j = 6 ∨ j = 7 ∨ j = 8 ∨ j = 9 ∨ j = 10 ∨ j = 11 ∨ j = 12 ∨ j = 13 ∨ j = 14 ∨ j = 15 ∨ j = 16 ∨ j = 17 ∨ j = 18 ∨ j = 19 ∨ j = 20 ∨ j = 21 ∨ j = 22 ∨ j = 23 ∨ j = 24 ∨ j = 25 ∨ j = 26 by omega) with rfl | rfl | rfl | rfl | rfl | rfl | rfl | rfl | rfl | rfl | rfl | rfl | rfl | rfl | rfl | rfl | rfl | rfl | rfl | rfl | rfl | rfl | rfl | rfl | rfl | rfl | rfl <;> first | exact g0 hj | exact g1 hj | exact g2 hj | exact g3 hj | exact g4 hj | exact g5 hj | exact g6 hj | exact g7 hj | exact g8 hj | exact g9 hj | exact g10 hj | exact g11 hj | exact g12 hj | exact g13 hj | exact g14 hj | exact g15 hj | exact g16 hj | exact g17 hj | exact g18 hj | exact g19 hj | exact g20 hj | exact g21 hj | exact g22 hj | exact g23 hj | exact g24 hj | exact g25 hj | exact g26 hj)) (by decide) ?_
      exact J S o M H locs cells slots (by omega) (by omega) hP hD hS ls hl hf
