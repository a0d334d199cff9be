def tk_strs : List (Nat × String) := [(74, "no such number of a deal"), (81, "the latest deal is not over"), (97, "no such level"), (99, "nobody bids now"), (104, "the level is not above the highest one"), (128, "no such suit"), (131, "no king is called now"), (143, "no such group"), (145, "nothing is taken of the talon now"), (175, "no such card"), (177, "nothing is laid away now"), (186, "the declarer cannot lay the card away"), (197, "no such bird"), (205, "birds are announced ahead of the first trick"), (210, "the bird is announced"), (212, "no king is called at this level"), (226, "the card cannot be played now"), (231, "no such number of cards"), (233, "nobody plays now"), (242, "no such player"), (244, "no such place in the talon"), (246, "there was no deal"), (251, "no such card in the trick"), (260, "no such side")]
/-! what a state of either side is: int fields by their numbers, long fields, int arrays, long arrays -/
abbrev tk_ST : Type := (Nat → Int32) × (Nat → Int64) × (Nat → Nat → Int32) × (Nat → Nat → Int64)
def tk_up {α : Type} (f : Nat → α) (k : Nat) (v : α) : Nat → α := fun j => bif Nat.beq j k then v else f j
def tk_I (S : tk_ST) (k : Nat) (v : Int32) : tk_ST := (tk_up S.1 k v, S.2.1, S.2.2.1, S.2.2.2)
def tk_L (S : tk_ST) (k : Nat) (v : Int64) : tk_ST := (S.1, tk_up S.2.1 k v, S.2.2.1, S.2.2.2)
def tk_A (S : tk_ST) (k : Nat) (v : Nat → Int32) : tk_ST := (S.1, S.2.1, tk_up S.2.2.1 k v, S.2.2.2)
def tk_B (S : tk_ST) (k : Nat) (v : Nat → Int64) : tk_ST := (S.1, S.2.1, S.2.2.1, tk_up S.2.2.2 k v)
/-! Java's own words over numbers -/
def tk_rem (x y : Int32) : Int32 := x - x / y * y
def tk_z (x : Int32) : Prop := x = 0 ∨ x = 1
/-! results that may be wanting -/
def tk_b1 {α β : Type} (x : Option α) (k : α → Option β) : Option β := match x with
  | none => none
  | some a => k a
def tk_b2 {α σ β : Type} (x : Option (α × σ)) (k : α → σ → Option β) : Option β := match x with
  | none => none
  | some a => k a.1 a.2
def tk_b3 {α σ τ β : Type} (x : Option (α × σ × τ)) (k : α → σ → τ → Option β) : Option β := match x with
  | none => none
  | some a => k a.1 a.2.1 a.2.2
theorem tk_b1s {α β : Type} {x : Option α} {k : α → Option β} {b : β} (h : tk_b1 x k = some b) : ∃ a, x = some a ∧ k a = some b := by
  cases x with
  | none => cases h
  | some a => exact ⟨a, rfl, h⟩
theorem tk_b2s {α σ β : Type} {x : Option (α × σ)} {k : α → σ → Option β} {b : β} (h : tk_b2 x k = some b) : ∃ a s, x = some (a, s) ∧ k a s = some b := by
  cases x with
  | none => cases h
  | some a => exact ⟨a.1, a.2, rfl, h⟩
theorem tk_b3s {α σ τ β : Type} {x : Option (α × σ × τ)} {k : α → σ → τ → Option β} {b : β} (h : tk_b3 x k = some b) : ∃ a s t, x = some (a, s, t) ∧ k a s t = some b := by
  cases x with
  | none => cases h
  | some a => exact ⟨a.1, a.2.1, a.2.2, rfl, h⟩
theorem tk_nm {α β : Type} {v y : α} {k : α → Option β} {r : Option β} (h : tk_b1 (some v) k = r) (e : y = v) : k y = r := by subst e; exact h
theorem tk_pos {c : Prop} {hd : Decidable c} {α : Type} {a b r : α} (h : (@ite α c hd a b) = r) (hc : c) : a = r := by rw [if_pos hc] at h; exact h
theorem tk_neg {c : Prop} {hd : Decidable c} {α : Type} {a b r : α} (h : (@ite α c hd a b) = r) (hc : ¬ c) : b = r := by rw [if_neg hc] at h; exact h
theorem tk_ok {c : Prop} {hd : Decidable c} {α : Type} {b : Option α} {r : α} (h : (@ite (Option α) c hd none b) = some r) : ¬ c ∧ b = some r := by
  by_cases hc : c
  · rw [if_pos hc] at h; cases h
  · rw [if_neg hc] at h; exact ⟨hc, h⟩
theorem tk_yes {c : Prop} {hd : Decidable c} {α : Type} {b : Option α} {r : α} (h : (@ite (Option α) c hd b none) = some r) : c ∧ b = some r := by
  by_cases hc : c
  · rw [if_pos hc] at h; exact ⟨hc, h⟩
  · rw [if_neg hc] at h; cases h
theorem tk_znar {ty : FieldType} (hty : ty = .boolean) {v : Int32} (h : v = 0 ∨ v = 1) : narrow ty (.int v) = .int v := by
  subst hty
  rcases h with rfl | rfl <;> rfl
theorem tk_zfit {v : Int32} (h : v = 0 ∨ v = 1) : fits .boolean (.int v) = true := by
  rcases h with rfl | rfl <;> rfl
/-! the environment: what the tables say, kept while the machine warms -/
def tk_tys (c : ClassId × ClassId × ClassId) : List (ClassId × FieldType) := [(c.1, .int), (c.2.1, .long)]
abbrev tk_n1 : Cond := .fieldLinkNest RX6 101 "TarockHall$Bidding" "highest" "I" "TarockHall"
abbrev tk_n2 : Cond := .fieldLinkNest RX6 202 "TarockHall$Trick" "size" "I" "TarockHall"
abbrev tk_n3 : Cond := .fieldLinkNest RX6 268 "TarockHall$Sheet" "scores" "LTarockHall$Row;" "TarockHall"
abbrev tk_n4 : Cond := .fieldLinkNest RX6 276 "TarockHall$Sheet" "radli" "LTarockHall$Row;" "TarockHall"
abbrev tk_n5 : Cond := .fieldLinkNest RX6 279 "TarockHall$Sheet" "latest" "I" "TarockHall"
abbrev tk_n6 : Cond := .fieldLinkNest RX6 294 "TarockHall$Bidding" "bidder" "I" "TarockHall"
abbrev tk_n7 : Cond := .methodLinkNest RX0 27 yX6_behind "TarockHall"
abbrev tk_n8 : Cond := .methodLinkNest RX1 32 yX6_only "TarockHall"
abbrev tk_n9 : Cond := .methodLinkNest RX5 35 yX6_suitOf "TarockHall"
abbrev tk_n10 : Cond := .methodLinkNest RX5 38 yX6_only "TarockHall"
abbrev tk_n11 : Cond := .castable "java/lang/IllegalArgumentException" "java/lang/IllegalArgumentException"
abbrev tk_n12 : Cond := .castable "java/lang/IllegalStateException" "java/lang/IllegalStateException"
abbrev tk_n13 : Cond := .castable "java/lang/IndexOutOfBoundsException" "java/lang/IndexOutOfBoundsException"
abbrev tk_n14 : Cond := .declares (Bundle.initS "java/lang/RuntimeException")
abbrev tk_n15 : Cond := .declares (Bundle.initS "java/lang/Exception")
abbrev tk_n16 : Cond := .declares (Bundle.initS Bundle.tN)
def tk_N (U : State) : Prop := va_Nw tk_n1 U ∧ va_Nw tk_n2 U ∧ va_Nw tk_n3 U ∧ va_Nw tk_n4 U ∧ va_Nw tk_n5 U ∧ va_Nw tk_n6 U ∧ va_Nw tk_n7 U ∧ va_Nw tk_n8 U ∧ va_Nw tk_n9 U ∧ va_Nw tk_n10 U ∧ va_Nw tk_n11 U ∧ va_Nw tk_n12 U ∧ va_Nw tk_n13 U ∧ va_Nw tk_n14 U ∧ va_Nw tk_n15 U ∧ va_Nw tk_n16 U
def tk_T (U : State) : Prop := ∀ q ∈ tk_strs, ∃ a, vk_R RX6 q.1 q.2 a U
def tk_E (G : va_G) (c : ClassId × ClassId × ClassId) (U : State) : Prop := va_K G vwCl (tk_tys c) U ∧ tk_N U ∧ tk_T U
theorem tk_N.warm {s U : State} (hW : s.WarmedH U.vm) (h : tk_N s) : tk_N U := by
  obtain ⟨h1, h2, h3, h4, h5, h6, h7, h8, h9, h10, h11, h12, h13, h14, h15, h16⟩ := h
  exact ⟨h1.warmF hW, h2.warmF hW, h3.warmF hW, h4.warmF hW, h5.warmF hW, h6.warmF hW, h7.warmM hW, h8.warmM hW, h9.warmM hW, h10.warmM hW, h11.warmC hW, h12.warmC hW, h13.warmC hW, h14.warmD hW, h15.warmD hW, h16.warmD hW⟩
theorem tk_E.warm {G : va_G} {c : ClassId × ClassId × ClassId} {s U : State} (hW : s.WarmedH U.vm) (h : tk_E G c s) : tk_E G c U :=
  ⟨va_K.moved hW.alike h.1, h.2.1.warm hW, fun q hq => by obtain ⟨a, ha⟩ := h.2.2 q hq; exact ⟨a, vk_R.warm hW ha⟩⟩
theorem tk_E.calling {G : va_G} {c : ClassId × ClassId × ClassId} {U : State} {g : JFrame} {mk : MethodId} {a : Array Value} (h : tk_E G c U) : tk_E G c (U.calling g mk a) :=
  tk_E.warm (s := U) (U := U.calling g mk a) (State.WarmedH.refl U) h
/-- the two statics that a thrown exception reads -/
def tk_Z (A : Nat → Prop) (U : State) (H : Heap) : Prop := vx_Zq Bundle.tN "UNASSIGNED_STACK" Bundle.steD A U H ∧ vx_Zq Bundle.tN "SUPPRESSED_SENTINEL" Bundle.listD A U H
theorem tk_Z.moved {A : Nat → Prop} {u U : State} {H : Heap} (hvm : u.vm.Alike U.vm) (h : tk_Z A u H) : tk_Z A U H := ⟨h.1.moved hvm, h.2.moved hvm⟩
theorem tk_Z.kept {A : Nat → Prop} {U : State} {H H1 : Heap} (h : tk_Z A U H) (hq : ∀ a : Nat, a < H.size → ¬ A a → H1[a]? = H[a]?) : tk_Z A U H1 := ⟨h.1.kept hq, h.2.kept hq⟩
theorem tk_Z.narrow {A B : Nat → Prop} {U : State} {H : Heap} (h : tk_Z A U H) (hAB : ∀ q, B q → A q) : tk_Z B U H := ⟨h.1.narrow hAB, h.2.narrow hAB⟩
/-! contracts: over a world of cells ws, which becomes ws' -/
def tk_pre (G : va_G) (c : ClassId × ClassId × ClassId) (ws : va_W) (sz : Nat) (U : State) : Prop := U.heap.size = sz ∧ va_P G vwCl ws U.heap ∧ tk_E G c U ∧ va_D (fun _ => True) ws
def tk_preX (G : va_G) (c : ClassId × ClassId × ClassId) (ws : va_W) (sz : Nat) (U : State) : Prop := tk_pre G c ws sz U ∧ tk_Z (va_A ws sz) U U.heap
def tk_post (G : va_G) (A : Nat → Prop) (ws' : va_W) (_ : Unit) (t : State) : Prop := va_P G vwCl ws' t.heap ∧ va_D A ws'
def tk_ex (k : Int32) : String := if k = 1 then "java/lang/IllegalArgumentException" else if k = 2 then "java/lang/IllegalStateException" else "java/lang/IndexOutOfBoundsException"
def tk_Mi (l : Launch) (y : MethodName) (w : List Cond) (rm : Room) (G : va_G) (c : ClassId × ClassId × ClassId) (av : List Value) (ws ws' : va_W) (r : Int32) : Prop :=
  ∀ sz : Nat, Met l y w rm (va_Pc av (tk_pre G c ws sz)) (va_Qi (fun (r1 : Int32) (_ : Unit) => r1 = r) (tk_post G (va_A ws sz) ws') (va_A ws sz)) 0 0 (va_A ws sz)
def tk_Ml (l : Launch) (y : MethodName) (w : List Cond) (rm : Room) (G : va_G) (c : ClassId × ClassId × ClassId) (av : List Value) (ws ws' : va_W) (r : Int64) : Prop :=
  ∀ sz : Nat, Met l y w rm (va_Pc av (tk_pre G c ws sz)) (va_Ql (fun (r1 : Int64) (_ : Unit) => r1 = r) (tk_post G (va_A ws sz) ws') (va_A ws sz)) 0 0 (va_A ws sz)
def tk_Mv (l : Launch) (y : MethodName) (w : List Cond) (rm : Room) (G : va_G) (c : ClassId × ClassId × ClassId) (av : List Value) (ws ws' : va_W) : Prop :=
  ∀ sz : Nat, Met l y w rm (va_Pc av (tk_pre G c ws sz)) (va_Qv (fun (_ : Unit) => True) (tk_post G (va_A ws sz) ws') (va_A ws sz)) 0 0 (va_A ws sz)
def tk_XC (G : va_G) (A : Nat → Prop) (ws' : va_W) (k : Int32) : String → State → State → Prop := vx_X (fun (_ : Unit) => k ≠ 0) (fun E u t => E = tk_ex k ∧ tk_post G A ws' u t) A
def tk_Xi (l : Launch) (y : MethodName) (w : List Cond) (rm : Room) (G : va_G) (c : ClassId × ClassId × ClassId) (av : List Value) (ws ws' : va_W) (k r : Int32) : Prop :=
  ∀ sz : Nat, vx_Met l y w rm (va_Pc av (tk_preX G c ws sz)) (va_Qi (fun (r1 : Int32) (_ : Unit) => k = 0 ∧ r1 = r) (tk_post G (va_A ws sz) ws') (va_A ws sz)) (tk_XC G (va_A ws sz) ws' k) 1 6 (va_A ws sz)
def tk_Xl (l : Launch) (y : MethodName) (w : List Cond) (rm : Room) (G : va_G) (c : ClassId × ClassId × ClassId) (av : List Value) (ws ws' : va_W) (k : Int32) (r : Int64) : Prop :=
  ∀ sz : Nat, vx_Met l y w rm (va_Pc av (tk_preX G c ws sz)) (va_Ql (fun (r1 : Int64) (_ : Unit) => k = 0 ∧ r1 = r) (tk_post G (va_A ws sz) ws') (va_A ws sz)) (tk_XC G (va_A ws sz) ws' k) 1 6 (va_A ws sz)
theorem tk_out (lo hi : Int) (x : Int32) (h : ∀ j : Int, lo ≤ j → j ≤ hi → ¬ x = Int32.ofInt j) : x.toInt < lo ∨ hi < x.toInt := by
  by_cases h1 : x.toInt < lo
  · exact Or.inl h1
  · by_cases h2 : hi < x.toInt
    · exact Or.inr h2
    · exact absurd (Int32.ofInt_toInt x).symm (h x.toInt (by omega) (by omega))
section TKC
variable {p : Program} {l : Launch} {e : Env} {R : Room} {s : State} {m : MethodId} {args : Array Value} {below : List Frame} {meth : Method} {c : Code} {H : Heap} {locs : List Loc} {cells slots : Nat} {Q : State → Prop}
variable {cc : ByteArray} {pc : Nat} {ls : Array Slot} {rest st0 : List Value} {a : Array Value} {A : Nat → Prop} {H0 : Heap} {G : va_G} {c3 : ClassId × ClassId × ClassId} {ws ws' : va_W}
theorem tk_free (hD : va_D A ws) (hS : va_S A H0 H locs) (hA : ∀ q, H0.size ≤ q → A q) : ∀ q, va_A ws H.size q → A q := by
  intro q h
  rcases h with ⟨k, e9, h⟩ | h
  · exact hD.2 k (q, e9) h
  · exact hA q (Nat.le_trans hS.1 h)
theorem tk_pV {ci : Nat} {fs : List Value} {r : vw_C} {b : Nat} {As : List Value} (hE : tk_E G c3 s) (hP : va_P G vwCl ws H) (hD : va_D A ws) (q0 : Nat) (he : ws[q0]? = some (b, .inr (ci, fs))) (hc : vwCl[ci]? = some r) :
    PreV s H r.1 b (va_Pc (.ref b :: As) (tk_pre G c3 ws H.size)) As := by
  refine ⟨fun a U g mk q => ?_, va_recv hE.1 hP hc he, fun U hU hW => ⟨rfl, by rw [hU], by rw [hU]; exact hP, hE.warm hW, hD.weaken (fun _ _ _ _ => trivial)⟩⟩
  obtain ⟨q0, q1, qP, qE, qD⟩ := q
  exact ⟨q0, q1, qP, qE.calling, qD⟩
theorem tk_pS {As : List Value} (hE : tk_E G c3 s) (hP : va_P G vwCl ws H) (hD : va_D A ws) : PreS s H (va_Pc As (tk_pre G c3 ws H.size)) As := by
  refine ⟨fun a U g mk q => ?_, fun U hU hW => ⟨rfl, by rw [hU], by rw [hU]; exact hP, hE.warm hW, hD.weaken (fun _ _ _ _ => trivial)⟩⟩
  obtain ⟨q0, q1, qP, qE, qD⟩ := q
  exact ⟨q0, q1, qP, qE.calling, qD⟩
theorem tk_ci {r : Int32} (hr : va_Run p l e R s m args below meth c H locs cells slots 0 0 (F0 m pc ls st0) rest (va_Qi (fun (r1 : Int32) (_ : Unit) => r1 = r) (tk_post G (va_A ws H.size) ws') (va_A ws H.size) a) (va_A ws H.size))
    (hD : va_D A ws) (hS : va_S A H0 H locs) (hA : ∀ q, H0.size ≤ q → A q)
    (kk : ∀ (H1 : Heap) (locs1 : List Loc), va_P G vwCl ws' H1 → va_D A ws' → va_S A H0 H1 locs1 → W p l e R s m args below meth c H1 locs1 cells slots Q (F0 m (pc + 3) ls (.int r :: rest))) : W p l e R s m args below meth c H locs cells slots Q (F0 m pc ls st0) := by
  have hF := tk_free hD hS hA
  refine va_calli hr hS (fun q _ h => hF q h) hF (fun r1 u t H1 locs1 ht hvm hw hB hz1 hk1 hS1 => ?_)
  subst hw
  obtain ⟨hP1, hD1⟩ := hB
  rw [ht] at hP1
  exact kk H1 locs1 hP1 (hD1.weaken (fun _ q _ h => hF q.1 h)) hS1
theorem tk_cl {r : Int64} (hr : va_Run p l e R s m args below meth c H locs cells slots 0 0 (F0 m pc ls st0) rest (va_Ql (fun (r1 : Int64) (_ : Unit) => r1 = r) (tk_post G (va_A ws H.size) ws') (va_A ws H.size) a) (va_A ws H.size))
    (hD : va_D A ws) (hS : va_S A H0 H locs) (hA : ∀ q, H0.size ≤ q → A q)
    (kk : ∀ (H1 : Heap) (locs1 : List Loc), va_P G vwCl ws' H1 → va_D A ws' → va_S A H0 H1 locs1 → W p l e R s m args below meth c H1 locs1 cells slots Q (F0 m (pc + 3) ls (.long r :: rest))) : W p l e R s m args below meth c H locs cells slots Q (F0 m pc ls st0) := by
  have hF := tk_free hD hS hA
  refine va_calll hr hS (fun q _ h => hF q h) hF (fun r1 u t H1 locs1 ht hvm hw hB hz1 hk1 hS1 => ?_)
  subst hw
  obtain ⟨hP1, hD1⟩ := hB
  rw [ht] at hP1
  exact kk H1 locs1 hP1 (hD1.weaken (fun _ q _ h => hF q.1 h)) hS1
theorem tk_cv (hr : va_Run p l e R s m args below meth c H locs cells slots 0 0 (F0 m pc ls st0) rest (va_Qv (fun (_ : Unit) => True) (tk_post G (va_A ws H.size) ws') (va_A ws H.size) a) (va_A ws H.size))
    (hD : va_D A ws) (hS : va_S A H0 H locs) (hA : ∀ q, H0.size ≤ q → A q)
    (kk : ∀ (H1 : Heap) (locs1 : List Loc), va_P G vwCl ws' H1 → va_D A ws' → va_S A H0 H1 locs1 → W p l e R s m args below meth c H1 locs1 cells slots Q (F0 m (pc + 3) ls rest)) : W p l e R s m args below meth c H locs cells slots Q (F0 m pc ls st0) := by
  have hF := tk_free hD hS hA
  refine va_callv hr hS (fun q _ h => hF q h) hF (fun u t H1 locs1 ht hvm hw hB hz1 hk1 hS1 => ?_)
  obtain ⟨hP1, hD1⟩ := hB
  rw [ht] at hP1
  exact kk H1 locs1 hP1 (hD1.weaken (fun _ q _ h => hF q.1 h)) hS1
/-! ends -/
theorem tk_ri {r r0 : Int32} {wr : va_W} (hQ : Q = MQ below (va_Qi (fun (r1 : Int32) (_ : Unit) => r1 = r0) (tk_post G A ws') A) args s 0 0 A) (e1 : r = r0) (e2 : wr = ws')
    (hx : p.tables.exec = Jvm.exec) (hb : c.code = cc) (hr : meth.sig.returnType = some .int) (hlocks : meth.locks = false) (hP : va_P G vwCl wr H) (hD : va_D A wr) (hS : va_S A s.heap H locs) (d : decode cc pc = .ok (.ireturn, 1)) :
    W p l e R s m args below meth c H locs 0 0 Q (F0 m pc ls [.int r]) := by
  subst hQ; subst e1; subst e2
  exact W.iret (v := r) hx hb hr (fun t ht hW => ⟨⟨r, (), rfl, rfl, by rw [ht]; exact hP, hD⟩, hS.F ht⟩) hS.2.2 d
theorem tk_rz {r r0 : Int32} {wr : va_W} (hQ : Q = MQ below (va_Qi (fun (r1 : Int32) (_ : Unit) => r1 = r0) (tk_post G A ws') A) args s 0 0 A) (e1 : r = r0) (e2 : wr = ws') (hz : r = 0 ∨ r = 1)
    (hx : p.tables.exec = Jvm.exec) (hb : c.code = cc) (hr : meth.sig.returnType = some .boolean) (hlocks : meth.locks = false) (hP : va_P G vwCl wr H) (hD : va_D A wr) (hS : va_S A s.heap H locs) (d : decode cc pc = .ok (.ireturn, 1)) :
    W p l e R s m args below meth c H locs 0 0 Q (F0 m pc ls [.int r]) := by
  subst hQ; subst e1; subst e2
  exact W.zret (v := r) hx hb hr (tk_znar rfl hz) (fun t ht hW => ⟨⟨r, (), rfl, rfl, by rw [ht]; exact hP, hD⟩, hS.F ht⟩) hS.2.2 d
theorem tk_rl {r r0 : Int64} {wr : va_W} (hQ : Q = MQ below (va_Ql (fun (r1 : Int64) (_ : Unit) => r1 = r0) (tk_post G A ws') A) args s 0 0 A) (e1 : r = r0) (e2 : wr = ws')
    (hx : p.tables.exec = Jvm.exec) (hb : c.code = cc) (hr : meth.sig.returnType = some .long) (hlocks : meth.locks = false) (hP : va_P G vwCl wr H) (hD : va_D A wr) (hS : va_S A s.heap H locs) (d : decode cc pc = .ok (.lreturn, 1)) :
    W p l e R s m args below meth c H locs 0 0 Q (F0 m pc ls [.long r]) := by
  subst hQ; subst e1; subst e2
  exact W.lret (v := r) hx hb hr (fun t ht hW => ⟨⟨r, (), rfl, rfl, by rw [ht]; exact hP, hD⟩, hS.F ht⟩) hS.2.2 d
theorem tk_rv {wr : va_W} (hQ : Q = MQ below (va_Qv (fun (_ : Unit) => True) (tk_post G A ws') A) args s 0 0 A) (e2 : wr = ws')
    (hx : p.tables.exec = Jvm.exec) (hb : c.code = cc) (hr : meth.sig.returnType = none) (hlocks : meth.locks = false) (hP : va_P G vwCl wr H) (hD : va_D A wr) (hS : va_S A s.heap H locs) (d : decode cc pc = .ok (.return_, 1)) :
    W p l e R s m args below meth c H locs 0 0 Q (F0 m pc ls []) := by
  subst hQ; subst e2
  exact W.vret hx hb hr (fun t ht hW => ⟨⟨(), rfl, trivial, by rw [ht]; exact hP, hD⟩, hS.F ht⟩) hS.2.2 d
/-! ends of methods that may throw -/
theorem tk_xri {r r0 k0 : Int32} {wr : va_W} (hQ : Q = vx_MQ below (va_Qi (fun (r1 : Int32) (_ : Unit) => k0 = 0 ∧ r1 = r0) (tk_post G A ws') A) (tk_XC G A ws' k0) args s 1 6 A) (e0 : 0 = k0) (e1 : r = r0) (e2 : wr = ws')
    (hx : p.tables.exec = Jvm.exec) (hb : c.code = cc) (hr : meth.sig.returnType = some .int) (hlocks : meth.locks = false) (hP : va_P G vwCl wr H) (hD : va_D A wr) (hS : va_S A s.heap H locs) (d : decode cc pc = .ok (.ireturn, 1)) :
    W p l e R s m args below meth c H locs 0 0 Q (F0 m pc ls [.int r]) := by
  subst hQ; subst e1; subst e2; subst e0
  refine vx_ret (W.widen (k := 1) (n := 6) (by decide) (by decide) ?_)
  exact W.iret (v := r) hx hb hr (fun t ht hW => ⟨⟨r, (), rfl, ⟨rfl, rfl⟩, by rw [ht]; exact hP, hD⟩, hS.F ht⟩) hS.2.2 d
theorem tk_xrz {r r0 k0 : Int32} {wr : va_W} (hQ : Q = vx_MQ below (va_Qi (fun (r1 : Int32) (_ : Unit) => k0 = 0 ∧ r1 = r0) (tk_post G A ws') A) (tk_XC G A ws' k0) args s 1 6 A) (e0 : 0 = k0) (e1 : r = r0) (e2 : wr = ws') (hz : r = 0 ∨ r = 1)
    (hx : p.tables.exec = Jvm.exec) (hb : c.code = cc) (hr : meth.sig.returnType = some .boolean) (hlocks : meth.locks = false) (hP : va_P G vwCl wr H) (hD : va_D A wr) (hS : va_S A s.heap H locs) (d : decode cc pc = .ok (.ireturn, 1)) :
    W p l e R s m args below meth c H locs 0 0 Q (F0 m pc ls [.int r]) := by
  subst hQ; subst e1; subst e2; subst e0
  refine vx_ret (W.widen (k := 1) (n := 6) (by decide) (by decide) ?_)
  exact W.zret (v := r) hx hb hr (tk_znar rfl hz) (fun t ht hW => ⟨⟨r, (), rfl, ⟨rfl, rfl⟩, by rw [ht]; exact hP, hD⟩, hS.F ht⟩) hS.2.2 d
theorem tk_xrl {k0 : Int32} {r r0 : Int64} {wr : va_W} (hQ : Q = vx_MQ below (va_Ql (fun (r1 : Int64) (_ : Unit) => k0 = 0 ∧ r1 = r0) (tk_post G A ws') A) (tk_XC G A ws' k0) args s 1 6 A) (e0 : 0 = k0) (e1 : r = r0) (e2 : wr = ws')
    (hx : p.tables.exec = Jvm.exec) (hb : c.code = cc) (hr : meth.sig.returnType = some .long) (hlocks : meth.locks = false) (hP : va_P G vwCl wr H) (hD : va_D A wr) (hS : va_S A s.heap H locs) (d : decode cc pc = .ok (.lreturn, 1)) :
    W p l e R s m args below meth c H locs 0 0 Q (F0 m pc ls [.long r]) := by
  subst hQ; subst e1; subst e2; subst e0
  refine vx_ret (W.widen (k := 1) (n := 6) (by decide) (by decide) ?_)
  exact W.lret (v := r) hx hb hr (fun t ht hW => ⟨⟨r, (), rfl, ⟨rfl, rfl⟩, by rw [ht]; exact hP, hD⟩, hS.F ht⟩) hS.2.2 d
/-- 'throw new E("text")' in a method of the hall, nothing made before -/
theorem tk_throw {Qc : Array Value → State → Outcome → State → Prop} {k0 kk0 : Int32} {wr : va_W} {cls text : String} {ik is ic : Nat} (hQ : Q = vx_MQ below Qc (tk_XC G A ws' k0) args s 1 6 A) (e0 : kk0 = k0) (hk0 : kk0 ≠ 0) (hcls0 : cls = tk_ex kk0) (e2 : wr = ws')
    (hl : l.stackTraces = false) (hx : p.tables.exec = Jvm.exec) (hb : c.code = cc) (hown : s.vm.findClass RX6 = some m.cls)
    (hfit : Bundle.fit cls = true) (hk : (Cond.classLink RX6 ik cls).before args s = true) (hini : (Cond.initialized cls).before args s = true) (hE : tk_E G c3 s) (hst : (is, text) ∈ tk_strs)
    (hat : ∀ w ∈ (vx_atS RX6 ic cls ["java/lang/RuntimeException", "java/lang/Exception"]).filter goodWord, w.before args s = true)
    (hng : ∀ w ∈ (vx_atS RX6 ic cls ["java/lang/RuntimeException", "java/lang/Exception"]).filter (fun w => !goodWord w), w ∈ [tk_n14, tk_n15, tk_n16, .castable cls cls]) (hca : va_Nw (.castable cls cls) s)
    (hgood : ∀ w ∈ Cond.classLink RX6 ik cls :: Cond.initialized cls :: vx_atS RX6 ic cls ["java/lang/RuntimeException", "java/lang/Exception"], vx_ot w = true)
    (hZ : tk_Z A s s.heap) (hP : va_P G vwCl wr H) (hD : va_D A wr) (hS : va_S A s.heap H locs) (hsize : ls.size = c.maxLocals)
    (d0 : decode cc pc = .ok (.new ik, 3)) (d3 : decode cc (pc + 3) = .ok (.dup, 1)) (d4 : decode cc (pc + 4) = .ok (.ldc is, 2)) (d6 : decode cc (pc + 6) = .ok (.invokespecial ic, 3)) (d9 : decode cc (pc + 9) = .ok (.athrow, 1))
    (hout : ∀ x ∈ c.exceptionTable.toList, False) (hRf : 5 < R.frames) (hRl : 90 ≤ R.locals) (hRc : 1 ≤ R.cells) (hRs : 6 ≤ R.slots) (hlocks : meth.locks = false) :
    W p l e R s m args below meth c H locs 0 0 Q (F0 m pc ls []) := by
  subst hQ; subst e2; subst e0
  obtain ⟨sa, hstr⟩ := hE.2.2 _ hst
  refine vx_throwS (names := ["java/lang/RuntimeException", "java/lang/Exception"]) (text := text) (sa := sa) hx hb hl hown hfit (by decide +kernel) hk hini hstr
    (vx_hat hat (B := [tk_n14, tk_n15, tk_n16, .castable cls cls]) hng (vx_c (va_Nw.use rfl hE.2.1.2.2.2.2.2.2.2.2.2.2.2.2.2.1) (vx_c (va_Nw.use rfl hE.2.1.2.2.2.2.2.2.2.2.2.2.2.2.2.2.1) (vx_c (va_Nw.use rfl hE.2.1.2.2.2.2.2.2.2.2.2.2.2.2.2.2.2) (vx_c (va_Nw.use rfl hca) vx_n))))) hgood hZ.1 hZ.2 hS hsize d0 d3 d4 d6 d9 (fun x hx => (hout x hx).elim)
    (by simpa using hRf) (by simpa using (Nat.le_trans (by decide) hRl)) (by simpa using hRc) (by simpa using hRs) hlocks (fun t hvm hz hq => ?_) hS.2.2 (by decide) (by decide)
  have hlt : ∀ (k : Nat) (q : Nat × va_E), wr[k]? = some q → q.1 < H.size := fun k q hq => (hP k q hq).lt
  refine ⟨(), hk0, ⟨hcls0, hP.kept (fun k q hk => hq q.1 (hlt k q hk)), hD⟩, Nat.le_trans hS.1 hz, fun q h1 h2 => ?_⟩
  rw [hq q (Nat.lt_of_lt_of_le h1 hS.1)]
  exact hS.2.1 q h1 h2
/-- 'throw new E("text")' in a method of the hall, the text by a wide index -/
theorem tk_throwW {Qc : Array Value → State → Outcome → State → Prop} {k0 kk0 : Int32} {wr : va_W} {cls text : String} {ik is ic : Nat} (hQ : Q = vx_MQ below Qc (tk_XC G A ws' k0) args s 1 6 A) (e0 : kk0 = k0) (hk0 : kk0 ≠ 0) (hcls0 : cls = tk_ex kk0) (e2 : wr = ws')
    (hl : l.stackTraces = false) (hx : p.tables.exec = Jvm.exec) (hb : c.code = cc) (hown : s.vm.findClass RX6 = some m.cls)
    (hfit : Bundle.fit cls = true) (hk : (Cond.classLink RX6 ik cls).before args s = true) (hini : (Cond.initialized cls).before args s = true) (hE : tk_E G c3 s) (hst : (is, text) ∈ tk_strs)
    (hat : ∀ w ∈ (vx_atS RX6 ic cls ["java/lang/RuntimeException", "java/lang/Exception"]).filter goodWord, w.before args s = true)
    (hng : ∀ w ∈ (vx_atS RX6 ic cls ["java/lang/RuntimeException", "java/lang/Exception"]).filter (fun w => !goodWord w), w ∈ [tk_n14, tk_n15, tk_n16, .castable cls cls]) (hca : va_Nw (.castable cls cls) s)
    (hgood : ∀ w ∈ Cond.classLink RX6 ik cls :: Cond.initialized cls :: vx_atS RX6 ic cls ["java/lang/RuntimeException", "java/lang/Exception"], vx_ot w = true)
    (hZ : tk_Z A s s.heap) (hP : va_P G vwCl wr H) (hD : va_D A wr) (hS : va_S A s.heap H locs) (hsize : ls.size = c.maxLocals)
    (d0 : decode cc pc = .ok (.new ik, 3)) (d3 : decode cc (pc + 3) = .ok (.dup, 1)) (d4 : decode cc (pc + 4) = .ok (.ldc_w is, 3)) (d6 : decode cc (pc + 7) = .ok (.invokespecial ic, 3)) (d9 : decode cc (pc + 10) = .ok (.athrow, 1))
    (hout : ∀ x ∈ c.exceptionTable.toList, False) (hRf : 5 < R.frames) (hRl : 90 ≤ R.locals) (hRc : 1 ≤ R.cells) (hRs : 6 ≤ R.slots) (hlocks : meth.locks = false) :
    W p l e R s m args below meth c H locs 0 0 Q (F0 m pc ls []) := by
  subst hQ; subst e2; subst e0
  obtain ⟨sa, hstr⟩ := hE.2.2 _ hst
  refine vx_throwSW (names := ["java/lang/RuntimeException", "java/lang/Exception"]) (text := text) (sa := sa) hx hb hl hown hfit (by decide +kernel) hk hini hstr
    (vx_hat hat (B := [tk_n14, tk_n15, tk_n16, .castable cls cls]) hng (vx_c (va_Nw.use rfl hE.2.1.2.2.2.2.2.2.2.2.2.2.2.2.2.1) (vx_c (va_Nw.use rfl hE.2.1.2.2.2.2.2.2.2.2.2.2.2.2.2.2.1) (vx_c (va_Nw.use rfl hE.2.1.2.2.2.2.2.2.2.2.2.2.2.2.2.2.2) (vx_c (va_Nw.use rfl hca) vx_n))))) hgood hZ.1 hZ.2 hS hsize d0 d3 d4 d6 d9 (fun x hx => (hout x hx).elim)
    (by simpa using hRf) (by simpa using (Nat.le_trans (by decide) hRl)) (by simpa using hRc) (by simpa using hRs) hlocks (fun t hvm hz hq => ?_) hS.2.2 (by decide) (by decide)
  have hlt : ∀ (k : Nat) (q : Nat × va_E), wr[k]? = some q → q.1 < H.size := fun k q hq => (hP k q hq).lt
  refine ⟨(), hk0, ⟨hcls0, hP.kept (fun k q hk => hq q.1 (hlt k q hk)), hD⟩, Nat.le_trans hS.1 hz, fun q h1 h2 => ?_⟩
  rw [hq q (Nat.lt_of_lt_of_le h1 hS.1)]
  exact hS.2.1 q h1 h2
theorem tk_irem (hx : p.tables.exec = Jvm.exec) (hb : c.code = cc) {x y : Int32} (hdg : decode cc pc = .ok (.irem, 1)) (hne : ¬ y = 0)
    (k : W p l e R s m args below meth c H locs cells slots Q (F0 m (pc + 1) ls (.int (tk_rem x y) :: rest))) : W p l e R s m args below meth c H locs cells slots Q (F0 m pc ls (.int y :: .int x :: rest)) := lv_irem hx hb hdg hne k
theorem tk_zast {D : va_G} {cl : List vw_C} {tys : List (ClassId × FieldType)} {b : Nat} (hexec : p.tables.exec = Jvm.exec) (hb : c.code = cc) (hK : va_K D cl tys s) (hP : va_P D cl ws H) (hD : va_D A ws) (hS : va_S A H0 H locs) (q0 t0 : Nat) {cA : ClassId} {n : Nat} {f : Nat → Int32} (ha : ws[q0]? = some (b, .inl (cA, n, .inl f))) (ht : tys[t0]? = some (cA, .boolean)) {i : Int32} {x v : Int32} (hv : vp_nar .boolean x = v) (hin : vp_in i n) (hdg : decode cc pc = .ok (.bastore, 1))
    (kk : ∀ (H1 : Heap) (locs1 : List Loc), va_P D cl (ws.set q0 (b, .inl (cA, n, .inl (upd f i.toNatClampNeg v)))) H1 → va_D A (ws.set q0 (b, .inl (cA, n, .inl (upd f i.toNatClampNeg v)))) → va_S A H0 H1 locs1 → W p l e R s m args below meth c H1 locs1 cells slots Q (F0 m (pc + 1) ls rest)) : W p l e R s m args below meth c H locs cells slots Q (F0 m pc ls (.int x :: .int i :: .ref b :: rest)) := by
  subst hv
  exact va_zast hexec hb hK hP hD hS q0 t0 ha ht hin hdg kk
end TKC
theorem tk_s1 {α : Type} {a b : α} (h : some a = some b) : a = b := Option.some.inj h
theorem tk_s2 {α β : Type} {a c : α} {b d : β} (h : some (a, b) = some (c, d)) : a = c ∧ b = d := by cases h; exact ⟨rfl, rfl⟩
theorem tk_s3 {α β γ : Type} {a c : α} {b d : β} {x y : γ} (h : some (a, b, x) = some (c, d, y)) : a = c ∧ b = d ∧ x = y := by cases h; exact ⟨rfl, rfl, rfl⟩
section TKO
variable {l : Launch} {y : MethodName} {ws ws' : List Cond} {rm : Room} {G : va_G} {c3 : ClassId × ClassId × ClassId} {av : List Value} {w0 w1 : va_W} {cc : ByteArray} {maxL : Nat} {ret : Option FieldType}
/-- what a body has at its start -/
abbrev tk_B0 (l : Launch) (ws : List Cond) (rm : Room) (y : MethodName) (G : va_G) (c3 : ClassId × ClassId × ClassId) (av : List Value) (w0 : va_W) (cc : ByteArray) (maxL : Nat) (ret : Option FieldType) (E : (c : Code) → (A : Nat → Prop) → (s : State) → Prop) (MQf : List Frame → State → (Nat → Prop) → State → Prop) : Prop :=
  ∀ (p : Program) (e : Env) (s : State) (m : MethodId) (below : List Frame) (meth : Method) (c : Code) (A : Nat → Prop) (Q : State → Prop) (ls : Array Slot) (H : Heap) (locs : List Loc), p.tables.exec = Jvm.exec → c.code = cc → c.maxLocals = maxL → meth.sig.returnType = ret → (∀ w ∈ ws, w.before av.toArray s = true) → s.vm.findClass y.cls = some m.cls → meth.locks = false → tk_E G c3 s → (∀ q : Nat, s.heap.size ≤ q → A q) → va_P G vwCl w0 H → va_D A w0 → va_S A s.heap H locs → E c A s → Q = MQf below s A → lv_has ls maxL (lv_args 0 av) → W p l e rm s m av.toArray below meth c H locs 0 0 Q (F0 m 0 ls [])
theorem tk_ofi {r0 : Int32} (hy : plainName y.cls = true) (hw : ws = Cond.code y cc maxL ret :: ws') (hn : (lg_sl av).length ≤ maxL)
    (body : tk_B0 l ws rm y G c3 av w0 cc maxL ret (fun _ _ _ => True) (fun below s A => MQ below (va_Qi (fun (r1 : Int32) (_ : Unit) => r1 = r0) (tk_post G A w1) A) av.toArray s 0 0 A)) : tk_Mi l y ws rm G c3 av w0 w1 r0 := by
  intro sz
  refine Met.ofW (cc := cc) (maxL := maxL) (ret := ret) hy hw ?_
  intro p e s m args below meth c s₁ B hml hv
  obtain ⟨rfl, hsz, hP, hE, hD0⟩ := hv
  subst hsz
  have hD := hD0.self (sz := s.heap.size)
  have hl := lv_entry av (n := maxL) hn
  rw [lg_entry_eq]
  exact body p e s m below meth c _ _ _ _ _ B.exec B.bytes hml B.returns (atoms_spec (ws := ws) B.pre) (findClass_of_methodNamed B.named) B.notSynchronized hE (fun q h => Or.inr h) hP hD va_S.rf trivial rfl hl
theorem tk_ofl {r0 : Int64} (hy : plainName y.cls = true) (hw : ws = Cond.code y cc maxL ret :: ws') (hn : (lg_sl av).length ≤ maxL)
    (body : tk_B0 l ws rm y G c3 av w0 cc maxL ret (fun _ _ _ => True) (fun below s A => MQ below (va_Ql (fun (r1 : Int64) (_ : Unit) => r1 = r0) (tk_post G A w1) A) av.toArray s 0 0 A)) : tk_Ml l y ws rm G c3 av w0 w1 r0 := by
  intro sz
  refine Met.ofW (cc := cc) (maxL := maxL) (ret := ret) hy hw ?_
  intro p e s m args below meth c s₁ B hml hv
  obtain ⟨rfl, hsz, hP, hE, hD0⟩ := hv
  subst hsz
  have hD := hD0.self (sz := s.heap.size)
  have hl := lv_entry av (n := maxL) hn
  rw [lg_entry_eq]
  exact body p e s m below meth c _ _ _ _ _ B.exec B.bytes hml B.returns (atoms_spec (ws := ws) B.pre) (findClass_of_methodNamed B.named) B.notSynchronized hE (fun q h => Or.inr h) hP hD va_S.rf trivial rfl hl
theorem tk_ofv (hy : plainName y.cls = true) (hw : ws = Cond.code y cc maxL ret :: ws') (hn : (lg_sl av).length ≤ maxL)
    (body : tk_B0 l ws rm y G c3 av w0 cc maxL ret (fun _ _ _ => True) (fun below s A => MQ below (va_Qv (fun (_ : Unit) => True) (tk_post G A w1) A) av.toArray s 0 0 A)) : tk_Mv l y ws rm G c3 av w0 w1 := by
  intro sz
  refine Met.ofW (cc := cc) (maxL := maxL) (ret := ret) hy hw ?_
  intro p e s m args below meth c s₁ B hml hv
  obtain ⟨rfl, hsz, hP, hE, hD0⟩ := hv
  subst hsz
  have hD := hD0.self (sz := s.heap.size)
  have hl := lv_entry av (n := maxL) hn
  rw [lg_entry_eq]
  exact body p e s m below meth c _ _ _ _ _ B.exec B.bytes hml B.returns (atoms_spec (ws := ws) B.pre) (findClass_of_methodNamed B.named) B.notSynchronized hE (fun q h => Or.inr h) hP hD va_S.rf trivial rfl hl
abbrev tk_EX (c : Code) (A : Nat → Prop) (s : State) : Prop := tk_Z A s s.heap ∧ ∀ x ∈ c.exceptionTable.toList, False
theorem tk_ofXi {k0 r0 : Int32} (hy : plainName y.cls = true) (hw : ws = Cond.code y cc maxL ret :: ws') (hn : (lg_sl av).length ≤ maxL)
    (body : tk_B0 l ws rm y G c3 av w0 cc maxL ret tk_EX (fun below s A => vx_MQ below (va_Qi (fun (r1 : Int32) (_ : Unit) => k0 = 0 ∧ r1 = r0) (tk_post G A w1) A) (tk_XC G A w1 k0) av.toArray s 1 6 A)) : tk_Xi l y ws rm G c3 av w0 w1 k0 r0 := by
  intro sz
  refine vx_ofW (cc := cc) (maxL := maxL) (ret := ret) hy hw ?_
  intro p e s m args below meth c s₁ B hml hout hv
  obtain ⟨rfl, ⟨hsz, hP, hE, hD0⟩, hZ⟩ := hv
  subst hsz
  have hD := hD0.self (sz := s.heap.size)
  have hl := lv_entry av (n := maxL) hn
  rw [lg_entry_eq]
  exact body p e s m below meth c _ _ _ _ _ B.exec B.bytes hml B.returns (atoms_spec (ws := ws) B.pre) (findClass_of_methodNamed B.named) B.notSynchronized hE (fun q h => Or.inr h) hP hD va_S.rf ⟨hZ, hout⟩ rfl hl
theorem tk_ofXl {k0 : Int32} {r0 : Int64} (hy : plainName y.cls = true) (hw : ws = Cond.code y cc maxL ret :: ws') (hn : (lg_sl av).length ≤ maxL)
    (body : tk_B0 l ws rm y G c3 av w0 cc maxL ret tk_EX (fun below s A => vx_MQ below (va_Ql (fun (r1 : Int64) (_ : Unit) => k0 = 0 ∧ r1 = r0) (tk_post G A w1) A) (tk_XC G A w1 k0) av.toArray s 1 6 A)) : tk_Xl l y ws rm G c3 av w0 w1 k0 r0 := by
  intro sz
  refine vx_ofW (cc := cc) (maxL := maxL) (ret := ret) hy hw ?_
  intro p e s m args below meth c s₁ B hml hout hv
  obtain ⟨rfl, ⟨hsz, hP, hE, hD0⟩, hZ⟩ := hv
  subst hsz
  have hD := hD0.self (sz := s.heap.size)
  have hl := lv_entry av (n := maxL) hn
  rw [lg_entry_eq]
  exact body p e s m below meth c _ _ _ _ _ B.exec B.bytes hml B.returns (atoms_spec (ws := ws) B.pre) (findClass_of_methodNamed B.named) B.notSynchronized hE (fun q h => Or.inr h) hP hD va_S.rf ⟨hZ, hout⟩ rfl hl
end TKO
