section
-- ===== PART A: goes FIRST, ahead of the names: the tables' words, and 'selects' of the private methods out of them =====
/-- a private method of a class that the tables say can be made, by its rows of tables_1 -/
def lw_okq (q : MethodName × Nat) : Prop := (q.1.cls ≠ "java/lang/invoke/MethodHandle" ∧ q.1.cls ≠ "java/lang/invoke/VarHandle") ∧ Cond.instantiable q.1.cls q.2 ∈ tables_1 ∧ Cond.privateMethod q.1 ∈ tables_1 ∧ Cond.instanceMethod q.1 ∈ tables_1
theorem lw_p0 : lw_okq (⟨"java/lang/Throwable", "fillInStackTrace", "(I)Ljava/lang/Throwable;"⟩, 6) := ⟨⟨by decide +kernel, by decide +kernel⟩, List.mem_of_getElem? (i := 217) (by decide +kernel), List.mem_of_getElem? (i := 215) (by decide +kernel), List.mem_of_getElem? (i := 216) (by decide +kernel)⟩
theorem lw_p1 : lw_okq (⟨"TarockHall", "clearDeal", "()V"⟩, 18) := ⟨⟨by decide +kernel, by decide +kernel⟩, List.mem_of_getElem? (i := 17) (by decide +kernel), List.mem_of_getElem? (i := 266) (by decide +kernel), List.mem_of_getElem? (i := 267) (by decide +kernel)⟩
theorem lw_p2 : lw_okq (⟨"TarockHall$Deck", "swap", "(II)V"⟩, 1) := ⟨⟨by decide +kernel, by decide +kernel⟩, List.mem_of_getElem? (i := 25) (by decide +kernel), List.mem_of_getElem? (i := 291) (by decide +kernel), List.mem_of_getElem? (i := 292) (by decide +kernel)⟩
theorem lw_p3 : lw_okq (⟨"TarockHall", "handOut", "()V"⟩, 18) := ⟨⟨by decide +kernel, by decide +kernel⟩, List.mem_of_getElem? (i := 17) (by decide +kernel), List.mem_of_getElem? (i := 299) (by decide +kernel), List.mem_of_getElem? (i := 300) (by decide +kernel)⟩
theorem lw_p4 : lw_okq (⟨"TarockHall", "calledKing", "()I"⟩, 18) := ⟨⟨by decide +kernel, by decide +kernel⟩, List.mem_of_getElem? (i := 17) (by decide +kernel), List.mem_of_getElem? (i := 331) (by decide +kernel), List.mem_of_getElem? (i := 332) (by decide +kernel)⟩
theorem lw_p5 : lw_okq (⟨"TarockHall", "ownerOf", "(I)I"⟩, 18) := ⟨⟨by decide +kernel, by decide +kernel⟩, List.mem_of_getElem? (i := 17) (by decide +kernel), List.mem_of_getElem? (i := 335) (by decide +kernel), List.mem_of_getElem? (i := 336) (by decide +kernel)⟩
theorem lw_p6 : lw_okq (⟨"TarockHall", "groupsNow", "()I"⟩, 18) := ⟨⟨by decide +kernel, by decide +kernel⟩, List.mem_of_getElem? (i := 17) (by decide +kernel), List.mem_of_getElem? (i := 350) (by decide +kernel), List.mem_of_getElem? (i := 351) (by decide +kernel)⟩
theorem lw_p7 : lw_okq (⟨"TarockHall", "playableNow", "()J"⟩, 18) := ⟨⟨by decide +kernel, by decide +kernel⟩, List.mem_of_getElem? (i := 17) (by decide +kernel), List.mem_of_getElem? (i := 369) (by decide +kernel), List.mem_of_getElem? (i := 370) (by decide +kernel)⟩
theorem lw_p8 : lw_okq (⟨"TarockHall", "addToTrick", "(I)I"⟩, 18) := ⟨⟨by decide +kernel, by decide +kernel⟩, List.mem_of_getElem? (i := 17) (by decide +kernel), List.mem_of_getElem? (i := 392) (by decide +kernel), List.mem_of_getElem? (i := 393) (by decide +kernel)⟩
theorem lw_p9 : lw_okq (⟨"TarockHall$Trick", "playerAt", "(I)I"⟩, 3) := ⟨⟨by decide +kernel, by decide +kernel⟩, List.mem_of_getElem? (i := 67) (by decide +kernel), List.mem_of_getElem? (i := 409) (by decide +kernel), List.mem_of_getElem? (i := 410) (by decide +kernel)⟩
theorem lw_p10 : lw_okq (⟨"TarockHall", "endTrick", "(I)V"⟩, 18) := ⟨⟨by decide +kernel, by decide +kernel⟩, List.mem_of_getElem? (i := 17) (by decide +kernel), List.mem_of_getElem? (i := 413) (by decide +kernel), List.mem_of_getElem? (i := 414) (by decide +kernel)⟩
theorem lw_p11 : lw_okq (⟨"TarockHall", "sideOf", "(I)I"⟩, 18) := ⟨⟨by decide +kernel, by decide +kernel⟩, List.mem_of_getElem? (i := 17) (by decide +kernel), List.mem_of_getElem? (i := 417) (by decide +kernel), List.mem_of_getElem? (i := 418) (by decide +kernel)⟩
theorem lw_p12 : lw_okq (⟨"TarockHall", "enterResult", "(I)V"⟩, 18) := ⟨⟨by decide +kernel, by decide +kernel⟩, List.mem_of_getElem? (i := 17) (by decide +kernel), List.mem_of_getElem? (i := 426) (by decide +kernel), List.mem_of_getElem? (i := 427) (by decide +kernel)⟩
theorem lw_p13 : lw_okq (⟨"TarockHall", "pagatPoints", "(I)I"⟩, 18) := ⟨⟨by decide +kernel, by decide +kernel⟩, List.mem_of_getElem? (i := 17) (by decide +kernel), List.mem_of_getElem? (i := 449) (by decide +kernel), List.mem_of_getElem? (i := 450) (by decide +kernel)⟩
theorem lw_p14 : lw_okq (⟨"TarockHall", "isAnnounced", "(I)Z"⟩, 18) := ⟨⟨by decide +kernel, by decide +kernel⟩, List.mem_of_getElem? (i := 17) (by decide +kernel), List.mem_of_getElem? (i := 457) (by decide +kernel), List.mem_of_getElem? (i := 458) (by decide +kernel)⟩
theorem lw_p15 : lw_okq (⟨"TarockHall", "kingPoints", "(I)I"⟩, 18) := ⟨⟨by decide +kernel, by decide +kernel⟩, List.mem_of_getElem? (i := 17) (by decide +kernel), List.mem_of_getElem? (i := 461) (by decide +kernel), List.mem_of_getElem? (i := 462) (by decide +kernel)⟩
def lw_privs_1 : List (MethodName × Nat) := [(⟨"java/lang/Throwable", "fillInStackTrace", "(I)Ljava/lang/Throwable;"⟩, 6), (⟨"TarockHall", "clearDeal", "()V"⟩, 18), (⟨"TarockHall$Deck", "swap", "(II)V"⟩, 1), (⟨"TarockHall", "handOut", "()V"⟩, 18), (⟨"TarockHall", "calledKing", "()I"⟩, 18), (⟨"TarockHall", "ownerOf", "(I)I"⟩, 18), (⟨"TarockHall", "groupsNow", "()I"⟩, 18), (⟨"TarockHall", "playableNow", "()J"⟩, 18), (⟨"TarockHall", "addToTrick", "(I)I"⟩, 18), (⟨"TarockHall$Trick", "playerAt", "(I)I"⟩, 3), (⟨"TarockHall", "endTrick", "(I)V"⟩, 18), (⟨"TarockHall", "sideOf", "(I)I"⟩, 18), (⟨"TarockHall", "enterResult", "(I)V"⟩, 18), (⟨"TarockHall", "pagatPoints", "(I)I"⟩, 18), (⟨"TarockHall", "isAnnounced", "(I)Z"⟩, 18), (⟨"TarockHall", "kingPoints", "(I)I"⟩, 18)]
theorem lw_r1 : ∀ q ∈ lw_privs_1, lw_okq q := List.forall_mem_cons.mpr ⟨lw_p0, List.forall_mem_cons.mpr ⟨lw_p1, List.forall_mem_cons.mpr ⟨lw_p2, List.forall_mem_cons.mpr ⟨lw_p3, List.forall_mem_cons.mpr ⟨lw_p4, List.forall_mem_cons.mpr ⟨lw_p5, List.forall_mem_cons.mpr ⟨lw_p6, List.forall_mem_cons.mpr ⟨lw_p7, List.forall_mem_cons.mpr ⟨lw_p8, List.forall_mem_cons.mpr ⟨lw_p9, List.forall_mem_cons.mpr ⟨lw_p10, List.forall_mem_cons.mpr ⟨lw_p11, List.forall_mem_cons.mpr ⟨lw_p12, List.forall_mem_cons.mpr ⟨lw_p13, List.forall_mem_cons.mpr ⟨lw_p14, List.forall_mem_cons.mpr ⟨lw_p15, fun _ h => absurd h List.not_mem_nil⟩⟩⟩⟩⟩⟩⟩⟩⟩⟩⟩⟩⟩⟩⟩⟩
theorem lw_p16 : lw_okq (⟨"TarockHall$Sheet", "addScore", "(I)V"⟩, 3) := ⟨⟨by decide +kernel, by decide +kernel⟩, List.mem_of_getElem? (i := 86) (by decide +kernel), List.mem_of_getElem? (i := 471) (by decide +kernel), List.mem_of_getElem? (i := 472) (by decide +kernel)⟩
theorem lw_p17 : lw_okq (⟨"TarockHall", "endDeal", "()V"⟩, 18) := ⟨⟨by decide +kernel, by decide +kernel⟩, List.mem_of_getElem? (i := 17) (by decide +kernel), List.mem_of_getElem? (i := 479) (by decide +kernel), List.mem_of_getElem? (i := 480) (by decide +kernel)⟩
theorem lw_p18 : lw_okq (⟨"TarockHall", "beginGame", "()V"⟩, 18) := ⟨⟨by decide +kernel, by decide +kernel⟩, List.mem_of_getElem? (i := 17) (by decide +kernel), List.mem_of_getElem? (i := 587) (by decide +kernel), List.mem_of_getElem? (i := 588) (by decide +kernel)⟩
theorem lw_p19 : lw_okq (⟨"TarockHall", "beginPlay", "()V"⟩, 18) := ⟨⟨by decide +kernel, by decide +kernel⟩, List.mem_of_getElem? (i := 17) (by decide +kernel), List.mem_of_getElem? (i := 591) (by decide +kernel), List.mem_of_getElem? (i := 592) (by decide +kernel)⟩
theorem lw_p20 : lw_okq (⟨"TarockHall$Bidding", "hasPassed", "(I)Z"⟩, 3) := ⟨⟨by decide +kernel, by decide +kernel⟩, List.mem_of_getElem? (i := 49) (by decide +kernel), List.mem_of_getElem? (i := 600) (by decide +kernel), List.mem_of_getElem? (i := 601) (by decide +kernel)⟩
theorem lw_p21 : lw_okq (⟨"TarockHall", "sidesAreOpen", "()Z"⟩, 18) := ⟨⟨by decide +kernel, by decide +kernel⟩, List.mem_of_getElem? (i := 17) (by decide +kernel), List.mem_of_getElem? (i := 667) (by decide +kernel), List.mem_of_getElem? (i := 668) (by decide +kernel)⟩
def lw_privs_2 : List (MethodName × Nat) := [(⟨"TarockHall$Sheet", "addScore", "(I)V"⟩, 3), (⟨"TarockHall", "endDeal", "()V"⟩, 18), (⟨"TarockHall", "beginGame", "()V"⟩, 18), (⟨"TarockHall", "beginPlay", "()V"⟩, 18), (⟨"TarockHall$Bidding", "hasPassed", "(I)Z"⟩, 3), (⟨"TarockHall", "sidesAreOpen", "()Z"⟩, 18)]
theorem lw_r2 : ∀ q ∈ lw_privs_2, lw_okq q := List.forall_mem_cons.mpr ⟨lw_p16, List.forall_mem_cons.mpr ⟨lw_p17, List.forall_mem_cons.mpr ⟨lw_p18, List.forall_mem_cons.mpr ⟨lw_p19, List.forall_mem_cons.mpr ⟨lw_p20, List.forall_mem_cons.mpr ⟨lw_p21, fun _ h => absurd h List.not_mem_nil⟩⟩⟩⟩⟩⟩
def lw_privs : List (MethodName × Nat) := lw_privs_1 ++ (lw_privs_2)
def lw_tbl : List Cond := k2_sels lw_privs ++ tables_1
theorem lw_privs_ok : ∀ q ∈ lw_privs, lw_okq q := by
  show ∀ q ∈ lw_privs_1 ++ (lw_privs_2), lw_okq q
  exact List.forall_mem_append.mpr ⟨lw_r1, lw_r2⟩
-- ===== end of PART A; then your names; then what follows =====
/-! ===== BEGIN words of one list among another's, by their places ===== -/
theorem goodIn_r {big : List Cond} (ws : List Cond) (ps : List Nat) (hp : ws = ps.filterMap (fun i => big[i]?)) (h : ws.all goodWord = true) : GoodIn big ws := by
  intro w hw
  have h1 := List.all_eq_true.mp h w hw
  rw [hp] at hw
  obtain ⟨i, -, hi⟩ := List.mem_filterMap.mp hw
  have hm : w ∈ big := by first | exact List.mem_of_getElem? hi | exact List.getElem?_mem hi
  exact ⟨hm, good_of_word h1⟩
theorem goodIn_app {big a b : List Cond} (ha : GoodIn big a) (hb : GoodIn big b) : GoodIn big (a ++ b) := fun w h => (List.mem_append.mp h).elim (ha w) (hb w)
theorem goodIn_ca {big a b : List Cond} {c : Cond} (ha : GoodIn big (c :: a)) (hb : GoodIn big b) : GoodIn big (c :: (a ++ b)) := fun w h => (List.mem_cons.mp h).elim (fun e => ha w (List.mem_cons.mpr (Or.inl e))) (fun h => (List.mem_append.mp h).elim (fun h => ha w (List.mem_cons.mpr (Or.inr h))) (hb w))
theorem goodIn_sub {big ws : List Cond} (hm : ∀ w ∈ ws, w ∈ big) (h : ws.all goodWord = true) : GoodIn big ws := fun w hw => ⟨hm w hw, good_of_word (List.all_eq_true.mp h w hw)⟩
/-! ===== END ===== -/

/-! ===== BEGIN exceptions that leave a method, and their catching by the caller (launches without stack traces) ===== -/
section VXA
/-! The laws vx_back, vx_callV, vx_callS, vx_callSW, vx_throw0, vx_throwS follow proofs of the library, with one case more: JvmDerived/Free/Laws.lean (Back.of_free), Shelf42/LK1.lean (callV, callS), Shelf/KitTraced.lean (throwNew0V, throwNewS). -/
/-- where a method has thrown q: the class by its name, the cell, what was written, the world -/
def vx_T (XC : String → State → State → Prop) (st : State) (q : Addr) (t : State) (mc ms : Nat) (free : Addr → Prop) : Prop :=
  ∃ (E : String) (ce : Cell) (L : List Loc), XC E st t ∧ t.heap[q]? = some ce ∧ ce.vm = .none ∧ st.vm.findClass E = some ce.cls ∧ st.WarmedH t.vm ∧ st.sameButNew ({ t with vm := st.vm } : State) L mc ms ∧ ∀ z ∈ L, free z.base
def vx_Q (Qc : Array Value → State → Outcome → State → Prop) (XC : String → State → State → Prop) (mc ms : Nat) (free : Addr → Prop) : Array Value → State → Outcome → State → Prop := fun a st o t =>
  (Qc a st o t ∧ ∃ L, FrameEnd st o t L mc ms ∧ ∀ q ∈ L, free q.base) ∨ ∃ q, o = .threw q ∧ vx_T XC st q t mc ms free
/-- a callee that returns or throws -/
def vx_Met (l : Launch) (y : MethodName) (ws : List Cond) (rm : Room) (Pc : Array Value → State → Prop) (Qc : Array Value → State → Outcome → State → Prop) (XC : String → State → State → Prop) (mc ms : Nat) (free : Addr → Prop) : Prop :=
  MetFree l y (headSpec ws rm) Pc (fun _ _ _ _ _ => True) (vx_Q Qc XC mc ms free)
def vx_Post (XC : String → State → State → Prop) (mc ms : Nat) (free : Addr → Prop) : Pt → Array Value → Addr → Pt → Prop := fun A a q B =>
  ∃ (g : JFrame) (mk : MethodId) (t : State) (L : List Loc) (E : String) (ce : Cell), B.U.heap = t.heap ∧ B.U.vm = t.vm ∧ XC E (A.U.calling g mk a) t ∧ t.heap[q]? = some ce ∧ ce.vm = .none ∧ A.U.vm.findClass E = some ce.cls ∧ B.locs = A.locs ++ L ∧ (∀ z ∈ L, free z.base) ∧ B.cells = A.cells + mc ∧ B.slots = A.slots + ms
def vx_Back (l : Launch) (R : Room) (p : Program) (e : Env) (below : List Frame) (s : State) (sargs : Array Value) (y : MethodName) (len W9 : Nat)
    (Pre : Pt → Array Value → Prop) (Post : Pt → Array Value → Option Value → Pt → Prop) (PostX : Pt → Array Value → Addr → Pt → Prop) : Prop :=
  ∀ (m : MethodId) (meth : Method) (c : Code) (A : Pt) (g : JFrame) (ig : Instr) (mk : MethodId) (a : Array Value),
    Stand p l e R s m sargs below meth c A.U A.locs A.cells A.slots → g.method = m → g.locals.size = c.maxLocals → decode c.code g.pc = .ok (ig, len) →
    2 * g.monitorRoom + (g.stack.map fun v => v.category).sum ≤ W9 → A.U.methodNamed? y = some mk → Pre A a →
    (∃ (v : Option Value) (B : Pt), Stand p l e R s m sargs below meth c B.U B.locs B.cells B.slots ∧ Post A a v B ∧
      Steps p.tables e below (doInvoke e (A.U.setTop g) [] mk a).1 (B.U.setTop { g with pc := g.pc + len, stack := v.toList ++ g.stack })) ∨
    (∃ (q : Addr) (B : Pt), Stand p l e R s m sargs below meth c B.U B.locs B.cells B.slots ∧ PostX A a q B ∧
      Steps p.tables e below (doInvoke e (A.U.setTop g) [] mk a).1 ((B.U.setTop g).pushFrame (.throwing q)))
section Payer
variable {l : Launch} {R : Room} {p : Program} {e : Env} {below : List Frame} {s : State} {sargs : Array Value} {y : MethodName} {len W9 : Nat}
theorem vx_back {ws : List Cond} {rm : Room} {Pc : Array Value → State → Prop} {Qc : Array Value → State → Outcome → State → Prop} {XC : String → State → State → Prop} {mc ms : Nat} {free : Addr → Prop} {bytes : ByteArray} {maxL : Nat} {ret : Option FieldType}
    (hM : vx_Met l y ws rm Pc Qc XC mc ms free) (hblind : FrameBlind Pc) (hrc : rm.cells = mc) (hrs : rm.slots = ms)
    (hframes : rm.frames + 1 ≤ R.frames) (hlocals : W9 + (maxL + 11) + rm.locals ≤ R.locals)
    (hws : ∀ w ∈ ws, ∀ a' U, s.WarmedH U.vm → w.before a' U = true) (hcode : Cond.code y bytes maxL ret ∈ ws) (hinit : ∀ a' U, s.WarmedH U.vm → (Cond.initialized y.cls).before a' U = true) :
    vx_Back l R p e below s sargs y len W9 (PreOf R mc ms Pc) (PostOf Qc mc ms free) (vx_Post XC mc ms free) := by
  intro m meth c A g ig mk a X hg hsize hdg hW hn hp
  have h1 : (headSpec ws rm).pre.before a A.U = true := atoms_intro fun w hw => hws w hw _ _ X.warmed
  have h2 : (Cond.code y bytes maxL ret).before a A.U = true := hws _ hcode _ _ X.warmed
  have h3 : (Cond.initialized y.cls).before a A.U = true := hinit _ _ X.warmed
  have h4 : A.cells + (headSpec ws rm).room.cells ≤ R.cells := by rw [show (headSpec ws rm).room.cells = mc from hrc]; exact hp.1
  have h5 : A.slots + (headSpec ws rm).room.slots ≤ R.slots := by rw [show (headSpec ws rm).room.slots = ms from hrs]; exact hp.2.1
  have hPc : Pc a (A.U.calling g mk a) := hblind _ _ _ _ hp.2.2
  obtain ⟨U, Ls, c0, s0⟩ := A
  dsimp only [Pt.U, Pt.locs, Pt.cells, Pt.slots] at h1 h2 h3 h4 h5 X hn hPc ⊢
  obtain ⟨methY, cY, hmY, hcY, -, hlY, -, -, -, -⟩ := Cond.code_spec hn h2
  obtain ⟨kY, hkY, -⟩ := className_of_methodNamed hn
  have hinitY : kY.init = .initialized := Cond.initialized_spec (findClass_of_methodNamed hn) hkY h3
  have h : At U g.method c below := by rw [hg]; exact X.here
  have hlocals9 : W9 + (maxL + 11) + (headSpec ws rm).room.locals ≤ R.locals := hlocals
  have happ : (headSpec ws rm).appliesLoose y e.platform (U.calling g mk a) = true :=
    Spec.appliesLoose_calling (g := g) h hdg hn hkY hinitY
      (X.room_calling (g := g) (R' := (headSpec ws rm).room) hsize hmY hcY hframes (by rw [hlY]; omega) h4 h5) h1
  obtain ⟨mid, hmid⟩ := h.above
  have hfr : (U.setTop g).frames = (.java g :: mid) ++ below := by rw [State.frames_setTop' g h.top, hmid]; rfl
  obtain ⟨o, s₂, hsteps, -, hend, hq⟩ := Steps.callFree hM p X.admits X.cas X.clock (acts := []) hfr happ hPc trivial
  have hq' : vx_Q Qc XC mc ms free a (U.calling g mk a) o s₂ := hq
  rw [State.frames_setTop' g h.top] at hend
  obtain ⟨g₀, hg0⟩ := Option.isSome_iff_exists.mp h.top
  obtain ⟨r, hr⟩ := State.topJava?_eq_some.mp hg0
  have hr' : (({ U with heap := s₂.heap, slotsUsed := s₂.slotsUsed } : State).setVm s₂.vm).frames = .java g₀ :: r := hr
  rcases hq' with ⟨hqc, L, hfe, hL⟩ | ⟨q, rfl, E, ce, L, hx, hce, hcv, hcl, hW₂, hsm, hL⟩
  · obtain ⟨⟨v, rfl⟩, hW₂, e2, q2, q3, q4, q5, q6⟩ := id hfe
    have e3 : s₂ = ({ (U.calling g mk a).setFrames s₂.frames with heap := s₂.heap, slotsUsed := s₂.slotsUsed } : State).setVm s₂.vm := by
      have : s₂ = ({ s₂ with vm := (U.calling g mk a).vm } : State).setVm s₂.vm := rfl
      rw [e2] at this
      exact this
    obtain ⟨c₂, i₂, len₂, hc₂, hd₂, hf₂⟩ := hend
    have hW' : U.WarmedH s₂.vm := hW₂
    have hcc : c₂ = c := by
      have h1 : s₂.code? g.method = U.code? g.method := by
        rw [State.code?_eq, State.code?_eq, hW'.alike.method?]
      exact Option.some.inj (hc₂.symm.trans (h1.trans h.code))
    subst hcc
    have hlen : len₂ = len := by rw [hdg] at hd₂; cases hd₂; rfl
    subst hlen
    have hs₂ : s₂ = (({ U with heap := s₂.heap, slotsUsed := s₂.slotsUsed } : State).setVm s₂.vm).setTop { g with pc := g.pc + len₂, stack := v.toList ++ g.stack } := by
      refine e3.trans ?_
      rw [hf₂, State.calling_eq h.top, State.setFrames_setFrames, State.setTop_of_frames _ hr', hr]
      rfl
    have hsame : U.sameButNew ({ U with heap := s₂.heap, slotsUsed := s₂.slotsUsed } : State) L mc ms := by
      refine ⟨?_, q2, q3, q4, q5, q6⟩
      obtain ⟨t, ht, -⟩ := State.frames_cons hr
      show ({ U with heap := s₂.heap, slotsUsed := s₂.slotsUsed } : State) = { U.setFrames U.frames with heap := s₂.heap, slotsUsed := s₂.slotsUsed }
      rw [State.setFrames_self ht]
    subst hg
    refine Or.inl ⟨v, ⟨(({ U with heap := s₂.heap, slotsUsed := s₂.slotsUsed } : State).setVm s₂.vm), Ls ++ L, c0 + mc, s0 + ms⟩,
      ⟨X.admits, X.cas, X.clock, X.frames, X.room, X.hears, X.method, X.code, (X.here.setHeapUsed s₂.heap s₂.slotsUsed).setVm hW'.alike, X.tail, State.WarmedH.trans X.warmed hW', X.limits, X.bytes, X.same.trans (hsame.setVm s.vm)⟩,
      ⟨g, mk, s₂, L, rfl, rfl, hqc, rfl, hL, rfl, rfl⟩, ?_⟩
    show Steps p.tables e below _ ((({ U with heap := s₂.heap, slotsUsed := s₂.slotsUsed } : State).setVm s₂.vm).setTop { g with pc := g.pc + len₂, stack := v.toList ++ g.stack })
    rw [← hs₂]
    exact hsteps
  · obtain ⟨e2, q2, q3, q4, q5, q6⟩ := id hsm
    have e3 : s₂ = ({ (U.calling g mk a).setFrames s₂.frames with heap := s₂.heap, slotsUsed := s₂.slotsUsed } : State).setVm s₂.vm := by
      have : s₂ = ({ s₂ with vm := (U.calling g mk a).vm } : State).setVm s₂.vm := rfl
      rw [e2] at this
      exact this
    have hf₂ : s₂.frames = .throwing q :: .java g :: U.frames.tail := hend
    have hW' : U.WarmedH s₂.vm := hW₂
    have hs₂ : s₂ = ((({ U with heap := s₂.heap, slotsUsed := s₂.slotsUsed } : State).setVm s₂.vm).setTop g).pushFrame (.throwing q) := by
      refine e3.trans ?_
      rw [hf₂, State.calling_eq h.top, State.setFrames_setFrames, State.pushFrame, State.frames_setTop _ hr', State.setTop_of_frames _ hr', State.setFrames_setFrames, hr]
      rfl
    have hsame : U.sameButNew ({ U with heap := s₂.heap, slotsUsed := s₂.slotsUsed } : State) L mc ms := by
      refine ⟨?_, q2, q3, q4, q5, q6⟩
      obtain ⟨t, ht, -⟩ := State.frames_cons hr
      show ({ U with heap := s₂.heap, slotsUsed := s₂.slotsUsed } : State) = { U.setFrames U.frames with heap := s₂.heap, slotsUsed := s₂.slotsUsed }
      rw [State.setFrames_self ht]
    subst hg
    refine Or.inr ⟨q, ⟨(({ U with heap := s₂.heap, slotsUsed := s₂.slotsUsed } : State).setVm s₂.vm), Ls ++ L, c0 + mc, s0 + ms⟩,
      ⟨X.admits, X.cas, X.clock, X.frames, X.room, X.hears, X.method, X.code, (X.here.setHeapUsed s₂.heap s₂.slotsUsed).setVm hW'.alike, X.tail, State.WarmedH.trans X.warmed hW', X.limits, X.bytes, X.same.trans (hsame.setVm s.vm)⟩,
      ⟨g, mk, s₂, L, E, ce, rfl, rfl, hx, hce, hcv, hcl, rfl, hL, rfl, rfl⟩, ?_⟩
    show Steps p.tables e below _ (((({ U with heap := s₂.heap, slotsUsed := s₂.slotsUsed } : State).setVm s₂.vm).setTop g).pushFrame (.throwing q))
    rw [← hs₂]
    exact hsteps
end Payer
section Calls
variable {p : Program} {l : Launch} {e : Env} {R : Room} {s : State} {m : MethodId} {args : Array Value} {below : List Frame} {meth : Method} {c : Code} {T : State} {locs : List Loc} {cells slots : Nat}
theorem vx_callV (X : Stand p l e R s m args below meth c T locs cells slots) (hexec : p.tables.exec = Jvm.exec) {own C : String} {index : Nat} {y : MethodName} {bytes : ByteArray} {maxL : Nat} {ret : Option FieldType}
    (hown : s.vm.findClass own = some m.cls) (hlink : (Cond.methodLink own index y).before args s = true) (hinst : (Cond.instanceMethod y).before args s = true) (hsel : (Cond.selects C y y).before args s = true)
    (hcode : (Cond.code y bytes maxL ret).before args s = true) (hy : y.cls ≠ "java/lang/invoke/MethodHandle" ∧ y.cls ≠ "java/lang/invoke/VarHandle")
    {W9 : Nat} {Pre : Pt → Array Value → Prop} {Post : Pt → Array Value → Option Value → Pt → Prop} {PostX : Pt → Array Value → Addr → Pt → Prop} (hK : vx_Back l R p e below s args y 3 W9 Pre Post PostX)
    {b : Addr} {cellB : Cell} (hcell : T.heap[b]? = some cellB) (hobj : cellB.vm.isStatics = false) (hcls : s.vm.findClass C = some cellB.cls)
    {g : JFrame} (hg : g.method = m) (hsize : g.locals.size = c.maxLocals) {argsL rest : List Value} (hlen : ∀ sig, parseMethodDescriptor y.desc = some sig → argsL.length = sig.parameters.length)
    (hstack : g.stack = argsL.reverse ++ .ref b :: rest) (hW : 2 * g.monitorRoom + (rest.map fun v => v.category).sum ≤ W9) (hdg : decode c.code g.pc = .ok (.invokevirtual index, 3))
    (hpre : ∀ vm₁, s.WarmedH vm₁ → Pre ⟨T.setVm vm₁, locs, cells, slots⟩ (Value.ref b :: argsL).toArray) :
    (∃ (v : Option Value) (vm₁ : Vm) (B : Pt), s.WarmedH vm₁ ∧ Stand p l e R s m args below meth c B.U B.locs B.cells B.slots ∧ Post ⟨T.setVm vm₁, locs, cells, slots⟩ (Value.ref b :: argsL).toArray v B ∧
      ∀ target, Steps p.tables e below (B.U.setTop { g with pc := g.pc + 3, stack := v.toList ++ rest }) target → Steps p.tables e below (T.setTop g) target) ∨
    (∃ (q : Addr) (vm₁ : Vm) (B : Pt), s.WarmedH vm₁ ∧ Stand p l e R s m args below meth c B.U B.locs B.cells B.slots ∧ PostX ⟨T.setVm vm₁, locs, cells, slots⟩ (Value.ref b :: argsL).toArray q B ∧
      Steps p.tables e below (T.setTop g) ((B.U.setTop { g with stack := rest }).pushFrame (.throwing q))) := by
  obtain ⟨mk, methM, hnamed, hmethM, hstM, habM⟩ := Cond.instanceMethod_spec hinst
  obtain ⟨methM', cM, hmethM', -, -, -, -, -, -, hsigM⟩ := Cond.code_spec hnamed hcode
  cases hmethM.symm.trans hmethM'
  obtain ⟨c2, r2, m2, q1, q2, q3, q4, kP, hkP, hkPi⟩ := Cond.selects_spec hsel
  cases hcls.symm.trans q1
  cases (State.methodFound?_of_named hnamed hy).symm.trans q2
  cases hnamed.symm.trans q3
  have hselP : selectMethod e.platform s.vm cellB.cls mk = .method mk := by rw [Launch.admits_selectMethod X.admits]; exact q4
  obtain ⟨vm₁, X₁, hstep₁⟩ := X.invokevirtual hexec hown hlink hnamed hmethM hstM hkP hkPi hy (a := b) (cell := cellB) hcell
    (fun z h => by rw [h] at hobj; cases hobj) hselP hmethM habM hkP hkPi (g := g) hg (argsL := argsL) (rest := rest) (hlen _ hsigM) hstack hdg
  rcases hK m meth c ⟨T.setVm vm₁, locs, cells, slots⟩ { g with stack := rest } (.invokevirtual index) mk (Value.ref b :: argsL).toArray X₁ hg hsize hdg hW (X₁.named hnamed) (hpre vm₁ X₁.warmed) with ⟨v, B, X', hpost, hsteps⟩ | ⟨q, B, X', hpost, hsteps⟩
  · exact Or.inl ⟨v, vm₁, B, X₁.warmed, X', hpost, fun target h => hstep₁ _ fun acts => by rw [doInvoke_state]; exact hsteps.trans h⟩
  · exact Or.inr ⟨q, vm₁, B, X₁.warmed, X', hpost, hstep₁ _ fun acts => by rw [doInvoke_state]; exact hsteps⟩
theorem vx_callS (X : Stand p l e R s m args below meth c T locs cells slots) (hexec : p.tables.exec = Jvm.exec) {own : String} {index : Nat} {y : MethodName} {bytes : ByteArray} {maxL : Nat} {ret : Option FieldType}
    (hown : s.vm.findClass own = some m.cls) (hlink : (Cond.methodLink own index y).before args s = true) (hstat : (Cond.static y).before args s = true) (hinit : (Cond.initialized y.cls).before args s = true)
    (hcode : (Cond.code y bytes maxL ret).before args s = true) (hy : y.cls ≠ "java/lang/invoke/MethodHandle" ∧ y.cls ≠ "java/lang/invoke/VarHandle")
    {W9 : Nat} {Pre : Pt → Array Value → Prop} {Post : Pt → Array Value → Option Value → Pt → Prop} {PostX : Pt → Array Value → Addr → Pt → Prop} (hK : vx_Back l R p e below s args y 3 W9 Pre Post PostX)
    {g : JFrame} (hg : g.method = m) (hsize : g.locals.size = c.maxLocals) {argsL rest : List Value} (hlen : ∀ sig, parseMethodDescriptor y.desc = some sig → argsL.length = sig.parameters.length)
    (hstack : g.stack = argsL.reverse ++ rest) (hW : 2 * g.monitorRoom + (rest.map fun v => v.category).sum ≤ W9) (hdg : decode c.code g.pc = .ok (.invokestatic index, 3))
    (hpre : ∀ vm₁, s.WarmedH vm₁ → Pre ⟨T.setVm vm₁, locs, cells, slots⟩ argsL.toArray) :
    (∃ (v : Option Value) (vm₁ : Vm) (B : Pt), s.WarmedH vm₁ ∧ Stand p l e R s m args below meth c B.U B.locs B.cells B.slots ∧ Post ⟨T.setVm vm₁, locs, cells, slots⟩ argsL.toArray v B ∧
      ∀ target, Steps p.tables e below (B.U.setTop { g with pc := g.pc + 3, stack := v.toList ++ rest }) target → Steps p.tables e below (T.setTop g) target) ∨
    (∃ (q : Addr) (vm₁ : Vm) (B : Pt), s.WarmedH vm₁ ∧ Stand p l e R s m args below meth c B.U B.locs B.cells B.slots ∧ PostX ⟨T.setVm vm₁, locs, cells, slots⟩ argsL.toArray q B ∧
      Steps p.tables e below (T.setTop g) ((B.U.setTop { g with stack := rest }).pushFrame (.throwing q))) := by
  obtain ⟨mk, hnamed⟩ := Cond.code_named hcode
  obtain ⟨methM, cM, hmethM, -, -, -, -, -, -, hsigM⟩ := Cond.code_spec hnamed hcode
  have hstatic : methM.isStatic = true := Cond.static_spec hnamed hmethM hstat
  obtain ⟨kP, hkP, -⟩ := className_of_methodNamed hnamed
  have hinitP : kP.init = .initialized := Cond.initialized_spec (findClass_of_methodNamed hnamed) hkP hinit
  obtain ⟨vm₁, X₁, hstep₁⟩ := X.invokestatic hexec hown hlink hnamed hmethM hstatic hkP hinitP hy (g := g) hg (argsL := argsL) (rest := rest) (hlen _ hsigM) hstack hdg
  rcases hK m meth c ⟨T.setVm vm₁, locs, cells, slots⟩ { g with stack := rest } (.invokestatic index) mk argsL.toArray X₁ hg hsize hdg hW (X₁.named hnamed) (hpre vm₁ X₁.warmed) with ⟨v, B, X', hpost, hsteps⟩ | ⟨q, B, X', hpost, hsteps⟩
  · exact Or.inl ⟨v, vm₁, B, X₁.warmed, X', hpost, fun target h => hstep₁ _ fun acts => by rw [doInvoke_state]; exact hsteps.trans h⟩
  · exact Or.inr ⟨q, vm₁, B, X₁.warmed, X', hpost, hstep₁ _ fun acts => by rw [doInvoke_state]; exact hsteps⟩
end Calls
theorem vx_cls {s : State} {T : State} {vm₁ : Vm} {E : String} {k : ClassId} (hW : s.WarmedH vm₁) (h : (T.setVm vm₁).vm.findClass E = some k) : s.vm.findClass E = some k := by
  have h1 : vm₁.findClass E = some k := h
  rw [hW.alike.findClass] at h1
  exact h1
/-- the method's frame g, with q thrown over it -/
def vx_W (p : Program) (l : Launch) (e : Env) (R : Room) (s : State) (m : MethodId) (args : Array Value) (below : List Frame) (meth : Method) (c : Code) (H : Heap) (locs : List Loc) (cells slots : Nat) (Q : State → Prop) (g : JFrame) (q : Addr) : Prop :=
  ∀ T : State, T.heap = H → Stand p l e R s m args below meth c T locs cells slots → ∃ t, Steps p.tables e below ((T.setTop g).pushFrame (.throwing q)) t ∧ Q t
def vx_Run (p : Program) (l : Launch) (e : Env) (R : Room) (s : State) (m : MethodId) (args : Array Value) (below : List Frame) (meth : Method) (c : Code) (H : Heap) (locs : List Loc) (cells slots mc ms : Nat) (g : JFrame) (rest : List Value) (Qa : State → Outcome → State → Prop) (XC : String → State → State → Prop) (free : Addr → Prop) : Prop :=
  ∀ T : State, T.heap = H → Stand p l e R s m args below meth c T locs cells slots →
    (∃ (v : Option Value) (st₀ t T' : State) (L : List Loc), st₀.heap = H ∧ Stand p l e R s m args below meth c T' (locs ++ L) (cells + mc) (slots + ms) ∧ (∀ q ∈ L, free q.base) ∧ T'.heap = t.heap ∧ T'.vm = t.vm ∧ Qa st₀ (.returned v) t ∧
      Goes p e below T g T' { g with pc := g.pc + 3, stack := v.toList ++ rest }) ∨
    (∃ (q : Addr) (st₀ t T' : State) (L : List Loc) (E : String) (ce : Cell), st₀.heap = H ∧ Stand p l e R s m args below meth c T' (locs ++ L) (cells + mc) (slots + ms) ∧ (∀ z ∈ L, free z.base) ∧ T'.heap = t.heap ∧ T'.vm = t.vm ∧ XC E st₀ t ∧ t.heap[q]? = some ce ∧ ce.vm = .none ∧ s.vm.findClass E = some ce.cls ∧
      Steps p.tables e below (T.setTop g) ((T'.setTop { g with stack := rest }).pushFrame (.throwing q)))
def vx_X {S : Type} (px : S → Prop) (B : String → S → State → Prop) (A : Nat → Prop) : String → State → State → Prop := fun E st t => ∃ u : S, px u ∧ B E u t ∧ va_F A st t
section Runs
variable {p : Program} {l : Launch} {e : Env} {R : Room} {s : State} {m : MethodId} {args : Array Value} {below : List Frame} {meth : Method} {c : Code} {H : Heap} {locs : List Loc} {cells slots : Nat}
variable {y : MethodName} {bytes cc : ByteArray} {maxL nL mc ms n index : Nat} {ret : Option FieldType} {ws : List Cond} {rm : Room} {Pc : Array Value → State → Prop} {Qc : Array Value → State → Outcome → State → Prop} {XC : String → State → State → Prop} {free : Addr → Prop} {Ts : List Cond} {own C : String} {b : Addr} {As rest : List Value} {g : JFrame}
theorem vx_callBack (cb : CallB R s args own index y bytes maxL ret ws rm mc ms n) (hM : vx_Met l y ws rm Pc Qc XC mc ms free) (hbl : FrameBlind Pc) : vx_Back l R p e below s args y 3 8 (PreOf R mc ms Pc) (PostOf Qc mc ms free) (vx_Post XC mc ms free) := by
  obtain ⟨hrc, hrs, hfr, hlo, hws, hcw, -, hini, -⟩ := cb
  exact vx_back (bytes := bytes) (maxL := maxL) (ret := ret) hM hbl hrc hrs hfr hlo hws hcw (fun a' U hW => word_at hW (Or.inl (by first | rfl | simp [Cond.onTables, Cond.keeps, Cond.steady])) hini)
theorem vx_runV (S : CallFix p m c cc nL s args Ts own) (hM : vx_Met l y ws rm Pc Qc XC mc ms free) (cw : CallW R s args own C index y bytes maxL ret ws rm mc ms n) (hp : PreV s H C b Pc As)
    (hg : g.method = m) (hn : As.length = n) (hsize : g.locals.size = nL) (hstack : g.stack = As.reverse ++ .ref b :: rest) (hW : 2 * g.monitorRoom + (rest.map fun v => v.category).sum ≤ 8) (hdg : decode cc g.pc = .ok (.invokevirtual index, 3)) (hf : cells + mc ≤ R.cells ∧ slots + ms ≤ R.slots) :
    vx_Run p l e R s m args below meth c H locs cells slots mc ms g rest (Qc (Value.ref b :: As).toArray) XC free := by
  have hK : vx_Back l R p e below s args y 3 8 (PreOf R mc ms Pc) (PostOf Qc mc ms free) (vx_Post XC mc ms free) := vx_callBack cw.1 hM hp.1
  obtain ⟨⟨-, -, -, -, -, -, hcode, -, hy, hlen, hl⟩, hin, hse⟩ := cw
  obtain ⟨hx, hb, hml, ho, -⟩ := S
  obtain ⟨-, ⟨cellB, hcB, hoB, hclB⟩, hPc⟩ := hp
  intro T hT X
  rcases vx_callV X hx (C := C) (bytes := bytes) (maxL := maxL) (ret := ret) ho hl hin hse hcode hy hK (by rw [hT]; exact hcB) hoB hclB hg (hsize.trans hml.symm) (argsL := As) (rest := rest) (fun sig h => hn.trans (hlen sig h)) hstack hW (by rw [hb]; exact hdg)
    (fun vm₁ hW₁ => ⟨hf.1, hf.2, hPc (T.setVm vm₁) hT hW₁⟩) with ⟨v, vm₁, ⟨U', l2, c2, s2⟩, hW₁, X', ⟨g', mk, t, L, e1, e2, hq, h1, hL, h2, h3⟩, st⟩ | ⟨q, vm₁, ⟨U', l2, c2, s2⟩, hW₁, X', ⟨g', mk, t, L, E, ce, e1, e2, hq, hce, hcv, hcl, h1, hL, h2, h3⟩, st⟩
  · dsimp only [Pt.U, Pt.locs, Pt.cells, Pt.slots] at X' e1 e2 h1 h2 h3 st
    subst h1; subst h2; subst h3
    exact Or.inl ⟨v, (T.setVm vm₁).calling g' mk (Value.ref b :: As).toArray, t, U', L, hT, X', hL, e1, e2, hq, st⟩
  · dsimp only [Pt.U, Pt.locs, Pt.cells, Pt.slots] at X' e1 e2 h1 h2 h3 st hcl
    subst h1; subst h2; subst h3
    exact Or.inr ⟨q, (T.setVm vm₁).calling g' mk (Value.ref b :: As).toArray, t, U', L, E, ce, hT, X', hL, e1, e2, hq, hce, hcv, vx_cls hW₁ hcl, st⟩
theorem vx_runS (S : CallFix p m c cc nL s args Ts own) (hM : vx_Met l y ws rm Pc Qc XC mc ms free) (cw : CallB R s args own index y bytes maxL ret ws rm mc ms n ∧ (Cond.static y).before args s = true) (hp : PreS s H Pc As)
    (hg : g.method = m) (hn : As.length = n) (hsize : g.locals.size = nL) (hstack : g.stack = As.reverse ++ rest) (hW : 2 * g.monitorRoom + (rest.map fun v => v.category).sum ≤ 8) (hdg : decode cc g.pc = .ok (.invokestatic index, 3)) (hf : cells + mc ≤ R.cells ∧ slots + ms ≤ R.slots) :
    vx_Run p l e R s m args below meth c H locs cells slots mc ms g rest (Qc As.toArray) XC free := by
  have hK : vx_Back l R p e below s args y 3 8 (PreOf R mc ms Pc) (PostOf Qc mc ms free) (vx_Post XC mc ms free) := vx_callBack cw.1 hM hp.1
  obtain ⟨⟨-, -, -, -, -, -, hcode, hini, hy, hlen, hl⟩, hstt⟩ := cw
  obtain ⟨hx, hb, hml, ho, -⟩ := S
  intro T hT X
  rcases vx_callS X hx (bytes := bytes) (maxL := maxL) (ret := ret) ho hl hstt hini hcode hy hK hg (hsize.trans hml.symm) (argsL := As) (rest := rest) (fun sig h => hn.trans (hlen sig h)) hstack hW (by rw [hb]; exact hdg)
    (fun vm₁ hW₁ => ⟨hf.1, hf.2, hp.2 (T.setVm vm₁) hT hW₁⟩) with ⟨v, vm₁, ⟨U', l2, c2, s2⟩, hW₁, X', ⟨g', mk, t, L, e1, e2, hq, h1, hL, h2, h3⟩, st⟩ | ⟨q, vm₁, ⟨U', l2, c2, s2⟩, hW₁, X', ⟨g', mk, t, L, E, ce, e1, e2, hq, hce, hcv, hcl, h1, hL, h2, h3⟩, st⟩
  · dsimp only [Pt.U, Pt.locs, Pt.cells, Pt.slots] at X' e1 e2 h1 h2 h3 st
    subst h1; subst h2; subst h3
    exact Or.inl ⟨v, (T.setVm vm₁).calling g' mk As.toArray, t, U', L, hT, X', hL, e1, e2, hq, st⟩
  · dsimp only [Pt.U, Pt.locs, Pt.cells, Pt.slots] at X' e1 e2 h1 h2 h3 st hcl
    subst h1; subst h2; subst h3
    exact Or.inr ⟨q, (T.setVm vm₁).calling g' mk As.toArray, t, U', L, E, ce, hT, X', hL, e1, e2, hq, hce, hcv, vx_cls hW₁ hcl, st⟩
end Runs
section Rows
variable {p : Program} {l : Launch} {e : Env} {R : Room} {s : State} {m : MethodId} {args : Array Value} {below : List Frame} {meth : Method} {c : Code} {H : Heap} {locs : List Loc} {cells slots : Nat} {Q : State → Prop}
variable {mc ms : Nat} {free : Addr → Prop} {A0 A1 : Nat → Prop} {H0 : Heap} {a : Array Value} {pc : Nat} {ls : Array Slot} {st0 rest : List Value}
theorem vx_keep {st₀ t T' : State} {L : List Loc} (h0 : st₀.heap = H) (e1 : T'.heap = t.heap) (hS : va_S A0 H0 H locs) (hA : ∀ q, q < H.size → A1 q → A0 q) (hf : ∀ q, free q → A0 q) (hL : ∀ q ∈ L, free q.base) (hF : va_F A1 st₀ t) :
    H.size ≤ T'.heap.size ∧ (∀ q : Nat, q < H.size → ¬ A1 q → T'.heap[q]? = H[q]?) ∧ va_S A0 H0 T'.heap (locs ++ L) := by
  obtain ⟨hz, hk⟩ := hF
  rw [h0] at hz hk
  exact ⟨by rw [e1]; exact hz, fun q h1 h2 => by rw [e1]; exact hk q h1 h2,
    ⟨Nat.le_trans hS.1 (by rw [e1]; exact hz), fun q h1 h2 => by rw [e1, hk q (Nat.lt_of_lt_of_le h1 hS.1) (fun z => h2 (hA q (Nat.lt_of_lt_of_le h1 hS.1) z))]; exact hS.2.1 q h1 h2, fun q hq => by
      rcases List.mem_append.mp hq with h | h
      · exact hS.2.2 q h
      · exact hf _ (hL q h)⟩⟩
theorem vx_calli {S SX : Type} {post : Int32 → S → Prop} {px : SX → Prop} {B : S → State → Prop} {BX : String → SX → State → Prop} {AX : Nat → Prop} (hr : vx_Run p l e R s m args below meth c H locs cells slots mc ms (F0 m pc ls st0) rest (va_Qi post B A1 a) (vx_X px BX AX) free) (hS : va_S A0 H0 H locs) (hA : ∀ q, q < H.size → A1 q → A0 q) (hf : ∀ q, free q → A0 q) (hAX : ∀ q, q < H.size → AX q → A0 q)
    (kx : ∀ (E : String) (ce : Cell) (q9 : Addr) (u : SX) (t : State) (H1 : Heap) (locs1 : List Loc), t.heap = H1 → s.vm.Alike t.vm → px u → BX E u t → H.size ≤ H1.size → (∀ q : Nat, q < H.size → ¬ AX q → H1[q]? = H[q]?) → va_S A0 H0 H1 locs1 → H1[q9]? = some ce → ce.vm = .none → s.vm.findClass E = some ce.cls → vx_W p l e R s m args below meth c H1 locs1 (cells + mc) (slots + ms) Q (F0 m pc ls rest) q9)
    (kk : ∀ (r : Int32) (u : S) (t : State) (H1 : Heap) (locs1 : List Loc), t.heap = H1 → s.vm.Alike t.vm → post r u → B u t → H.size ≤ H1.size → (∀ q : Nat, q < H.size → ¬ A1 q → H1[q]? = H[q]?) → va_S A0 H0 H1 locs1 → W p l e R s m args below meth c H1 locs1 (cells + mc) (slots + ms) Q (F0 m (pc + 3) ls (.int r :: rest))) : W p l e R s m args below meth c H locs cells slots Q (F0 m pc ls st0) := by
  intro T hT X
  rcases hr T hT X with ⟨v, st₀, t, T', L, h0, X', hL, e1, e2, ⟨⟨r, u, hv, hp, hb⟩, hF⟩, st⟩ | ⟨q, st₀, t, T', L, E, ce, h0, X', hL, e1, e2, ⟨u, hp, hb, hF⟩, hce, hcv, hcl, st⟩
  · cases hv
    obtain ⟨k1, k2, k3⟩ := vx_keep h0 e1 hS hA hf hL hF
    obtain ⟨t2, a1, b1⟩ := kk r u t T'.heap (locs ++ L) e1.symm (by rw [← e2]; exact X'.warmed.alike) hp hb k1 k2 k3 T' rfl X'
    exact ⟨t2, st t2 a1, b1⟩
  · obtain ⟨k1, k2, k3⟩ := vx_keep h0 e1 hS hAX hf hL hF
    obtain ⟨t2, a1, b1⟩ := kx E ce q u t T'.heap (locs ++ L) e1.symm (by rw [← e2]; exact X'.warmed.alike) hp hb k1 k2 k3 (by rw [e1]; exact hce) hcv hcl T' rfl X'
    exact ⟨t2, st.trans a1, b1⟩
theorem vx_calll {S SX : Type} {post : Int64 → S → Prop} {px : SX → Prop} {B : S → State → Prop} {BX : String → SX → State → Prop} {AX : Nat → Prop} (hr : vx_Run p l e R s m args below meth c H locs cells slots mc ms (F0 m pc ls st0) rest (va_Ql post B A1 a) (vx_X px BX AX) free) (hS : va_S A0 H0 H locs) (hA : ∀ q, q < H.size → A1 q → A0 q) (hf : ∀ q, free q → A0 q) (hAX : ∀ q, q < H.size → AX q → A0 q)
    (kx : ∀ (E : String) (ce : Cell) (q9 : Addr) (u : SX) (t : State) (H1 : Heap) (locs1 : List Loc), t.heap = H1 → s.vm.Alike t.vm → px u → BX E u t → H.size ≤ H1.size → (∀ q : Nat, q < H.size → ¬ AX q → H1[q]? = H[q]?) → va_S A0 H0 H1 locs1 → H1[q9]? = some ce → ce.vm = .none → s.vm.findClass E = some ce.cls → vx_W p l e R s m args below meth c H1 locs1 (cells + mc) (slots + ms) Q (F0 m pc ls rest) q9)
    (kk : ∀ (r : Int64) (u : S) (t : State) (H1 : Heap) (locs1 : List Loc), t.heap = H1 → s.vm.Alike t.vm → post r u → B u t → H.size ≤ H1.size → (∀ q : Nat, q < H.size → ¬ A1 q → H1[q]? = H[q]?) → va_S A0 H0 H1 locs1 → W p l e R s m args below meth c H1 locs1 (cells + mc) (slots + ms) Q (F0 m (pc + 3) ls (.long r :: rest))) : W p l e R s m args below meth c H locs cells slots Q (F0 m pc ls st0) := by
  intro T hT X
  rcases hr T hT X with ⟨v, st₀, t, T', L, h0, X', hL, e1, e2, ⟨⟨r, u, hv, hp, hb⟩, hF⟩, st⟩ | ⟨q, st₀, t, T', L, E, ce, h0, X', hL, e1, e2, ⟨u, hp, hb, hF⟩, hce, hcv, hcl, st⟩
  · cases hv
    obtain ⟨k1, k2, k3⟩ := vx_keep h0 e1 hS hA hf hL hF
    obtain ⟨t2, a1, b1⟩ := kk r u t T'.heap (locs ++ L) e1.symm (by rw [← e2]; exact X'.warmed.alike) hp hb k1 k2 k3 T' rfl X'
    exact ⟨t2, st t2 a1, b1⟩
  · obtain ⟨k1, k2, k3⟩ := vx_keep h0 e1 hS hAX hf hL hF
    obtain ⟨t2, a1, b1⟩ := kx E ce q u t T'.heap (locs ++ L) e1.symm (by rw [← e2]; exact X'.warmed.alike) hp hb k1 k2 k3 (by rw [e1]; exact hce) hcv hcl T' rfl X'
    exact ⟨t2, st.trans a1, b1⟩
theorem vx_callf {S SX : Type} {post : UInt32 → S → Prop} {px : SX → Prop} {B : S → State → Prop} {BX : String → SX → State → Prop} {AX : Nat → Prop} (hr : vx_Run p l e R s m args below meth c H locs cells slots mc ms (F0 m pc ls st0) rest (va_Qf post B A1 a) (vx_X px BX AX) free) (hS : va_S A0 H0 H locs) (hA : ∀ q, q < H.size → A1 q → A0 q) (hf : ∀ q, free q → A0 q) (hAX : ∀ q, q < H.size → AX q → A0 q)
    (kx : ∀ (E : String) (ce : Cell) (q9 : Addr) (u : SX) (t : State) (H1 : Heap) (locs1 : List Loc), t.heap = H1 → s.vm.Alike t.vm → px u → BX E u t → H.size ≤ H1.size → (∀ q : Nat, q < H.size → ¬ AX q → H1[q]? = H[q]?) → va_S A0 H0 H1 locs1 → H1[q9]? = some ce → ce.vm = .none → s.vm.findClass E = some ce.cls → vx_W p l e R s m args below meth c H1 locs1 (cells + mc) (slots + ms) Q (F0 m pc ls rest) q9)
    (kk : ∀ (r : UInt32) (u : S) (t : State) (H1 : Heap) (locs1 : List Loc), t.heap = H1 → s.vm.Alike t.vm → post r u → B u t → H.size ≤ H1.size → (∀ q : Nat, q < H.size → ¬ A1 q → H1[q]? = H[q]?) → va_S A0 H0 H1 locs1 → W p l e R s m args below meth c H1 locs1 (cells + mc) (slots + ms) Q (F0 m (pc + 3) ls (.float r :: rest))) : W p l e R s m args below meth c H locs cells slots Q (F0 m pc ls st0) := by
  intro T hT X
  rcases hr T hT X with ⟨v, st₀, t, T', L, h0, X', hL, e1, e2, ⟨⟨r, u, hv, hp, hb⟩, hF⟩, st⟩ | ⟨q, st₀, t, T', L, E, ce, h0, X', hL, e1, e2, ⟨u, hp, hb, hF⟩, hce, hcv, hcl, st⟩
  · cases hv
    obtain ⟨k1, k2, k3⟩ := vx_keep h0 e1 hS hA hf hL hF
    obtain ⟨t2, a1, b1⟩ := kk r u t T'.heap (locs ++ L) e1.symm (by rw [← e2]; exact X'.warmed.alike) hp hb k1 k2 k3 T' rfl X'
    exact ⟨t2, st t2 a1, b1⟩
  · obtain ⟨k1, k2, k3⟩ := vx_keep h0 e1 hS hAX hf hL hF
    obtain ⟨t2, a1, b1⟩ := kx E ce q u t T'.heap (locs ++ L) e1.symm (by rw [← e2]; exact X'.warmed.alike) hp hb k1 k2 k3 (by rw [e1]; exact hce) hcv hcl T' rfl X'
    exact ⟨t2, st.trans a1, b1⟩
theorem vx_calld {S SX : Type} {post : UInt64 → S → Prop} {px : SX → Prop} {B : S → State → Prop} {BX : String → SX → State → Prop} {AX : Nat → Prop} (hr : vx_Run p l e R s m args below meth c H locs cells slots mc ms (F0 m pc ls st0) rest (va_Qd post B A1 a) (vx_X px BX AX) free) (hS : va_S A0 H0 H locs) (hA : ∀ q, q < H.size → A1 q → A0 q) (hf : ∀ q, free q → A0 q) (hAX : ∀ q, q < H.size → AX q → A0 q)
    (kx : ∀ (E : String) (ce : Cell) (q9 : Addr) (u : SX) (t : State) (H1 : Heap) (locs1 : List Loc), t.heap = H1 → s.vm.Alike t.vm → px u → BX E u t → H.size ≤ H1.size → (∀ q : Nat, q < H.size → ¬ AX q → H1[q]? = H[q]?) → va_S A0 H0 H1 locs1 → H1[q9]? = some ce → ce.vm = .none → s.vm.findClass E = some ce.cls → vx_W p l e R s m args below meth c H1 locs1 (cells + mc) (slots + ms) Q (F0 m pc ls rest) q9)
    (kk : ∀ (r : UInt64) (u : S) (t : State) (H1 : Heap) (locs1 : List Loc), t.heap = H1 → s.vm.Alike t.vm → post r u → B u t → H.size ≤ H1.size → (∀ q : Nat, q < H.size → ¬ A1 q → H1[q]? = H[q]?) → va_S A0 H0 H1 locs1 → W p l e R s m args below meth c H1 locs1 (cells + mc) (slots + ms) Q (F0 m (pc + 3) ls (.double r :: rest))) : W p l e R s m args below meth c H locs cells slots Q (F0 m pc ls st0) := by
  intro T hT X
  rcases hr T hT X with ⟨v, st₀, t, T', L, h0, X', hL, e1, e2, ⟨⟨r, u, hv, hp, hb⟩, hF⟩, st⟩ | ⟨q, st₀, t, T', L, E, ce, h0, X', hL, e1, e2, ⟨u, hp, hb, hF⟩, hce, hcv, hcl, st⟩
  · cases hv
    obtain ⟨k1, k2, k3⟩ := vx_keep h0 e1 hS hA hf hL hF
    obtain ⟨t2, a1, b1⟩ := kk r u t T'.heap (locs ++ L) e1.symm (by rw [← e2]; exact X'.warmed.alike) hp hb k1 k2 k3 T' rfl X'
    exact ⟨t2, st t2 a1, b1⟩
  · obtain ⟨k1, k2, k3⟩ := vx_keep h0 e1 hS hAX hf hL hF
    obtain ⟨t2, a1, b1⟩ := kx E ce q u t T'.heap (locs ++ L) e1.symm (by rw [← e2]; exact X'.warmed.alike) hp hb k1 k2 k3 (by rw [e1]; exact hce) hcv hcl T' rfl X'
    exact ⟨t2, st.trans a1, b1⟩
theorem vx_callv {S SX : Type} {post : S → Prop} {px : SX → Prop} {B : S → State → Prop} {BX : String → SX → State → Prop} {AX : Nat → Prop} (hr : vx_Run p l e R s m args below meth c H locs cells slots mc ms (F0 m pc ls st0) rest (va_Qv post B A1 a) (vx_X px BX AX) free) (hS : va_S A0 H0 H locs) (hA : ∀ q, q < H.size → A1 q → A0 q) (hf : ∀ q, free q → A0 q) (hAX : ∀ q, q < H.size → AX q → A0 q)
    (kx : ∀ (E : String) (ce : Cell) (q9 : Addr) (u : SX) (t : State) (H1 : Heap) (locs1 : List Loc), t.heap = H1 → s.vm.Alike t.vm → px u → BX E u t → H.size ≤ H1.size → (∀ q : Nat, q < H.size → ¬ AX q → H1[q]? = H[q]?) → va_S A0 H0 H1 locs1 → H1[q9]? = some ce → ce.vm = .none → s.vm.findClass E = some ce.cls → vx_W p l e R s m args below meth c H1 locs1 (cells + mc) (slots + ms) Q (F0 m pc ls rest) q9)
    (kk : ∀ (u : S) (t : State) (H1 : Heap) (locs1 : List Loc), t.heap = H1 → s.vm.Alike t.vm → post u → B u t → H.size ≤ H1.size → (∀ q : Nat, q < H.size → ¬ A1 q → H1[q]? = H[q]?) → va_S A0 H0 H1 locs1 → W p l e R s m args below meth c H1 locs1 (cells + mc) (slots + ms) Q (F0 m (pc + 3) ls (rest))) : W p l e R s m args below meth c H locs cells slots Q (F0 m pc ls st0) := by
  intro T hT X
  rcases hr T hT X with ⟨v, st₀, t, T', L, h0, X', hL, e1, e2, ⟨⟨u, hv, hp, hb⟩, hF⟩, st⟩ | ⟨q, st₀, t, T', L, E, ce, h0, X', hL, e1, e2, ⟨u, hp, hb, hF⟩, hce, hcv, hcl, st⟩
  · cases hv
    obtain ⟨k1, k2, k3⟩ := vx_keep h0 e1 hS hA hf hL hF
    obtain ⟨t2, a1, b1⟩ := kk u t T'.heap (locs ++ L) e1.symm (by rw [← e2]; exact X'.warmed.alike) hp hb k1 k2 k3 T' rfl X'
    exact ⟨t2, st t2 a1, b1⟩
  · obtain ⟨k1, k2, k3⟩ := vx_keep h0 e1 hS hAX hf hL hF
    obtain ⟨t2, a1, b1⟩ := kx E ce q u t T'.heap (locs ++ L) e1.symm (by rw [← e2]; exact X'.warmed.alike) hp hb k1 k2 k3 (by rw [e1]; exact hce) hcv hcl T' rfl X'
    exact ⟨t2, st.trans a1, b1⟩
/-- caught by the row x of this method's table; the rows ahead don't take it -/
theorem vx_catch {own name : String} {E : String} {ce : Cell} {q : Addr} (hown : s.vm.findClass own = some m.cls) (pre : List ExceptionTableEntry) (x : ExceptionTableEntry) (suf : List ExceptionTableEntry) (hsplit : c.exceptionTable.toList = pre ++ x :: suf)
    (hpass : ∀ z ∈ pre, covers z pc = false ∨ (z.catchType ≠ 0 ∧ ∃ nm : String, (Cond.classLink own z.catchType nm).before args s = true ∧ va_Nc E nm s)) (hx : covers x pc = true) (h0 : x.catchType ≠ 0)
    (hlink : (Cond.classLink own x.catchType name).before args s = true) (hcast : (Cond.castable E name).before args s = true) (hcell : H[q]? = some ce) (hv : ce.vm = .none) (hcl : s.vm.findClass E = some ce.cls)
    (kk : W p l e R s m args below meth c H locs cells slots Q (F0 m x.handlerPc ls [.ref q])) : vx_W p l e R s m args below meth c H locs cells slots Q (F0 m pc ls rest) q := by
  intro T hT X
  have hpl : e.platform.magicAccessors = ({} : Platform).magicAccessors := by rw [X.admits.platform]
  obtain ⟨c3, c4, hc3, hc4, hasg⟩ := Cond.castable_spec hcast
  cases Option.some.inj (hc3.symm.trans hcl)
  obtain ⟨c5, hc5, hcl5⟩ := Cond.classLink_spec hown hlink e.platform hpl
  cases Option.some.inj (hc4.symm.trans hc5)
  obtain ⟨vm', X', st⟩ := X.thenCaughtThrough q (g := F0 m pc ls rest) rfl (Steps.refl _) (by rw [hT]; exact hcell) (by rw [hv]; rfl) (by obtain ⟨k9, h9, -⟩ := Vm.findClass_spec hcl; exact ⟨k9, h9⟩) pre x suf hsplit
    (fun z hz => by
      rcases hpass z hz with h | ⟨hz0, nm, hl1, hn1⟩
      · exact Or.inl h
      · obtain ⟨c6, hc6, hcl6⟩ := Cond.classLink_spec hown hl1 e.platform hpl
        obtain ⟨a8, b8, h1, h2, h3⟩ := hn1
        cases Option.some.inj (h1.symm.trans hcl)
        cases Option.some.inj (h2.symm.trans hc6)
        exact Or.inr ⟨hz0, _, hcl6, h3⟩) hx (Or.inr ⟨h0, c4, hcl5, hasg⟩)
  obtain ⟨t, a1, b1⟩ := kk (T.setVm vm') hT X'
  exact ⟨t, st.trans a1, b1⟩
end Rows
section Ends
variable {p : Program} {l : Launch} {e : Env} {R : Room} {s : State} {m : MethodId} {args : Array Value} {below : List Frame} {meth : Method} {c : Code} {H : Heap} {locs : List Loc} {cells slots : Nat} {Q : State → Prop}
variable {mc ms : Nat} {free : Addr → Prop} {A0 A1 : Nat → Prop} {H0 : Heap} {a : Array Value} {ls : Array Slot} {st0 rest : List Value}
variable {Qc : Array Value → State → Outcome → State → Prop} {XC : String → State → State → Prop}
/-- what a body that may throw owes at its end -/
def vx_MQ (below : List Frame) (Qc : Array Value → State → Outcome → State → Prop) (XC : String → State → State → Prop) (a : Array Value) (s : State) (mc ms : Nat) (free : Addr → Prop) : State → Prop := fun t =>
  ∃ o, t.status = .running ∧ Ended t below o ∧ vx_Q Qc XC mc ms free a s o t
theorem vx_ret {g : JFrame} {mc ms : Nat} (k : W p l e R s m args below meth c H locs cells slots (MQ below Qc args s mc ms free) g) : W p l e R s m args below meth c H locs cells slots (vx_MQ below Qc XC args s mc ms free) g := by
  intro T hT X
  obtain ⟨t, a1, o, b1, b2, b3, b4⟩ := k T hT X
  exact ⟨t, a1, o, b1, b2, Or.inl ⟨b3, b4⟩⟩
/-- not caught here: it goes on to the caller -/
theorem vx_widen {g : JFrame} {q : Addr} {k n : Nat} (h1 : cells ≤ k) (h2 : slots ≤ n) (kk : vx_W p l e R s m args below meth c H locs k n Q g q) : vx_W p l e R s m args below meth c H locs cells slots Q g q := fun T hT X => kk T hT (stand_widen X h1 h2)
theorem vx_out {pc : Nat} {E : String} {ce : Cell} {q : Addr} {mc ms : Nat} (hout : ∀ x ∈ c.exceptionTable.toList, covers x pc = false) (hlocks : meth.locks = false) (hcell : H[q]? = some ce) (hv : ce.vm = .none) (hcl : s.vm.findClass E = some ce.cls)
    (hx : ∀ t : State, t.heap = H → s.vm.Alike t.vm → XC E s t) (hf : ∀ z ∈ locs, free z.base) (hc : cells ≤ mc) (hs : slots ≤ ms) :
    vx_W p l e R s m args below meth c H locs cells slots (vx_MQ below Qc XC args s mc ms free) (F0 m pc ls rest) q := by
  intro T hT X
  obtain ⟨st1, hrun, hend, hW, hsm⟩ := X.leaveThrown q (g := F0 m pc ls rest) rfl rfl rfl hout hlocks
  have hcell9 : (T.setFrames (.throwing q :: below)).heap[q]? = some ce := by
    show T.heap[q]? = some ce
    rw [hT]; exact hcell
  exact ⟨_, st1, .threw q, hrun, hend, Or.inr ⟨q, rfl, E, ce, locs, hx _ hT hW.alike, hcell9, hv, hcl, hW, hsm.mono hc hs, hf⟩⟩
theorem vx_frame {U : State} {k n : Nat} (h : s.sameButNew ({ U with vm := s.vm } : State) locs k n) : s.heap.size ≤ U.heap.size ∧ ∀ q : Nat, q < s.heap.size → (∀ z ∈ locs, z.base ≠ q) → U.heap[q]? = s.heap[q]? := by
  obtain ⟨-, h2, -, -, -, h6⟩ := h
  refine ⟨h2, fun q hq hz => ?_⟩
  obtain ⟨c9, e1, e2, e3, e4⟩ := h6 q _ (Array.getElem?_eq_getElem hq)
  have hs : c9.slots = (s.heap[q]).slots := Array.ext_getElem? fun i => e4 i fun hm => hz _ hm rfl
  have h9 : c9 = s.heap[q] := by
    rw [hs] at e2
    exact e2
  have e5 : U.heap[q]? = some c9 := e1
  rw [e5, h9, Array.getElem?_eq_getElem hq]
/-- the words of a throw but the four that speak of the heap -/
def vx_no (w : Cond) : Bool := decide (w ≠ .isRef (.static Bundle.tN "UNASSIGNED_STACK" Bundle.steD)) && decide (w ≠ .isRef (.static Bundle.tN "SUPPRESSED_SENTINEL" Bundle.listD)) && decide (w ≠ .laysStatic Bundle.tN "UNASSIGNED_STACK" Bundle.steD) && decide (w ≠ .laysStatic Bundle.tN "SUPPRESSED_SENTINEL" Bundle.listD)
def vx_at0 (own : String) (ic : Nat) (X : String) (names : List String) : List Cond := (Bundle.ownAtoms0 own ic X names).filter vx_no
def vx_atS (own : String) (ic : Nat) (X : String) (names : List String) : List Cond := (Bundle.ownAtoms own ic X names).filter vx_no
/-- a word that the tables alone decide, or a good one -/
def vx_ot (w : Cond) : Bool := w.onTables || goodWord w
theorem vx_ot_at {args a' : Array Value} {s U : State} {w : Cond} (hW : s.WarmedH U.vm) (hvm : s.vm = U.vm) (hg : vx_ot w = true) (h : w.before args s = true) : w.before a' U = true := by
  simp only [vx_ot, Bool.or_eq_true] at hg
  rcases hg with hg | hg
  · exact va_tabs hg hvm h
  · exact word_at hW (good_of_word hg) h
/-- a list's words: the good ones out of the method's own list, the others by premises of their own -/
theorem vx_hat {args : Array Value} {s : State} {L B : List Cond} (h1 : ∀ w ∈ L.filter goodWord, w.before args s = true) (h2 : ∀ w ∈ L.filter (fun w => !goodWord w), w ∈ B) (h3 : ∀ w ∈ B, w.before args s = true) : ∀ w ∈ L, w.before args s = true := by
  intro w hw
  by_cases g : goodWord w = true
  · exact h1 w (List.mem_filter.mpr ⟨hw, g⟩)
  · refine h3 w (h2 w (List.mem_filter.mpr ⟨hw, ?_⟩))
    show (!goodWord w) = true
    cases hgw : goodWord w
    · rfl
    · exact absurd hgw g
theorem vx_c {args : Array Value} {s : State} {w : Cond} {B : List Cond} (h : w.before args s = true) (t : ∀ w ∈ B, w.before args s = true) : ∀ w' ∈ w :: B, w'.before args s = true := fun w' h' => (List.mem_cons.mp h').elim (fun e => by rw [e]; exact h) (t w')
theorem vx_n {args : Array Value} {s : State} : ∀ w ∈ ([] : List Cond), w.before args s = true := fun _ h => nomatch h
theorem vx_own {args : Array Value} {s : State} {L : List Cond} (h1 : ∀ w ∈ L.filter vx_no, w.before args s = true)
    (hU : (Cond.isRef (.static Bundle.tN "UNASSIGNED_STACK" Bundle.steD)).before args s = true) (hN : (Cond.isRef (.static Bundle.tN "SUPPRESSED_SENTINEL" Bundle.listD)).before args s = true)
    (lU : (Cond.laysStatic Bundle.tN "UNASSIGNED_STACK" Bundle.steD).before args s = true) (lN : (Cond.laysStatic Bundle.tN "SUPPRESSED_SENTINEL" Bundle.listD).before args s = true) : ∀ w ∈ L, w.before args s = true := by
  intro w hw
  by_cases e1 : w = .isRef (.static Bundle.tN "UNASSIGNED_STACK" Bundle.steD)
  · rw [e1]; exact hU
  · by_cases e2 : w = .isRef (.static Bundle.tN "SUPPRESSED_SENTINEL" Bundle.listD)
    · rw [e2]; exact hN
    · by_cases e3 : w = .laysStatic Bundle.tN "UNASSIGNED_STACK" Bundle.steD
      · rw [e3]; exact lU
      · by_cases e4 : w = .laysStatic Bundle.tN "SUPPRESSED_SENTINEL" Bundle.listD
        · rw [e4]; exact lN
        · exact h1 w (List.mem_filter.mpr ⟨hw, by unfold vx_no; rw [decide_eq_true e1, decide_eq_true e2, decide_eq_true e3, decide_eq_true e4]; rfl⟩)
/-- where a static field lies, its class's statics cell in H -/
def vx_L (C n d : String) (A : Nat → Prop) (U : State) (H : Heap) : Prop := ∃ (c : ClassId) (k : Class) (i : Nat) (f : Field) (a : Nat) (cell : Cell), U.vm.findClass C = some c ∧ U.fieldFound? C n d = some (c, k, i, f) ∧ f.isStatic = true ∧ k.statics = some a ∧ H[a]? = some cell ∧ cell.vm.isStatics = true ∧ cell.cls = c ∧ f.slot < cell.slots.size ∧ k.staticTypes[f.slot]? = some f.type ∧ ¬ A a
theorem vx_L.moved {C n d : String} {A : Nat → Prop} {u U : State} {H : Heap} (hvm : u.vm.Alike U.vm) (h : vx_L C n d A u H) : vx_L C n d A U H := by
  obtain ⟨c, k, i, f, a, cell, h1, h2, h3, h4, h5, h6, h7, h8, h9, h10⟩ := h
  obtain ⟨k', hi', he⟩ := State.fieldFound?_setVm hvm h2
  exact ⟨c, k', i, f, a, cell, by rw [hvm.findClass]; exact h1, hi', h3, by rw [he]; exact h4, h5, h6, h7, h8, by rw [he]; exact h9, h10⟩
theorem vx_L.kept {C n d : String} {A : Nat → Prop} {U : State} {H H1 : Heap} (h : vx_L C n d A U H) (hq : ∀ a : Nat, a < H.size → ¬ A a → H1[a]? = H[a]?) : vx_L C n d A U H1 := by
  obtain ⟨c, k, i, f, a, cell, h1, h2, h3, h4, h5, h6, h7, h8, h9, h10⟩ := h
  exact ⟨c, k, i, f, a, cell, h1, h2, h3, h4, by rw [hq a (Array.getElem?_eq_some_iff.mp h5).1 h10]; exact h5, h6, h7, h8, h9, h10⟩
theorem vx_L.narrow {C n d : String} {A B : Nat → Prop} {U : State} {H : Heap} (h : vx_L C n d A U H) (hAB : ∀ q, B q → A q) : vx_L C n d B U H := by
  obtain ⟨c, k, i, f, a, cell, h1, h2, h3, h4, h5, h6, h7, h8, h9, h10⟩ := h
  exact ⟨c, k, i, f, a, cell, h1, h2, h3, h4, h5, h6, h7, h8, h9, fun z => h10 (hAB _ z)⟩
theorem vx_L.word {C n d : String} {A : Nat → Prop} {s : State} {args : Array Value} (h : vx_L C n d A s s.heap) : (Cond.laysStatic C n d).before args s = true := by
  obtain ⟨c, k, i, f, a, cell, h1, h2, h3, h4, h5, h6, h7, h8, h9, -⟩ := h
  show (Cond.laysStatic C n d).holds args s none s [] = true
  exact Cond.laysStatic_of h1 h2 h3 h4 h5 h6 h7 h8 h9
/-- .. and what it holds: null or some reference -/
def vx_Zq (C n d : String) (A : Nat → Prop) (U : State) (H : Heap) : Prop := va_Zq C n d A U H ∧ vx_L C n d A U H
theorem vx_Zq.moved {C n d : String} {A : Nat → Prop} {u U : State} {H : Heap} (hvm : u.vm.Alike U.vm) (h : vx_Zq C n d A u H) : vx_Zq C n d A U H := ⟨va_Zq.moved hvm h.1, vx_L.moved hvm h.2⟩
theorem vx_Zq.kept {C n d : String} {A : Nat → Prop} {U : State} {H H1 : Heap} (h : vx_Zq C n d A U H) (hq : ∀ a : Nat, a < H.size → ¬ A a → H1[a]? = H[a]?) : vx_Zq C n d A U H1 := ⟨va_Zq.kept h.1 hq, vx_L.kept h.2 hq⟩
theorem vx_Zq.narrow {C n d : String} {A B : Nat → Prop} {U : State} {H : Heap} (h : vx_Zq C n d A U H) (hAB : ∀ q, B q → A q) : vx_Zq C n d B U H := ⟨va_Zq.narrow h.1 hAB, vx_L.narrow h.2 hAB⟩
theorem vx_Zqof {args : Array Value} {s : State} {C n d : String} {A : Nat → Prop} (hl : (Cond.laysStatic C n d).before args s = true) (hini : (Cond.initialized C).before args s = true) (h : (Cond.isRef (.static C n d)).before args s = true) (hA : ∀ a : Nat, a < s.heap.size → ¬ A a) : vx_Zq C n d A s s.heap := by
  refine ⟨va_Zqof hl hini h hA, ?_⟩
  obtain ⟨c, k, i, f, a, cell, h1, h2, h3, h4, h5, h6, h7, h8, h9⟩ := Cond.laysStatic_spec hl
  exact ⟨c, k, i, f, a, cell, h1, h2, h3, h4, h5, h6, h7, h8, h9, hA a (Array.getElem?_eq_some_iff.mp h5).1⟩
theorem vx_isRef {C n d : String} {v : Value} {A : Nat → Prop} {s : State} {args : Array Value} (h : va_Z C n d v A s s.heap) (hv : v.isRef = true) : (Cond.isRef (.static C n d)).before args s = true := by
  obtain ⟨cf, kf, fi, f, a, cell, h1, h2, h3, h4, h5, h6, h7, -⟩ := h
  have he : (Term.static C n d).eval args s none [] s = some v := by
    simp [Term.eval, State.fieldNamed?, h1, h2, h4, h5, h6, h7]
  simp only [Cond.before, Cond.holds, Cond.value, he]
  cases v <;> simp_all [Value.isRef]
theorem vx_isRefq {C n d : String} {A : Nat → Prop} {s : State} {args : Array Value} (h : va_Zq C n d A s s.heap) : (Cond.isRef (.static C n d)).before args s = true := by
  rcases h with h | ⟨t, h⟩
  · exact vx_isRef h rfl
  · exact vx_isRef h rfl
/-- the same frame, seen from here: as if the method were called anew in this heap -/
theorem vx_rebase {T : State} (X : Stand p l e R s m args below meth c T locs cells slots) {R' : Room} (hf : R'.frames ≤ R.frames) (hl : R'.locals ≤ R.locals) (hc : cells + R'.cells ≤ R.cells) (hs : slots + R'.slots ≤ R.slots) :
    Stand p l e R' ((T.setVm s.vm).setFrames (.invoking m args :: below)) m args below meth c T [] 0 0 := by
  have htop : (T.setVm s.vm).topJava?.isSome := X.here.top
  have hF : ((T.setVm s.vm).setFrames (.invoking m args :: below)).frames = .invoking m args :: below := State.frames_setFrames _ (State.cur_lt_of_top htop)
  obtain ⟨g₀, hg0⟩ := Option.isSome_iff_exists.mp htop
  obtain ⟨r, hr⟩ := State.topJava?_eq_some.mp hg0
  have hl9 : e.platform.stackLimits (T.setVm s.vm).me = e.platform.stackLimits s.me := X.limits
  have hb9 : (T.setVm s.vm).me.stackBytes = s.me.stackBytes := X.bytes
  refine ⟨X.admits, X.cas, X.clock, hF, ?_, X.hears, X.method, X.code, X.here, X.tail, X.warmed, ?_, ?_, ?_⟩
  · have h := X.room
    have hU : ((T.setVm s.vm).setFrames (.invoking m args :: below)).localsInUse = s.localsInUse := by
      rw [State.localsInUse_invoking hF (meth := meth) (c := c) X.method X.code, State.localsInUse_invoking X.frames X.method X.code]
    simp only [State.hasRoom, Bool.and_eq_true, decide_eq_true_eq] at h ⊢
    obtain ⟨⟨⟨⟨h1, h2, h3, h4, h5, h6⟩, h7⟩, h8⟩, h9⟩ := h
    rw [X.frames, List.length_cons] at h2 h3
    have q1 := X.heapSize
    have q2 := X.used
    simp only [hF, hU, List.length_cons, State.stackLimits_setFrames, State.stackBytes_setFrames, hl9, hb9]
    refine ⟨⟨⟨⟨by omega, by omega, by omega, by omega, by omega, h6⟩, ?_⟩, ?_⟩, X.book⟩
    · show T.heap.size + R'.cells ≤ e.platform.maxCells
      omega
    · show T.slotsUsed + R'.slots ≤ e.platform.maxSlots
      omega
  · rw [State.stackLimits_setFrames]; rfl
  · rw [State.stackBytes_setFrames]; rfl
  · refine ⟨?_, Nat.le_refl _, Nat.le_refl _, ?_, ?_, fun a c9 h9 => ⟨c9, h9, rfl, rfl, fun _ _ => rfl⟩⟩
    · obtain ⟨t, ht, -⟩ := State.frames_cons hr
      show T.setVm s.vm = { ((T.setVm s.vm).setFrames (.invoking m args :: below)).setFrames (T.setVm s.vm).frames with heap := T.heap, slotsUsed := T.slotsUsed }
      rw [State.setFrames_setFrames, State.setFrames_self ht]
      rfl
    · show T.slotsUsed = T.slotsUsed + ((T.heap.toList.drop T.heap.size).map (·.slots.size)).sum
      rw [List.drop_eq_nil_of_le (Nat.le_of_eq Array.length_toList)]
      rfl
    · show ((T.heap.toList.drop T.heap.size).map (·.slots.size)).sum ≤ 0
      rw [List.drop_eq_nil_of_le (Nat.le_of_eq Array.length_toList)]
      exact Nat.le_refl _
/-- 'throw new E()': new; dup; invokespecial; athrow -/
theorem vx_throw0 {cc : ByteArray} {pc : Nat} (hexec : p.tables.exec = Jvm.exec) (hb : c.code = cc) (hl : l.stackTraces = false) {own cls : String} {names : List String} {ik ic mc ms : Nat} {A : Nat → Prop}
    (hown : s.vm.findClass own = some m.cls) (hcls : Bundle.fit cls = true) (hnames : ∀ n ∈ names, Bundle.fit n = true)
    (hk : (Cond.classLink own ik cls).before args s = true) (hini : (Cond.initialized cls).before args s = true) (hat : ∀ w ∈ vx_at0 own ic cls names, w.before args s = true)
    (hgood : ∀ w ∈ Cond.classLink own ik cls :: Cond.initialized cls :: vx_at0 own ic cls names, vx_ot w = true)
    (hU : vx_Zq Bundle.tN "UNASSIGNED_STACK" Bundle.steD A s s.heap) (hN : vx_Zq Bundle.tN "SUPPRESSED_SENTINEL" Bundle.listD A s s.heap) (hS : va_S A s.heap H locs) (hsize : ls.size = c.maxLocals)
    (d0 : decode cc pc = .ok (.new ik, 3)) (d3 : decode cc (pc + 3) = .ok (.dup, 1)) (d4 : decode cc (pc + 4) = .ok (.invokespecial ic, 3)) (d7 : decode cc (pc + 7) = .ok (.athrow, 1))
    (hout : ∀ x ∈ c.exceptionTable.toList, covers x (pc + 7) = false)
    (hRframes : names.length + 3 < R.frames) (hRlocals : (rest.map fun v => v.category).sum + (13 * (names.length + 1) + 42) ≤ R.locals) (hRcells : cells + 1 ≤ R.cells) (hRslots : slots + 6 ≤ R.slots) (hlocks : meth.locks = false)
    (hx : ∀ t : State, s.vm.Alike t.vm → H.size ≤ t.heap.size → (∀ q : Nat, q < H.size → t.heap[q]? = H[q]?) → XC cls s t)
    (hf : ∀ z ∈ locs, free z.base) (hc : cells + 1 ≤ mc) (hs : slots + 6 ≤ ms) :
    W p l e R s m args below meth c H locs cells slots (vx_MQ below Qc XC args s mc ms free) (F0 m pc ls rest) := by
  intro T hT X
  have htr : e.platform.stackTraces = false := (show e.platform.stackTraces = l.stackTraces by rw [X.admits.platform]).trans hl
  have Y := vx_rebase X (R' := { frames := R.frames, locals := R.locals, cells := 1, slots := 6 }) (Nat.le_refl _) (Nat.le_refl _) hRcells hRslots
  obtain ⟨s', hA⟩ : ∃ z, z = (T.setVm s.vm).setFrames (.invoking m args :: below) := ⟨_, rfl⟩
  rw [← hA] at Y
  have hvm : s'.vm = s.vm := by rw [hA]; rfl
  have hhp : s'.heap = H := by rw [hA]; exact hT
  have hW0 : s.WarmedH s'.vm := by rw [hvm]; exact State.WarmedH.refl s
  have hat' : ∀ w ∈ vx_at0 own ic cls names, w.before args s' = true := fun w hw => vx_ot_at hW0 hvm.symm (hgood w (List.mem_cons_of_mem _ (List.mem_cons_of_mem _ hw))) (hat w hw)
  have hk' : (Cond.classLink own ik cls).before args s' = true := vx_ot_at hW0 hvm.symm (hgood _ List.mem_cons_self) hk
  have hini' : (Cond.initialized cls).before args s' = true := vx_ot_at hW0 hvm.symm (hgood _ (List.mem_cons_of_mem _ List.mem_cons_self)) hini
  have hU' : vx_Zq Bundle.tN "UNASSIGNED_STACK" Bundle.steD A s' s'.heap := by rw [hhp]; exact vx_Zq.moved hW0.alike (hU.kept hS.2.1)
  have hN' : vx_Zq Bundle.tN "SUPPRESSED_SENTINEL" Bundle.listD A s' s'.heap := by rw [hhp]; exact vx_Zq.moved hW0.alike (hN.kept hS.2.1)
  have h : ∀ w ∈ Bundle.ownAtoms0 own ic cls names, w.before args s' = true := vx_own hat' (vx_isRefq hU'.1) (vx_isRefq hN'.1) hU'.2.word hN'.2.word
  have hown' : s'.vm.findClass own = some m.cls := by rw [hvm]; exact hown
  have hins : (Cond.instantiable cls 6).before args s' = true := h _ (by simp [Bundle.ownAtoms0])
  obtain ⟨vm₁, cX, kX, hfX, hkX, -, -, X₁, st1⟩ := Y.newCold hexec (own := own) (C := cls) (index := ik) (n := 6) hown' hk' hins hini'
    (g := F0 m pc ls rest) rfl (by rw [hb]; exact d0) (Nat.le_refl _) (Nat.le_refl _)
  generalize hT1 : (T.setVm vm₁).pushCell { cls := cX, slots := kX.instanceTypes.map defaultValue, vm := .none } = T1 at X₁ st1
  have hcat : (Value.ref T.heap.size).category = 1 := rfl
  have hcellA : T1.heap[T.heap.size]? = some (freshCell cX kX) := by rw [← hT1]; exact State.heap_pushCell_size _ _
  have d3' : decode c.code (pc + 3) = .ok (.dup, 1) := by rw [hb]; exact d3
  obtain ⟨U, hsteps, hrun, hend, hW, hsame, ce, hce, hO⟩ := X₁.ctorThrow0 hexec htr (own := own) (cls := cls) (names := names) (ic := ic) hown' hcls hnames h (fun x hx => nomatch hx) hfX hkX hcellA (by rw [hhp, hT]; exact Nat.le_refl _)
    (g := { method := m, pc := pc + 4, locals := ls, stack := .ref T.heap.size :: .ref T.heap.size :: rest, locked := none }) rfl hsize rfl rfl (rest := rest) rfl
    (by rw [hb]; exact d4) (by rw [hb]; exact d7) hout hRframes (by simp only [List.map_cons, List.sum_cons, hcat]; omega) hlocks
  obtain ⟨f1, f2⟩ := vx_frame hsame
  rw [hhp] at f1 f2
  have hWs : s.WarmedH U.vm := State.WarmedH.trans hW0 hW
  have hcl : s.vm.findClass cls = some ce.cls := by
    have h9 := hO.cls
    rw [hvm] at h9
    exact h9
  have hall : s.sameButNew ({ U with vm := s.vm } : State) locs mc ms := by
    subst hA
    obtain ⟨e1, e2⟩ := hsame
    rw [State.setFrames_setFrames] at e1
    have h2 : (T.setVm s.vm).sameButNew ({ U with vm := s.vm } : State) [] (0 + 1) (0 + 6) := ⟨e1, e2⟩
    have h3 := X.same.trans h2
    rw [List.append_nil] at h3
    exact h3.mono hc hs
  refine ⟨U, ?_, .threw T.heap.size, hrun, hend, Or.inr ⟨T.heap.size, rfl, cls, ce, locs, hx U hWs.alike f1 (fun q hq => f2 q hq (fun z hz => nomatch hz)), hce, hO.vm, hcl, hWs, hall, hf⟩⟩
  refine st1 _ ?_
  show Steps p.tables e below (T1.setTop { method := m, pc := pc + 3, locals := ls, stack := .ref T.heap.size :: rest, locked := none }) _
  jvm_step X₁.here [X₁.here.top, hexec, d3', Value.category]
  exact hsteps
/-- 'throw new E("text")': new; dup; ldc; invokespecial; athrow -/
theorem vx_throwS {cc : ByteArray} {pc : Nat} (hexec : p.tables.exec = Jvm.exec) (hb : c.code = cc) (hl : l.stackTraces = false) {own cls text : String} {names : List String} {ik is ic mc ms sa : Nat} {A : Nat → Prop}
    (hown : s.vm.findClass own = some m.cls) (hcls : Bundle.fit cls = true) (hnames : ∀ n ∈ names, Bundle.fit n = true)
    (hk : (Cond.classLink own ik cls).before args s = true) (hini : (Cond.initialized cls).before args s = true) (hstr : vk_R own is text sa s) (hat : ∀ w ∈ vx_atS own ic cls names, w.before args s = true)
    (hgood : ∀ w ∈ Cond.classLink own ik cls :: Cond.initialized cls :: vx_atS own ic cls names, vx_ot w = true)
    (hU : vx_Zq Bundle.tN "UNASSIGNED_STACK" Bundle.steD A s s.heap) (hN : vx_Zq Bundle.tN "SUPPRESSED_SENTINEL" Bundle.listD A s s.heap) (hS : va_S A s.heap H locs) (hsize : ls.size = c.maxLocals)
    (d0 : decode cc pc = .ok (.new ik, 3)) (d3 : decode cc (pc + 3) = .ok (.dup, 1)) (d4 : decode cc (pc + 4) = .ok (.ldc is, 2)) (d6 : decode cc (pc + 6) = .ok (.invokespecial ic, 3)) (d9 : decode cc (pc + 9) = .ok (.athrow, 1))
    (hout : ∀ x ∈ c.exceptionTable.toList, covers x (pc + 9) = false)
    (hRframes : names.length + 3 < R.frames) (hRlocals : (rest.map fun v => v.category).sum + (13 * (names.length + 1) + 43) ≤ R.locals) (hRcells : cells + 1 ≤ R.cells) (hRslots : slots + 6 ≤ R.slots) (hlocks : meth.locks = false)
    (hx : ∀ t : State, s.vm.Alike t.vm → H.size ≤ t.heap.size → (∀ q : Nat, q < H.size → t.heap[q]? = H[q]?) → XC cls s t)
    (hf : ∀ z ∈ locs, free z.base) (hc : cells + 1 ≤ mc) (hs : slots + 6 ≤ ms) :
    W p l e R s m args below meth c H locs cells slots (vx_MQ below Qc XC args s mc ms free) (F0 m pc ls rest) := by
  intro T hT X
  have htr : e.platform.stackTraces = false := (show e.platform.stackTraces = l.stackTraces by rw [X.admits.platform]).trans hl
  have Y := vx_rebase X (R' := { frames := R.frames, locals := R.locals, cells := 1, slots := 6 }) (Nat.le_refl _) (Nat.le_refl _) hRcells hRslots
  obtain ⟨s', hA⟩ : ∃ z, z = (T.setVm s.vm).setFrames (.invoking m args :: below) := ⟨_, rfl⟩
  rw [← hA] at Y
  have hvm : s'.vm = s.vm := by rw [hA]; rfl
  have hhp : s'.heap = H := by rw [hA]; exact hT
  have hW0 : s.WarmedH s'.vm := by rw [hvm]; exact State.WarmedH.refl s
  have hat' : ∀ w ∈ vx_atS own ic cls names, w.before args s' = true := fun w hw => vx_ot_at hW0 hvm.symm (hgood w (List.mem_cons_of_mem _ (List.mem_cons_of_mem _ hw))) (hat w hw)
  have hk' : (Cond.classLink own ik cls).before args s' = true := vx_ot_at hW0 hvm.symm (hgood _ List.mem_cons_self) hk
  have hini' : (Cond.initialized cls).before args s' = true := vx_ot_at hW0 hvm.symm (hgood _ (List.mem_cons_of_mem _ List.mem_cons_self)) hini
  have hU' : vx_Zq Bundle.tN "UNASSIGNED_STACK" Bundle.steD A s' s'.heap := by rw [hhp]; exact vx_Zq.moved hW0.alike (hU.kept hS.2.1)
  have hN' : vx_Zq Bundle.tN "SUPPRESSED_SENTINEL" Bundle.listD A s' s'.heap := by rw [hhp]; exact vx_Zq.moved hW0.alike (hN.kept hS.2.1)
  have h : ∀ w ∈ Bundle.ownAtoms own ic cls names, w.before args s' = true := vx_own hat' (vx_isRefq hU'.1) (vx_isRefq hN'.1) hU'.2.word hN'.2.word
  have hown' : s'.vm.findClass own = some m.cls := by rw [hvm]; exact hown
  have hins : (Cond.instantiable cls 6).before args s' = true := h _ (by simp [Bundle.ownAtoms])
  obtain ⟨vm₁, cX, kX, hfX, hkX, -, -, X₁, st1⟩ := Y.newCold hexec (own := own) (C := cls) (index := ik) (n := 6) hown' hk' hins hini'
    (g := F0 m pc ls rest) rfl (by rw [hb]; exact d0) (Nat.le_refl _) (Nat.le_refl _)
  generalize hT1 : (T.setVm vm₁).pushCell { cls := cX, slots := kX.instanceTypes.map defaultValue, vm := .none } = T1 at X₁ st1
  have hcat : (Value.ref T.heap.size).category = 1 := rfl
  have hcellA : T1.heap[T.heap.size]? = some (freshCell cX kX) := by rw [← hT1]; exact State.heap_pushCell_size _ _
  have d3' : decode c.code (pc + 3) = .ok (.dup, 1) := by rw [hb]; exact d3
  have d4' : decode c.code (pc + 4) = .ok (.ldc is, 2) := by rw [hb]; exact d4
  have hstr' : vk_R own is text sa s' := vk_R.warm hW0 hstr
  obtain ⟨U, hsteps, hrun, hend, hW, hsame, ce, hce, hO⟩ := X₁.ctorThrowS hexec htr (own := own) (cls := cls) (names := names) (ic := ic) hown' hcls hnames h (fun x hx => nomatch hx) hfX hkX hcellA (by rw [hhp, hT]; exact Nat.le_refl _) (msg := .ref sa) rfl
    (g := { method := m, pc := pc + 6, locals := ls, stack := .ref sa :: .ref T.heap.size :: .ref T.heap.size :: rest, locked := none }) rfl hsize rfl rfl (rest := rest) rfl
    (by rw [hb]; exact d6) (by rw [hb]; exact d9) hout hRframes (by simp only [List.map_cons, List.sum_cons, hcat]; omega) hlocks
  obtain ⟨f1, f2⟩ := vx_frame hsame
  rw [hhp] at f1 f2
  have hWs : s.WarmedH U.vm := State.WarmedH.trans hW0 hW
  have hcl : s.vm.findClass cls = some ce.cls := by
    have h9 := hO.cls
    rw [hvm] at h9
    exact h9
  have hall : s.sameButNew ({ U with vm := s.vm } : State) locs mc ms := by
    subst hA
    obtain ⟨e1, e2⟩ := hsame
    rw [State.setFrames_setFrames] at e1
    have h2 : (T.setVm s.vm).sameButNew ({ U with vm := s.vm } : State) [] (0 + 1) (0 + 6) := ⟨e1, e2⟩
    have h3 := X.same.trans h2
    rw [List.append_nil] at h3
    exact h3.mono hc hs
  refine ⟨U, ?_, .threw T.heap.size, hrun, hend, Or.inr ⟨T.heap.size, rfl, cls, ce, locs, hx U hWs.alike f1 (fun q hq => f2 q hq (fun z hz => nomatch hz)), hce, hO.vm, hcl, hWs, hall, hf⟩⟩
  refine st1 _ ?_
  show Steps p.tables e below (T1.setTop { method := m, pc := pc + 3, locals := ls, stack := .ref T.heap.size :: rest, locked := none }) _
  jvm_step X₁.here [X₁.here.top, hexec, d3', Value.category]
  exact X₁.ldcString hexec (own := own) (text := text) (index := is) (a := sa) hown' hstr'.1 hstr'.2
    (g := { method := m, pc := pc + 4, locals := ls, stack := .ref T.heap.size :: .ref T.heap.size :: rest, locked := none }) rfl d4' _ hsteps
/-- 'throw new E("text")', the text by a wide index -/
theorem vx_throwSW {cc : ByteArray} {pc : Nat} (hexec : p.tables.exec = Jvm.exec) (hb : c.code = cc) (hl : l.stackTraces = false) {own cls text : String} {names : List String} {ik is ic mc ms sa : Nat} {A : Nat → Prop}
    (hown : s.vm.findClass own = some m.cls) (hcls : Bundle.fit cls = true) (hnames : ∀ n ∈ names, Bundle.fit n = true)
    (hk : (Cond.classLink own ik cls).before args s = true) (hini : (Cond.initialized cls).before args s = true) (hstr : vk_R own is text sa s) (hat : ∀ w ∈ vx_atS own ic cls names, w.before args s = true)
    (hgood : ∀ w ∈ Cond.classLink own ik cls :: Cond.initialized cls :: vx_atS own ic cls names, vx_ot w = true)
    (hU : vx_Zq Bundle.tN "UNASSIGNED_STACK" Bundle.steD A s s.heap) (hN : vx_Zq Bundle.tN "SUPPRESSED_SENTINEL" Bundle.listD A s s.heap) (hS : va_S A s.heap H locs) (hsize : ls.size = c.maxLocals)
    (d0 : decode cc pc = .ok (.new ik, 3)) (d3 : decode cc (pc + 3) = .ok (.dup, 1)) (d4 : decode cc (pc + 4) = .ok (.ldc_w is, 3)) (d7 : decode cc (pc + 7) = .ok (.invokespecial ic, 3)) (d10 : decode cc (pc + 10) = .ok (.athrow, 1))
    (hout : ∀ x ∈ c.exceptionTable.toList, covers x (pc + 10) = false)
    (hRframes : names.length + 3 < R.frames) (hRlocals : (rest.map fun v => v.category).sum + (13 * (names.length + 1) + 43) ≤ R.locals) (hRcells : cells + 1 ≤ R.cells) (hRslots : slots + 6 ≤ R.slots) (hlocks : meth.locks = false)
    (hx : ∀ t : State, s.vm.Alike t.vm → H.size ≤ t.heap.size → (∀ q : Nat, q < H.size → t.heap[q]? = H[q]?) → XC cls s t)
    (hf : ∀ z ∈ locs, free z.base) (hc : cells + 1 ≤ mc) (hs : slots + 6 ≤ ms) :
    W p l e R s m args below meth c H locs cells slots (vx_MQ below Qc XC args s mc ms free) (F0 m pc ls rest) := by
  intro T hT X
  have htr : e.platform.stackTraces = false := (show e.platform.stackTraces = l.stackTraces by rw [X.admits.platform]).trans hl
  have Y := vx_rebase X (R' := { frames := R.frames, locals := R.locals, cells := 1, slots := 6 }) (Nat.le_refl _) (Nat.le_refl _) hRcells hRslots
  obtain ⟨s', hA⟩ : ∃ z, z = (T.setVm s.vm).setFrames (.invoking m args :: below) := ⟨_, rfl⟩
  rw [← hA] at Y
  have hvm : s'.vm = s.vm := by rw [hA]; rfl
  have hhp : s'.heap = H := by rw [hA]; exact hT
  have hW0 : s.WarmedH s'.vm := by rw [hvm]; exact State.WarmedH.refl s
  have hat' : ∀ w ∈ vx_atS own ic cls names, w.before args s' = true := fun w hw => vx_ot_at hW0 hvm.symm (hgood w (List.mem_cons_of_mem _ (List.mem_cons_of_mem _ hw))) (hat w hw)
  have hk' : (Cond.classLink own ik cls).before args s' = true := vx_ot_at hW0 hvm.symm (hgood _ List.mem_cons_self) hk
  have hini' : (Cond.initialized cls).before args s' = true := vx_ot_at hW0 hvm.symm (hgood _ (List.mem_cons_of_mem _ List.mem_cons_self)) hini
  have hU' : vx_Zq Bundle.tN "UNASSIGNED_STACK" Bundle.steD A s' s'.heap := by rw [hhp]; exact vx_Zq.moved hW0.alike (hU.kept hS.2.1)
  have hN' : vx_Zq Bundle.tN "SUPPRESSED_SENTINEL" Bundle.listD A s' s'.heap := by rw [hhp]; exact vx_Zq.moved hW0.alike (hN.kept hS.2.1)
  have h : ∀ w ∈ Bundle.ownAtoms own ic cls names, w.before args s' = true := vx_own hat' (vx_isRefq hU'.1) (vx_isRefq hN'.1) hU'.2.word hN'.2.word
  have hown' : s'.vm.findClass own = some m.cls := by rw [hvm]; exact hown
  have hins : (Cond.instantiable cls 6).before args s' = true := h _ (by simp [Bundle.ownAtoms])
  obtain ⟨vm₁, cX, kX, hfX, hkX, -, -, X₁, st1⟩ := Y.newCold hexec (own := own) (C := cls) (index := ik) (n := 6) hown' hk' hins hini'
    (g := F0 m pc ls rest) rfl (by rw [hb]; exact d0) (Nat.le_refl _) (Nat.le_refl _)
  generalize hT1 : (T.setVm vm₁).pushCell { cls := cX, slots := kX.instanceTypes.map defaultValue, vm := .none } = T1 at X₁ st1
  have hcat : (Value.ref T.heap.size).category = 1 := rfl
  have hcellA : T1.heap[T.heap.size]? = some (freshCell cX kX) := by rw [← hT1]; exact State.heap_pushCell_size _ _
  have d3' : decode c.code (pc + 3) = .ok (.dup, 1) := by rw [hb]; exact d3
  have d4' : decode c.code (pc + 4) = .ok (.ldc_w is, 3) := by rw [hb]; exact d4
  have hstr' : vk_R own is text sa s' := vk_R.warm hW0 hstr
  obtain ⟨U, hsteps, hrun, hend, hW, hsame, ce, hce, hO⟩ := X₁.ctorThrowS hexec htr (own := own) (cls := cls) (names := names) (ic := ic) hown' hcls hnames h (fun x hx => nomatch hx) hfX hkX hcellA (by rw [hhp, hT]; exact Nat.le_refl _) (msg := .ref sa) rfl
    (g := { method := m, pc := pc + 7, locals := ls, stack := .ref sa :: .ref T.heap.size :: .ref T.heap.size :: rest, locked := none }) rfl hsize rfl rfl (rest := rest) rfl
    (by rw [hb]; exact d7) (by rw [hb]; exact d10) hout hRframes (by simp only [List.map_cons, List.sum_cons, hcat]; omega) hlocks
  obtain ⟨f1, f2⟩ := vx_frame hsame
  rw [hhp] at f1 f2
  have hWs : s.WarmedH U.vm := State.WarmedH.trans hW0 hW
  have hcl : s.vm.findClass cls = some ce.cls := by
    have h9 := hO.cls
    rw [hvm] at h9
    exact h9
  have hall : s.sameButNew ({ U with vm := s.vm } : State) locs mc ms := by
    subst hA
    obtain ⟨e1, e2⟩ := hsame
    rw [State.setFrames_setFrames] at e1
    have h2 : (T.setVm s.vm).sameButNew ({ U with vm := s.vm } : State) [] (0 + 1) (0 + 6) := ⟨e1, e2⟩
    have h3 := X.same.trans h2
    rw [List.append_nil] at h3
    exact h3.mono hc hs
  refine ⟨U, ?_, .threw T.heap.size, hrun, hend, Or.inr ⟨T.heap.size, rfl, cls, ce, locs, hx U hWs.alike f1 (fun q hq => f2 q hq (fun z hz => nomatch hz)), hce, hO.vm, hcl, hWs, hall, hf⟩⟩
  refine st1 _ ?_
  show Steps p.tables e below (T1.setTop { method := m, pc := pc + 3, locals := ls, stack := .ref T.heap.size :: rest, locked := none }) _
  jvm_step X₁.here [X₁.here.top, hexec, d3', Value.category]
  exact X₁.ldcStringW hexec (own := own) (text := text) (index := is) (a := sa) hown' hstr'.1 hstr'.2
    (g := { method := m, pc := pc + 4, locals := ls, stack := .ref T.heap.size :: .ref T.heap.size :: rest, locked := none }) rfl d4' _ hsteps
end Ends
section Bodies
variable {l : Launch}
theorem vx_ofW {y : MethodName} {ws ws' : List Cond} {rm : Room} {Pc : Array Value → State → Prop} {Qc : Array Value → State → Outcome → State → Prop} {XC : String → State → State → Prop} {mc ms : Nat} {free : Addr → Prop} {cc : ByteArray} {maxL : Nat} {ret : Option FieldType}
    (hy : plainName y.cls = true) (hw : ws = Cond.code y cc maxL ret :: ws')
    (body : ∀ p e s m args below meth c s₁, BodyLoose p l y (headSpec ws rm) cc maxL ret e s m args below meth c s₁ → c.maxLocals = maxL → (∀ x ∈ c.exceptionTable.toList, False) → Pc args s →
      W p l e (headSpec ws rm).room s m args below meth c s.heap [] 0 0 (vx_MQ below Qc XC args s mc ms free) (entryFrame m args maxL)) : vx_Met l y ws rm Pc Qc XC mc ms free := by
  refine MetFree.of_bodyS (code := cc) (maxLocals := maxL) (ret := ret) hy ?_ ?_
  · intro args s m h hn
    obtain ⟨meth, c, h1, h2, h3, h4, h5, h6, -, -⟩ := Cond.code_spec hn (atoms_spec (ws := ws) h _ (by rw [hw]; exact List.mem_cons_self))
    exact ⟨meth, c, h1, h2, h3, h4, h5, h6⟩
  · intro p e s m args below meth c s₁ B hml hP _
    have hh0 : s₁.heap = s.heap := by rw [B.state]; rfl
    have ht : ∀ x ∈ c.exceptionTable.toList, False := by
      obtain ⟨meth9, c9, h1, h2, -, -, -, -, h7, -⟩ := Cond.code_spec B.named (atoms_spec (ws := ws) B.pre _ (by rw [hw]; exact List.mem_cons_self))
      cases Option.some.inj (h1.symm.trans B.method)
      cases Option.some.inj (h2.symm.trans (Stand.of_body B).code)
      intro x hx
      rw [Array.isEmpty_iff.mp h7] at hx
      cases hx
    obtain ⟨t, a1, o, b1, b2, b3⟩ := body p e s m args below meth c s₁ B hml ht hP s₁ hh0 (Stand.of_body B)
    exact ⟨t, o, a1, b1, b2, b3⟩
/-- the table of a body with handlers -/
theorem vx_table {p : Program} {x y : MethodName} {S : Spec} {cc bytes : ByteArray} {maxL maxL' : Nat} {ret ret' : Option FieldType} {e : Env} {s s₁ : State} {m : MethodId} {args : Array Value} {below : List Frame} {meth : Method} {c : Code} {hh : List (Nat × Nat × Nat × Nat)}
    (B : BodyLoose p l y S cc maxL ret e s m args below meth c s₁) (h : (Cond.codeWith y bytes maxL' ret' hh).before args s = true) : c.exceptionTable.toList = tableOf hh := by
  obtain ⟨m9, meth9, c9, hn9, h1, h2, -, -, h6, -⟩ := Cond.codeWith_spec h
  cases Option.some.inj (hn9.symm.trans B.named)
  cases Option.some.inj (h1.symm.trans B.method)
  cases Option.some.inj (h2.symm.trans (Stand.of_body B).code)
  rw [← h6, table_eq]
end Bodies
end VXA
/-! ===== END ===== -/
/-! ===== BEGIN a static call of a method with an exception table ===== -/
section VXS
variable {p : Program} {l : Launch} {e : Env} {R : Room} {s : State} {m : MethodId} {args : Array Value} {below : List Frame} {meth : Method} {c : Code} {T : State} {H : Heap} {locs : List Loc} {cells slots : Nat}
abbrev vx_CSW (R : Room) (s : State) (args : Array Value) (own : String) (index : Nat) (y : MethodName) (bytes : ByteArray) (maxL : Nat) (ret : Option FieldType) (hh : List (Nat × Nat × Nat × Nat)) (ws : List Cond) (rm : Room) (mc ms n : Nat) : Prop :=
  (rm.cells = mc ∧ rm.slots = ms ∧ rm.frames + 1 ≤ R.frames ∧ 8 + (maxL + 11) + rm.locals ≤ R.locals ∧ (∀ w ∈ ws, ∀ (a' : Array Value) (U : State), s.WarmedH U.vm → w.before a' U = true) ∧ Cond.codeWith y bytes maxL ret hh ∈ ws) ∧
  (Cond.codeWith y bytes maxL ret hh).before args s = true ∧ (Cond.initialized y.cls).before args s = true ∧ (y.cls ≠ "java/lang/invoke/MethodHandle" ∧ y.cls ≠ "java/lang/invoke/VarHandle") ∧
  (∀ sig, parseMethodDescriptor y.desc = some sig → n = sig.parameters.length) ∧ (Cond.methodLink own index y).before args s = true ∧ (Cond.static y).before args s = true
theorem vx_cwSW {own : String} {index maxL mc ms : Nat} {y : MethodName} {bytes : ByteArray} {ret : Option FieldType} {hh : List (Nat × Nat × Nat × Nat)} {Ts ws ws' : List Cond} {rm : Room} (n : Nat) (ht : ∀ w ∈ Ts, w.before args s = true) (hT : GoodIn Ts (va_wsS own index y ws)) (hw : ws = Cond.codeWith y bytes maxL ret hh :: ws') (hrc : rm.cells = mc) (hrs : rm.slots = ms)
    (hd : y.cls ≠ "java/lang/invoke/MethodHandle" ∧ y.cls ≠ "java/lang/invoke/VarHandle" ∧ (parseMethodDescriptor y.desc).map (fun d => d.parameters.length) = some n) (hR : rm.frames + 1 ≤ R.frames ∧ 8 + (maxL + 11) + rm.locals ≤ R.locals) :
    vx_CSW R s args own index y bytes maxL ret hh ws rm mc ms n := by
  have ok : ∀ w ∈ va_wsS own index y ws, w.before args s = true := fun w h => ht w (hT w h).1
  have hG : GoodIn Ts ws := fun w h => hT w (by unfold va_wsS; exact List.mem_append_right _ h)
  have hc : Cond.codeWith y bytes maxL ret hh ∈ ws := by rw [hw]; exact List.mem_cons_self
  refine ⟨⟨hrc, hrs, hR.1, hR.2, pay_in ht hG, hc⟩, ht _ (hG _ hc).1, ok _ (by simp [va_wsS]), ⟨hd.1, hd.2.1⟩, fun sig h => ?_, ok _ (by simp [va_wsS]), ok _ (by simp [va_wsS])⟩
  have h2 := hd.2.2
  rw [h] at h2
  exact (Option.some.inj h2).symm
theorem vx_callSW (X : Stand p l e R s m args below meth c T locs cells slots) (hexec : p.tables.exec = Jvm.exec) {own : String} {index : Nat} {y : MethodName} {bytes : ByteArray} {maxL : Nat} {ret : Option FieldType} {hh : List (Nat × Nat × Nat × Nat)}
    (hown : s.vm.findClass own = some m.cls) (hlink : (Cond.methodLink own index y).before args s = true) (hstat : (Cond.static y).before args s = true) (hinit : (Cond.initialized y.cls).before args s = true)
    (hcode : (Cond.codeWith y bytes maxL ret hh).before args s = true) (hy : y.cls ≠ "java/lang/invoke/MethodHandle" ∧ y.cls ≠ "java/lang/invoke/VarHandle")
    {W9 : Nat} {Pre : Pt → Array Value → Prop} {Post : Pt → Array Value → Option Value → Pt → Prop} (hK : Back l R p e below s args y 3 W9 Pre Post)
    {g : JFrame} (hg : g.method = m) (hsize : g.locals.size = c.maxLocals) {argsL rest : List Value} (hlen : ∀ sig, parseMethodDescriptor y.desc = some sig → argsL.length = sig.parameters.length)
    (hstack : g.stack = argsL.reverse ++ rest) (hW : 2 * g.monitorRoom + (rest.map fun v => v.category).sum ≤ W9) (hdg : decode c.code g.pc = .ok (.invokestatic index, 3))
    (hpre : ∀ vm₁, s.WarmedH vm₁ → Pre ⟨T.setVm vm₁, locs, cells, slots⟩ argsL.toArray) :
    ∃ (v : Option Value) (vm₁ : Vm) (B : Pt), s.WarmedH vm₁ ∧ Stand p l e R s m args below meth c B.U B.locs B.cells B.slots ∧ Post ⟨T.setVm vm₁, locs, cells, slots⟩ argsL.toArray v B ∧
      ∀ target, Steps p.tables e below (B.U.setTop { g with pc := g.pc + 3, stack := v.toList ++ rest }) target → Steps p.tables e below (T.setTop g) target := by
  obtain ⟨mk, methM, cM, hnamed, hmethM, -, -, -, -, -, -, hsigM⟩ := Cond.codeWith_spec hcode
  have hstatic : methM.isStatic = true := Cond.static_spec hnamed hmethM hstat
  obtain ⟨kP, hkP, -⟩ := className_of_methodNamed hnamed
  have hinitP : kP.init = .initialized := Cond.initialized_spec (findClass_of_methodNamed hnamed) hkP hinit
  obtain ⟨vm₁, X₁, hstep₁⟩ := X.invokestatic hexec hown hlink hnamed hmethM hstatic hkP hinitP hy (g := g) hg (argsL := argsL) (rest := rest) (hlen _ hsigM) hstack hdg
  obtain ⟨v, B, X', hpost, hsteps⟩ := hK m meth c ⟨T.setVm vm₁, locs, cells, slots⟩ { g with stack := rest } (.invokestatic index) mk argsL.toArray X₁ hg hsize hdg hW (X₁.named hnamed) (hpre vm₁ X₁.warmed)
  exact ⟨v, vm₁, B, X₁.warmed, X', hpost, fun target h => hstep₁ _ fun acts => by rw [doInvoke_state]; exact hsteps.trans h⟩
theorem vx_runSW {y : MethodName} {bytes cc : ByteArray} {maxL nL mc ms n index : Nat} {ret : Option FieldType} {hh : List (Nat × Nat × Nat × Nat)} {ws : List Cond} {rm : Room} {Pc : Array Value → State → Prop} {Qc : Array Value → State → Outcome → State → Prop} {free : Addr → Prop} {Ts : List Cond} {own : String} {As rest : List Value} {g : JFrame}
    (S : CallFix p m c cc nL s args Ts own) (hM : Met l y ws rm Pc Qc mc ms free) (cw : vx_CSW R s args own index y bytes maxL ret hh ws rm mc ms n) (hp : PreS s H Pc As)
    (hg : g.method = m) (hn : As.length = n) (hsize : g.locals.size = nL) (hstack : g.stack = As.reverse ++ rest) (hW : 2 * g.monitorRoom + (rest.map fun v => v.category).sum ≤ 8) (hdg : decode cc g.pc = .ok (.invokestatic index, 3)) (hf : cells + mc ≤ R.cells ∧ slots + ms ≤ R.slots) :
    va_Run p l e R s m args below meth c H locs cells slots mc ms g rest (Qc As.toArray) (free) := by
  obtain ⟨⟨hrc, hrs, hfr, hlo, hws, hcw⟩, hcode, hini, hy, hlen, hl, hstt⟩ := cw
  have hK : Back l R p e below s args y 3 8 (PreOf R mc ms Pc) (PostOf Qc mc ms free) := va_backW (hh := hh) (bytes := bytes) (maxL := maxL) (ret := ret) hM hp.1 hrc hrs hfr hlo hws hcw (fun a' U hW => word_at hW (Or.inl (by first | rfl | simp [Cond.onTables, Cond.keeps, Cond.steady])) hini)
  obtain ⟨hx, hb, hml, ho, -⟩ := S
  intro T hT X
  obtain ⟨v, vm₁, ⟨U', l2, c2, s2⟩, hW₁, X', ⟨g', mk, t, L, e1, e2, hq, h1, hL, h2, h3⟩, st⟩ := vx_callSW X hx (hh := hh) (bytes := bytes) (maxL := maxL) (ret := ret) ho hl hstt hini hcode hy hK hg (hsize.trans hml.symm) (argsL := As) (rest := rest) (fun sig h => hn.trans (hlen sig h)) hstack hW (by rw [hb]; exact hdg)
    (fun vm₁ hW₁ => ⟨hf.1, hf.2, hp.2 (T.setVm vm₁) hT hW₁⟩)
  dsimp only [Pt.U, Pt.locs, Pt.cells, Pt.slots] at X' e1 e2 h1 h2 h3 st
  subst h1; subst h2; subst h3
  exact ⟨v, (T.setVm vm₁).calling g' mk As.toArray, t, U', L, hT, X', hL, e1, e2, hq, st⟩
/-- not caught here, past rows that name other classes: it goes on to the caller -/
theorem vx_outP {p : Program} {l : Launch} {e : Env} {R : Room} {s : State} {m : MethodId} {args : Array Value} {below : List Frame} {meth : Method} {c : Code} {H : Heap} {locs : List Loc} {cells slots : Nat} {free : Addr → Prop} {ls : Array Slot} {rest : List Value} {Qc : Array Value → State → Outcome → State → Prop} {XC : String → State → State → Prop}
    {pc : Nat} {own E : String} {ce : Cell} {q : Addr} {mc ms : Nat} (hown : s.vm.findClass own = some m.cls) (hlocks : meth.locks = false)
    (hpass : ∀ z ∈ c.exceptionTable.toList, covers z pc = false ∨ (z.catchType ≠ 0 ∧ ∃ nm : String, (Cond.classLink own z.catchType nm).before args s = true ∧ va_Nc E nm s)) (hcell : H[q]? = some ce) (hv : ce.vm = .none) (hcl : s.vm.findClass E = some ce.cls)
    (hx : ∀ t : State, t.heap = H → s.vm.Alike t.vm → XC E s t) (hf : ∀ z ∈ locs, free z.base) (hc : cells ≤ mc) (hs : slots ≤ ms) :
    vx_W p l e R s m args below meth c H locs cells slots (vx_MQ below Qc XC args s mc ms free) (F0 m pc ls rest) q := by
  intro T hT X
  have hpl : e.platform.magicAccessors = ({} : Platform).magicAccessors := by rw [X.admits.platform]
  obtain ⟨vm', hW', X', st⟩ := X.outThrough hlocks q (g := F0 m pc ls rest) rfl rfl rfl (cell := ce) (by rw [hT]; exact hcell) (by rw [hv]; rfl)
    (by obtain ⟨k9, h9, -⟩ := Vm.findClass_spec hcl; exact ⟨k9, h9⟩) (fun z hz => by
      rcases hpass z hz with h | ⟨hz0, nm, hl1, hn1⟩
      · exact Or.inl h
      · obtain ⟨c6, hc6, hcl6⟩ := Cond.classLink_spec hown hl1 e.platform hpl
        obtain ⟨a8, b8, h1, h2, h3⟩ := hn1
        cases Option.some.inj (h1.symm.trans hcl)
        cases Option.some.inj (h2.symm.trans hc6)
        exact Or.inr ⟨hz0, _, hcl6, h3⟩)
  obtain ⟨g₀, hfr⟩ := X'.frames_eq
  have hcell9 : ((T.setVm vm').setFrames (.throwing q :: below)).heap[q]? = some ce := by
    show T.heap[q]? = some ce
    rw [hT]; exact hcell
  have hend : Ended ((T.setVm vm').setFrames (.throwing q :: below)) below (.threw q) := State.frames_setFrames _ (State.cur_lt_of_frames hfr)
  refine ⟨(T.setVm vm').setFrames (.throwing q :: below), ?_, .threw q, X'.here.running, hend, Or.inr ⟨q, rfl, E, ce, locs, hx _ hT (X'.ends _).1.alike, hcell9, hv, hcl, (X'.ends _).1, (X'.ends _).2.mono hc hs, hf⟩⟩
  rw [X.pushThrowing_eq]
  exact st
/-- a thing of a world lies in the heap -/
theorem vx_lt {D : va_G} {cl : List vw_C} {ws : va_W} {H1 : Heap} (h : va_P D cl ws H1) {k : Nat} {q : Nat × va_E} (hk : ws[k]? = some q) : q.1 < H1.size := (h k q hk).lt
end VXS
/-! ===== END ===== -/
/-! ===== BEGIN methods with a table of their own: called by a name, returning or throwing ===== -/
section VXH
/-! vx_backW, vx_callVX, vx_callSX, vx_callVW, vx_runVW, vx_runVX, vx_runSX, vx_ofWH follow the same proofs as their sisters above (Free/Laws.lean, Shelf42/LK1.lean); vx_outP calls Shelf42/NT130.lean (outThrough). -/
section
variable {l : Launch} {R : Room} {p : Program} {e : Env} {below : List Frame} {s : State} {sargs : Array Value} {y : MethodName} {len W9 : Nat}
theorem vx_backW {ws : List Cond} {rm : Room} {Pc : Array Value → State → Prop} {Qc : Array Value → State → Outcome → State → Prop} {XC : String → State → State → Prop} {mc ms : Nat} {free : Addr → Prop} {bytes : ByteArray} {maxL : Nat} {ret : Option FieldType} {hh : List (Nat × Nat × Nat × Nat)}
    (hM : vx_Met l y ws rm Pc Qc XC mc ms free) (hblind : FrameBlind Pc) (hrc : rm.cells = mc) (hrs : rm.slots = ms)
    (hframes : rm.frames + 1 ≤ R.frames) (hlocals : W9 + (maxL + 11) + rm.locals ≤ R.locals)
    (hws : ∀ w ∈ ws, ∀ a' U, s.WarmedH U.vm → w.before a' U = true) (hcode : Cond.codeWith y bytes maxL ret hh ∈ ws) (hinit : ∀ a' U, s.WarmedH U.vm → (Cond.initialized y.cls).before a' U = true) :
    vx_Back l R p e below s sargs y len W9 (PreOf R mc ms Pc) (PostOf Qc mc ms free) (vx_Post XC mc ms free) := by
  intro m meth c A g ig mk a X hg hsize hdg hW hn hp
  have h1 : (headSpec ws rm).pre.before a A.U = true := atoms_intro fun w hw => hws w hw _ _ X.warmed
  have h2 : (Cond.codeWith y bytes maxL ret hh).before a A.U = true := hws _ hcode _ _ X.warmed
  have h3 : (Cond.initialized y.cls).before a A.U = true := hinit _ _ X.warmed
  have h4 : A.cells + (headSpec ws rm).room.cells ≤ R.cells := by rw [show (headSpec ws rm).room.cells = mc from hrc]; exact hp.1
  have h5 : A.slots + (headSpec ws rm).room.slots ≤ R.slots := by rw [show (headSpec ws rm).room.slots = ms from hrs]; exact hp.2.1
  have hPc : Pc a (A.U.calling g mk a) := hblind _ _ _ _ hp.2.2
  obtain ⟨U, Ls, c0, s0⟩ := A
  dsimp only [Pt.U, Pt.locs, Pt.cells, Pt.slots] at h1 h2 h3 h4 h5 X hn hPc ⊢
  obtain ⟨m9, methY, cY, hn9, hmY, hcY, -, hlY, -⟩ := Cond.codeWith_spec h2
  cases Option.some.inj (hn9.symm.trans hn)
  obtain ⟨kY, hkY, -⟩ := className_of_methodNamed hn
  have hinitY : kY.init = .initialized := Cond.initialized_spec (findClass_of_methodNamed hn) hkY h3
  have h : At U g.method c below := by rw [hg]; exact X.here
  have hlocals9 : W9 + (maxL + 11) + (headSpec ws rm).room.locals ≤ R.locals := hlocals
  have happ : (headSpec ws rm).appliesLoose y e.platform (U.calling g mk a) = true :=
    Spec.appliesLoose_calling (g := g) h hdg hn hkY hinitY
      (X.room_calling (g := g) (R' := (headSpec ws rm).room) hsize hmY hcY hframes (by rw [hlY]; omega) h4 h5) h1
  obtain ⟨mid, hmid⟩ := h.above
  have hfr : (U.setTop g).frames = (.java g :: mid) ++ below := by rw [State.frames_setTop' g h.top, hmid]; rfl
  obtain ⟨o, s₂, hsteps, -, hend, hq⟩ := Steps.callFree hM p X.admits X.cas X.clock (acts := []) hfr happ hPc trivial
  have hq' : vx_Q Qc XC mc ms free a (U.calling g mk a) o s₂ := hq
  rw [State.frames_setTop' g h.top] at hend
  obtain ⟨g₀, hg0⟩ := Option.isSome_iff_exists.mp h.top
  obtain ⟨r, hr⟩ := State.topJava?_eq_some.mp hg0
  have hr' : (({ U with heap := s₂.heap, slotsUsed := s₂.slotsUsed } : State).setVm s₂.vm).frames = .java g₀ :: r := hr
  rcases hq' with ⟨hqc, L, hfe, hL⟩ | ⟨q, rfl, E, ce, L, hx, hce, hcv, hcl, hW₂, hsm, hL⟩
  · obtain ⟨⟨v, rfl⟩, hW₂, e2, q2, q3, q4, q5, q6⟩ := id hfe
    have e3 : s₂ = ({ (U.calling g mk a).setFrames s₂.frames with heap := s₂.heap, slotsUsed := s₂.slotsUsed } : State).setVm s₂.vm := by
      have : s₂ = ({ s₂ with vm := (U.calling g mk a).vm } : State).setVm s₂.vm := rfl
      rw [e2] at this
      exact this
    obtain ⟨c₂, i₂, len₂, hc₂, hd₂, hf₂⟩ := hend
    have hW' : U.WarmedH s₂.vm := hW₂
    have hcc : c₂ = c := by
      have h1 : s₂.code? g.method = U.code? g.method := by
        rw [State.code?_eq, State.code?_eq, hW'.alike.method?]
      exact Option.some.inj (hc₂.symm.trans (h1.trans h.code))
    subst hcc
    have hlen : len₂ = len := by rw [hdg] at hd₂; cases hd₂; rfl
    subst hlen
    have hs₂ : s₂ = (({ U with heap := s₂.heap, slotsUsed := s₂.slotsUsed } : State).setVm s₂.vm).setTop { g with pc := g.pc + len₂, stack := v.toList ++ g.stack } := by
      refine e3.trans ?_
      rw [hf₂, State.calling_eq h.top, State.setFrames_setFrames, State.setTop_of_frames _ hr', hr]
      rfl
    have hsame : U.sameButNew ({ U with heap := s₂.heap, slotsUsed := s₂.slotsUsed } : State) L mc ms := by
      refine ⟨?_, q2, q3, q4, q5, q6⟩
      obtain ⟨t, ht, -⟩ := State.frames_cons hr
      show ({ U with heap := s₂.heap, slotsUsed := s₂.slotsUsed } : State) = { U.setFrames U.frames with heap := s₂.heap, slotsUsed := s₂.slotsUsed }
      rw [State.setFrames_self ht]
    subst hg
    refine Or.inl ⟨v, ⟨(({ U with heap := s₂.heap, slotsUsed := s₂.slotsUsed } : State).setVm s₂.vm), Ls ++ L, c0 + mc, s0 + ms⟩,
      ⟨X.admits, X.cas, X.clock, X.frames, X.room, X.hears, X.method, X.code, (X.here.setHeapUsed s₂.heap s₂.slotsUsed).setVm hW'.alike, X.tail, State.WarmedH.trans X.warmed hW', X.limits, X.bytes, X.same.trans (hsame.setVm s.vm)⟩,
      ⟨g, mk, s₂, L, rfl, rfl, hqc, rfl, hL, rfl, rfl⟩, ?_⟩
    show Steps p.tables e below _ ((({ U with heap := s₂.heap, slotsUsed := s₂.slotsUsed } : State).setVm s₂.vm).setTop { g with pc := g.pc + len₂, stack := v.toList ++ g.stack })
    rw [← hs₂]
    exact hsteps
  · obtain ⟨e2, q2, q3, q4, q5, q6⟩ := id hsm
    have e3 : s₂ = ({ (U.calling g mk a).setFrames s₂.frames with heap := s₂.heap, slotsUsed := s₂.slotsUsed } : State).setVm s₂.vm := by
      have : s₂ = ({ s₂ with vm := (U.calling g mk a).vm } : State).setVm s₂.vm := rfl
      rw [e2] at this
      exact this
    have hf₂ : s₂.frames = .throwing q :: .java g :: U.frames.tail := hend
    have hW' : U.WarmedH s₂.vm := hW₂
    have hs₂ : s₂ = ((({ U with heap := s₂.heap, slotsUsed := s₂.slotsUsed } : State).setVm s₂.vm).setTop g).pushFrame (.throwing q) := by
      refine e3.trans ?_
      rw [hf₂, State.calling_eq h.top, State.setFrames_setFrames, State.pushFrame, State.frames_setTop _ hr', State.setTop_of_frames _ hr', State.setFrames_setFrames, hr]
      rfl
    have hsame : U.sameButNew ({ U with heap := s₂.heap, slotsUsed := s₂.slotsUsed } : State) L mc ms := by
      refine ⟨?_, q2, q3, q4, q5, q6⟩
      obtain ⟨t, ht, -⟩ := State.frames_cons hr
      show ({ U with heap := s₂.heap, slotsUsed := s₂.slotsUsed } : State) = { U.setFrames U.frames with heap := s₂.heap, slotsUsed := s₂.slotsUsed }
      rw [State.setFrames_self ht]
    subst hg
    refine Or.inr ⟨q, ⟨(({ U with heap := s₂.heap, slotsUsed := s₂.slotsUsed } : State).setVm s₂.vm), Ls ++ L, c0 + mc, s0 + ms⟩,
      ⟨X.admits, X.cas, X.clock, X.frames, X.room, X.hears, X.method, X.code, (X.here.setHeapUsed s₂.heap s₂.slotsUsed).setVm hW'.alike, X.tail, State.WarmedH.trans X.warmed hW', X.limits, X.bytes, X.same.trans (hsame.setVm s.vm)⟩,
      ⟨g, mk, s₂, L, E, ce, rfl, rfl, hx, hce, hcv, hcl, rfl, hL, rfl, rfl⟩, ?_⟩
    show Steps p.tables e below _ (((({ U with heap := s₂.heap, slotsUsed := s₂.slotsUsed } : State).setVm s₂.vm).setTop g).pushFrame (.throwing q))
    rw [← hs₂]
    exact hsteps
end
variable {p : Program} {l : Launch} {e : Env} {R : Room} {s : State} {m : MethodId} {args : Array Value} {below : List Frame} {meth : Method} {c : Code} {T : State} {H : Heap} {locs : List Loc} {cells slots : Nat}
theorem vx_callVX (X : Stand p l e R s m args below meth c T locs cells slots) (hexec : p.tables.exec = Jvm.exec) {own C : String} {index : Nat} {y : MethodName} {bytes : ByteArray} {maxL : Nat} {ret : Option FieldType} {hh : List (Nat × Nat × Nat × Nat)}
    (hown : s.vm.findClass own = some m.cls) (hlink : (Cond.methodLink own index y).before args s = true) (hinst : (Cond.instanceMethod y).before args s = true) (hsel : (Cond.selects C y y).before args s = true)
    (hcode : (Cond.codeWith y bytes maxL ret hh).before args s = true) (hy : y.cls ≠ "java/lang/invoke/MethodHandle" ∧ y.cls ≠ "java/lang/invoke/VarHandle")
    {W9 : Nat} {Pre : Pt → Array Value → Prop} {Post : Pt → Array Value → Option Value → Pt → Prop} {PostX : Pt → Array Value → Addr → Pt → Prop} (hK : vx_Back l R p e below s args y 3 W9 Pre Post PostX)
    {b : Addr} {cellB : Cell} (hcell : T.heap[b]? = some cellB) (hobj : cellB.vm.isStatics = false) (hcls : s.vm.findClass C = some cellB.cls)
    {g : JFrame} (hg : g.method = m) (hsize : g.locals.size = c.maxLocals) {argsL rest : List Value} (hlen : ∀ sig, parseMethodDescriptor y.desc = some sig → argsL.length = sig.parameters.length)
    (hstack : g.stack = argsL.reverse ++ .ref b :: rest) (hW : 2 * g.monitorRoom + (rest.map fun v => v.category).sum ≤ W9) (hdg : decode c.code g.pc = .ok (.invokevirtual index, 3))
    (hpre : ∀ vm₁, s.WarmedH vm₁ → Pre ⟨T.setVm vm₁, locs, cells, slots⟩ (Value.ref b :: argsL).toArray) :
    (∃ (v : Option Value) (vm₁ : Vm) (B : Pt), s.WarmedH vm₁ ∧ Stand p l e R s m args below meth c B.U B.locs B.cells B.slots ∧ Post ⟨T.setVm vm₁, locs, cells, slots⟩ (Value.ref b :: argsL).toArray v B ∧
      ∀ target, Steps p.tables e below (B.U.setTop { g with pc := g.pc + 3, stack := v.toList ++ rest }) target → Steps p.tables e below (T.setTop g) target) ∨
    (∃ (q : Addr) (vm₁ : Vm) (B : Pt), s.WarmedH vm₁ ∧ Stand p l e R s m args below meth c B.U B.locs B.cells B.slots ∧ PostX ⟨T.setVm vm₁, locs, cells, slots⟩ (Value.ref b :: argsL).toArray q B ∧
      Steps p.tables e below (T.setTop g) ((B.U.setTop { g with stack := rest }).pushFrame (.throwing q))) := by
  obtain ⟨mk, methM, hnamed, hmethM, hstM, habM⟩ := Cond.instanceMethod_spec hinst
  obtain ⟨m8, methM', cM, hn8, hmethM', -, -, -, -, -, -, hsigM⟩ := Cond.codeWith_spec hcode
  cases Option.some.inj (hn8.symm.trans hnamed)
  cases hmethM.symm.trans hmethM'
  obtain ⟨c2, r2, m2, q1, q2, q3, q4, kP, hkP, hkPi⟩ := Cond.selects_spec hsel
  cases hcls.symm.trans q1
  cases (State.methodFound?_of_named hnamed hy).symm.trans q2
  cases hnamed.symm.trans q3
  have hselP : selectMethod e.platform s.vm cellB.cls mk = .method mk := by rw [Launch.admits_selectMethod X.admits]; exact q4
  obtain ⟨vm₁, X₁, hstep₁⟩ := X.invokevirtual hexec hown hlink hnamed hmethM hstM hkP hkPi hy (a := b) (cell := cellB) hcell
    (fun z h => by rw [h] at hobj; cases hobj) hselP hmethM habM hkP hkPi (g := g) hg (argsL := argsL) (rest := rest) (hlen _ hsigM) hstack hdg
  rcases hK m meth c ⟨T.setVm vm₁, locs, cells, slots⟩ { g with stack := rest } (.invokevirtual index) mk (Value.ref b :: argsL).toArray X₁ hg hsize hdg hW (X₁.named hnamed) (hpre vm₁ X₁.warmed) with ⟨v, B, X', hpost, hsteps⟩ | ⟨q, B, X', hpost, hsteps⟩
  · exact Or.inl ⟨v, vm₁, B, X₁.warmed, X', hpost, fun target h => hstep₁ _ fun acts => by rw [doInvoke_state]; exact hsteps.trans h⟩
  · exact Or.inr ⟨q, vm₁, B, X₁.warmed, X', hpost, hstep₁ _ fun acts => by rw [doInvoke_state]; exact hsteps⟩
theorem vx_callSX (X : Stand p l e R s m args below meth c T locs cells slots) (hexec : p.tables.exec = Jvm.exec) {own : String} {index : Nat} {y : MethodName} {bytes : ByteArray} {maxL : Nat} {ret : Option FieldType} {hh : List (Nat × Nat × Nat × Nat)}
    (hown : s.vm.findClass own = some m.cls) (hlink : (Cond.methodLink own index y).before args s = true) (hstat : (Cond.static y).before args s = true) (hinit : (Cond.initialized y.cls).before args s = true)
    (hcode : (Cond.codeWith y bytes maxL ret hh).before args s = true) (hy : y.cls ≠ "java/lang/invoke/MethodHandle" ∧ y.cls ≠ "java/lang/invoke/VarHandle")
    {W9 : Nat} {Pre : Pt → Array Value → Prop} {Post : Pt → Array Value → Option Value → Pt → Prop} {PostX : Pt → Array Value → Addr → Pt → Prop} (hK : vx_Back l R p e below s args y 3 W9 Pre Post PostX)
    {g : JFrame} (hg : g.method = m) (hsize : g.locals.size = c.maxLocals) {argsL rest : List Value} (hlen : ∀ sig, parseMethodDescriptor y.desc = some sig → argsL.length = sig.parameters.length)
    (hstack : g.stack = argsL.reverse ++ rest) (hW : 2 * g.monitorRoom + (rest.map fun v => v.category).sum ≤ W9) (hdg : decode c.code g.pc = .ok (.invokestatic index, 3))
    (hpre : ∀ vm₁, s.WarmedH vm₁ → Pre ⟨T.setVm vm₁, locs, cells, slots⟩ argsL.toArray) :
    (∃ (v : Option Value) (vm₁ : Vm) (B : Pt), s.WarmedH vm₁ ∧ Stand p l e R s m args below meth c B.U B.locs B.cells B.slots ∧ Post ⟨T.setVm vm₁, locs, cells, slots⟩ argsL.toArray v B ∧
      ∀ target, Steps p.tables e below (B.U.setTop { g with pc := g.pc + 3, stack := v.toList ++ rest }) target → Steps p.tables e below (T.setTop g) target) ∨
    (∃ (q : Addr) (vm₁ : Vm) (B : Pt), s.WarmedH vm₁ ∧ Stand p l e R s m args below meth c B.U B.locs B.cells B.slots ∧ PostX ⟨T.setVm vm₁, locs, cells, slots⟩ argsL.toArray q B ∧
      Steps p.tables e below (T.setTop g) ((B.U.setTop { g with stack := rest }).pushFrame (.throwing q))) := by
  obtain ⟨mk, methM, cM, hnamed, hmethM, -, -, -, -, -, -, hsigM⟩ := Cond.codeWith_spec hcode
  have hstatic : methM.isStatic = true := Cond.static_spec hnamed hmethM hstat
  obtain ⟨kP, hkP, -⟩ := className_of_methodNamed hnamed
  have hinitP : kP.init = .initialized := Cond.initialized_spec (findClass_of_methodNamed hnamed) hkP hinit
  obtain ⟨vm₁, X₁, hstep₁⟩ := X.invokestatic hexec hown hlink hnamed hmethM hstatic hkP hinitP hy (g := g) hg (argsL := argsL) (rest := rest) (hlen _ hsigM) hstack hdg
  rcases hK m meth c ⟨T.setVm vm₁, locs, cells, slots⟩ { g with stack := rest } (.invokestatic index) mk argsL.toArray X₁ hg hsize hdg hW (X₁.named hnamed) (hpre vm₁ X₁.warmed) with ⟨v, B, X', hpost, hsteps⟩ | ⟨q, B, X', hpost, hsteps⟩
  · exact Or.inl ⟨v, vm₁, B, X₁.warmed, X', hpost, fun target h => hstep₁ _ fun acts => by rw [doInvoke_state]; exact hsteps.trans h⟩
  · exact Or.inr ⟨q, vm₁, B, X₁.warmed, X', hpost, hstep₁ _ fun acts => by rw [doInvoke_state]; exact hsteps⟩
theorem vx_callVW (X : Stand p l e R s m args below meth c T locs cells slots) (hexec : p.tables.exec = Jvm.exec) {own C : String} {index : Nat} {y : MethodName} {bytes : ByteArray} {maxL : Nat} {ret : Option FieldType} {hh : List (Nat × Nat × Nat × Nat)}
    (hown : s.vm.findClass own = some m.cls) (hlink : (Cond.methodLink own index y).before args s = true) (hinst : (Cond.instanceMethod y).before args s = true) (hsel : (Cond.selects C y y).before args s = true)
    (hcode : (Cond.codeWith y bytes maxL ret hh).before args s = true) (hy : y.cls ≠ "java/lang/invoke/MethodHandle" ∧ y.cls ≠ "java/lang/invoke/VarHandle")
    {W9 : Nat} {Pre : Pt → Array Value → Prop} {Post : Pt → Array Value → Option Value → Pt → Prop} (hK : Back l R p e below s args y 3 W9 Pre Post)
    {b : Addr} {cellB : Cell} (hcell : T.heap[b]? = some cellB) (hobj : cellB.vm.isStatics = false) (hcls : s.vm.findClass C = some cellB.cls)
    {g : JFrame} (hg : g.method = m) (hsize : g.locals.size = c.maxLocals) {argsL rest : List Value} (hlen : ∀ sig, parseMethodDescriptor y.desc = some sig → argsL.length = sig.parameters.length)
    (hstack : g.stack = argsL.reverse ++ .ref b :: rest) (hW : 2 * g.monitorRoom + (rest.map fun v => v.category).sum ≤ W9) (hdg : decode c.code g.pc = .ok (.invokevirtual index, 3))
    (hpre : ∀ vm₁, s.WarmedH vm₁ → Pre ⟨T.setVm vm₁, locs, cells, slots⟩ (Value.ref b :: argsL).toArray) :
    ∃ (v : Option Value) (vm₁ : Vm) (B : Pt), s.WarmedH vm₁ ∧ Stand p l e R s m args below meth c B.U B.locs B.cells B.slots ∧ Post ⟨T.setVm vm₁, locs, cells, slots⟩ (Value.ref b :: argsL).toArray v B ∧
      ∀ target, Steps p.tables e below (B.U.setTop { g with pc := g.pc + 3, stack := v.toList ++ rest }) target → Steps p.tables e below (T.setTop g) target := by
  obtain ⟨mk, methM, hnamed, hmethM, hstM, habM⟩ := Cond.instanceMethod_spec hinst
  obtain ⟨m8, methM', cM, hn8, hmethM', -, -, -, -, -, -, hsigM⟩ := Cond.codeWith_spec hcode
  cases Option.some.inj (hn8.symm.trans hnamed)
  cases hmethM.symm.trans hmethM'
  obtain ⟨c2, r2, m2, q1, q2, q3, q4, kP, hkP, hkPi⟩ := Cond.selects_spec hsel
  cases hcls.symm.trans q1
  cases (State.methodFound?_of_named hnamed hy).symm.trans q2
  cases hnamed.symm.trans q3
  have hselP : selectMethod e.platform s.vm cellB.cls mk = .method mk := by rw [Launch.admits_selectMethod X.admits]; exact q4
  obtain ⟨vm₁, X₁, hstep₁⟩ := X.invokevirtual hexec hown hlink hnamed hmethM hstM hkP hkPi hy (a := b) (cell := cellB) hcell
    (fun z h => by rw [h] at hobj; cases hobj) hselP hmethM habM hkP hkPi (g := g) hg (argsL := argsL) (rest := rest) (hlen _ hsigM) hstack hdg
  obtain ⟨v, B, X', hpost, hsteps⟩ := hK m meth c ⟨T.setVm vm₁, locs, cells, slots⟩ { g with stack := rest } (.invokevirtual index) mk (Value.ref b :: argsL).toArray X₁ hg hsize hdg hW (X₁.named hnamed) (hpre vm₁ X₁.warmed)
  exact ⟨v, vm₁, B, X₁.warmed, X', hpost, fun target h => hstep₁ _ fun acts => by rw [doInvoke_state]; exact hsteps.trans h⟩
abbrev vx_CVW (R : Room) (s : State) (args : Array Value) (own C : String) (index : Nat) (y : MethodName) (bytes : ByteArray) (maxL : Nat) (ret : Option FieldType) (hh : List (Nat × Nat × Nat × Nat)) (ws : List Cond) (rm : Room) (mc ms n : Nat) : Prop :=
  (rm.cells = mc ∧ rm.slots = ms ∧ rm.frames + 1 ≤ R.frames ∧ 8 + (maxL + 11) + rm.locals ≤ R.locals ∧ (∀ w ∈ ws, ∀ (a' : Array Value) (U : State), s.WarmedH U.vm → w.before a' U = true) ∧ Cond.codeWith y bytes maxL ret hh ∈ ws) ∧
  (Cond.codeWith y bytes maxL ret hh).before args s = true ∧ (Cond.initialized y.cls).before args s = true ∧ (y.cls ≠ "java/lang/invoke/MethodHandle" ∧ y.cls ≠ "java/lang/invoke/VarHandle") ∧
  (∀ sig, parseMethodDescriptor y.desc = some sig → n = sig.parameters.length) ∧ (Cond.methodLink own index y).before args s = true ∧ (Cond.instanceMethod y).before args s = true ∧ (Cond.selects C y y).before args s = true
theorem vx_cwVW {own C : String} {index maxL mc ms : Nat} {y : MethodName} {bytes : ByteArray} {ret : Option FieldType} {hh : List (Nat × Nat × Nat × Nat)} {Ts ws ws' : List Cond} {rm : Room} (n : Nat) (ht : ∀ w ∈ Ts, w.before args s = true) (hT : GoodIn Ts (wsV own index C y ws)) (hw : ws = Cond.codeWith y bytes maxL ret hh :: ws') (hrc : rm.cells = mc) (hrs : rm.slots = ms)
    (hd : y.cls = C ∧ y.cls ≠ "java/lang/invoke/MethodHandle" ∧ y.cls ≠ "java/lang/invoke/VarHandle" ∧ (parseMethodDescriptor y.desc).map (fun d => d.parameters.length) = some n) (hR : rm.frames + 1 ≤ R.frames ∧ 8 + (maxL + 11) + rm.locals ≤ R.locals) :
    vx_CVW R s args own C index y bytes maxL ret hh ws rm mc ms n := by
  obtain ⟨hC, hd⟩ := hd
  subst hC
  have ok : ∀ w ∈ wsV own index y.cls y ws, w.before args s = true := fun w h => ht w (hT w h).1
  have hG : GoodIn Ts ws := fun w h => hT w (by unfold wsV; exact List.mem_append_right _ h)
  have hc : Cond.codeWith y bytes maxL ret hh ∈ ws := by rw [hw]; exact List.mem_cons_self
  refine ⟨⟨hrc, hrs, hR.1, hR.2, pay_in ht hG, hc⟩, ht _ (hG _ hc).1, ok _ (by simp [wsV]), ⟨hd.1, hd.2.1⟩, fun sig h => ?_, ok _ (by simp [wsV]), ok _ (by simp [wsV]), ok _ (by simp [wsV])⟩
  have h2 := hd.2.2
  rw [h] at h2
  exact (Option.some.inj h2).symm
theorem vx_runVW {y : MethodName} {bytes cc : ByteArray} {maxL nL mc ms n index : Nat} {ret : Option FieldType} {hh : List (Nat × Nat × Nat × Nat)} {ws : List Cond} {rm : Room} {Pc : Array Value → State → Prop} {Qc : Array Value → State → Outcome → State → Prop} {free : Addr → Prop} {Ts : List Cond} {own C : String} {b : Addr} {As rest : List Value} {g : JFrame}
    (S : CallFix p m c cc nL s args Ts own) (hM : Met l y ws rm Pc Qc mc ms free) (cw : vx_CVW R s args own C index y bytes maxL ret hh ws rm mc ms n) (hp : PreV s H C b Pc As)
    (hg : g.method = m) (hn : As.length = n) (hsize : g.locals.size = nL) (hstack : g.stack = As.reverse ++ .ref b :: rest) (hW : 2 * g.monitorRoom + (rest.map fun v => v.category).sum ≤ 8) (hdg : decode cc g.pc = .ok (.invokevirtual index, 3)) (hf : cells + mc ≤ R.cells ∧ slots + ms ≤ R.slots) :
    va_Run p l e R s m args below meth c H locs cells slots mc ms g rest (Qc (Value.ref b :: As).toArray) free := by
  obtain ⟨⟨hrc, hrs, hfr, hlo, hws, hcw⟩, hcode, hini, hy, hlen, hl, hin, hse⟩ := cw
  have hK : Back l R p e below s args y 3 8 (PreOf R mc ms Pc) (PostOf Qc mc ms free) := va_backW (hh := hh) (bytes := bytes) (maxL := maxL) (ret := ret) hM hp.1 hrc hrs hfr hlo hws hcw (fun a' U hW => word_at hW (Or.inl (by first | rfl | simp [Cond.onTables, Cond.keeps, Cond.steady])) hini)
  obtain ⟨hx, hb, hml, ho, -⟩ := S
  obtain ⟨-, ⟨cellB, hcB, hoB, hclB⟩, hPc⟩ := hp
  intro T hT X
  obtain ⟨v, vm₁, ⟨U', l2, c2, s2⟩, hW₁, X', ⟨g', mk, t, L, e1, e2, hq, h1, hL, h2, h3⟩, st⟩ := vx_callVW X hx (C := C) (hh := hh) (bytes := bytes) (maxL := maxL) (ret := ret) ho hl hin hse hcode hy hK (by rw [hT]; exact hcB) hoB hclB hg (hsize.trans hml.symm) (argsL := As) (rest := rest) (fun sig h => hn.trans (hlen sig h)) hstack hW (by rw [hb]; exact hdg)
    (fun vm₁ hW₁ => ⟨hf.1, hf.2, hPc (T.setVm vm₁) hT hW₁⟩)
  dsimp only [Pt.U, Pt.locs, Pt.cells, Pt.slots] at X' e1 e2 h1 h2 h3 st
  subst h1; subst h2; subst h3
  exact ⟨v, (T.setVm vm₁).calling g' mk (Value.ref b :: As).toArray, t, U', L, hT, X', hL, e1, e2, hq, st⟩
section
variable {y : MethodName} {bytes cc : ByteArray} {maxL nL mc ms n index : Nat} {ret : Option FieldType} {ws : List Cond} {rm : Room} {Pc : Array Value → State → Prop} {Qc : Array Value → State → Outcome → State → Prop} {XC : String → State → State → Prop} {free : Addr → Prop} {Ts : List Cond} {own C : String} {b : Addr} {As rest : List Value} {g : JFrame}
theorem vx_runVX {hh : List (Nat × Nat × Nat × Nat)} (S : CallFix p m c cc nL s args Ts own) (hM : vx_Met l y ws rm Pc Qc XC mc ms free) (cw : vx_CVW R s args own C index y bytes maxL ret hh ws rm mc ms n) (hp : PreV s H C b Pc As)
    (hg : g.method = m) (hn : As.length = n) (hsize : g.locals.size = nL) (hstack : g.stack = As.reverse ++ .ref b :: rest) (hW : 2 * g.monitorRoom + (rest.map fun v => v.category).sum ≤ 8) (hdg : decode cc g.pc = .ok (.invokevirtual index, 3)) (hf : cells + mc ≤ R.cells ∧ slots + ms ≤ R.slots) :
    vx_Run p l e R s m args below meth c H locs cells slots mc ms g rest (Qc (Value.ref b :: As).toArray) XC free := by
  obtain ⟨⟨hrc, hrs, hfr, hlo, hws, hcw⟩, hcode, hini, hy, hlen, hl, hin, hse⟩ := cw
  have hK : vx_Back l R p e below s args y 3 8 (PreOf R mc ms Pc) (PostOf Qc mc ms free) (vx_Post XC mc ms free) := vx_backW (hh := hh) (bytes := bytes) (maxL := maxL) (ret := ret) hM hp.1 hrc hrs hfr hlo hws hcw (fun a' U hW => word_at hW (Or.inl (by first | rfl | simp [Cond.onTables, Cond.keeps, Cond.steady])) hini)
  obtain ⟨hx, hb, hml, ho, -⟩ := S
  obtain ⟨-, ⟨cellB, hcB, hoB, hclB⟩, hPc⟩ := hp
  intro T hT X
  rcases vx_callVX X hx (C := C) (hh := hh) (bytes := bytes) (maxL := maxL) (ret := ret) ho hl hin hse hcode hy hK (by rw [hT]; exact hcB) hoB hclB hg (hsize.trans hml.symm) (argsL := As) (rest := rest) (fun sig h => hn.trans (hlen sig h)) hstack hW (by rw [hb]; exact hdg)
    (fun vm₁ hW₁ => ⟨hf.1, hf.2, hPc (T.setVm vm₁) hT hW₁⟩) with ⟨v, vm₁, ⟨U', l2, c2, s2⟩, hW₁, X', ⟨g', mk, t, L, e1, e2, hq, h1, hL, h2, h3⟩, st⟩ | ⟨q, vm₁, ⟨U', l2, c2, s2⟩, hW₁, X', ⟨g', mk, t, L, E, ce, e1, e2, hq, hce, hcv, hcl, h1, hL, h2, h3⟩, st⟩
  · dsimp only [Pt.U, Pt.locs, Pt.cells, Pt.slots] at X' e1 e2 h1 h2 h3 st
    subst h1; subst h2; subst h3
    exact Or.inl ⟨v, (T.setVm vm₁).calling g' mk (Value.ref b :: As).toArray, t, U', L, hT, X', hL, e1, e2, hq, st⟩
  · dsimp only [Pt.U, Pt.locs, Pt.cells, Pt.slots] at X' e1 e2 h1 h2 h3 st hcl
    subst h1; subst h2; subst h3
    exact Or.inr ⟨q, (T.setVm vm₁).calling g' mk (Value.ref b :: As).toArray, t, U', L, E, ce, hT, X', hL, e1, e2, hq, hce, hcv, vx_cls hW₁ hcl, st⟩
theorem vx_runSX {hh : List (Nat × Nat × Nat × Nat)} (S : CallFix p m c cc nL s args Ts own) (hM : vx_Met l y ws rm Pc Qc XC mc ms free) (cw : vx_CSW R s args own index y bytes maxL ret hh ws rm mc ms n) (hp : PreS s H Pc As)
    (hg : g.method = m) (hn : As.length = n) (hsize : g.locals.size = nL) (hstack : g.stack = As.reverse ++ rest) (hW : 2 * g.monitorRoom + (rest.map fun v => v.category).sum ≤ 8) (hdg : decode cc g.pc = .ok (.invokestatic index, 3)) (hf : cells + mc ≤ R.cells ∧ slots + ms ≤ R.slots) :
    vx_Run p l e R s m args below meth c H locs cells slots mc ms g rest (Qc As.toArray) XC free := by
  obtain ⟨⟨hrc, hrs, hfr, hlo, hws, hcw⟩, hcode, hini, hy, hlen, hl, hstt⟩ := cw
  have hK : vx_Back l R p e below s args y 3 8 (PreOf R mc ms Pc) (PostOf Qc mc ms free) (vx_Post XC mc ms free) := vx_backW (hh := hh) (bytes := bytes) (maxL := maxL) (ret := ret) hM hp.1 hrc hrs hfr hlo hws hcw (fun a' U hW => word_at hW (Or.inl (by first | rfl | simp [Cond.onTables, Cond.keeps, Cond.steady])) hini)
  obtain ⟨hx, hb, hml, ho, -⟩ := S
  intro T hT X
  rcases vx_callSX X hx (hh := hh) (bytes := bytes) (maxL := maxL) (ret := ret) ho hl hstt hini hcode hy hK hg (hsize.trans hml.symm) (argsL := As) (rest := rest) (fun sig h => hn.trans (hlen sig h)) hstack hW (by rw [hb]; exact hdg)
    (fun vm₁ hW₁ => ⟨hf.1, hf.2, hp.2 (T.setVm vm₁) hT hW₁⟩) with ⟨v, vm₁, ⟨U', l2, c2, s2⟩, hW₁, X', ⟨g', mk, t, L, e1, e2, hq, h1, hL, h2, h3⟩, st⟩ | ⟨q, vm₁, ⟨U', l2, c2, s2⟩, hW₁, X', ⟨g', mk, t, L, E, ce, e1, e2, hq, hce, hcv, hcl, h1, hL, h2, h3⟩, st⟩
  · dsimp only [Pt.U, Pt.locs, Pt.cells, Pt.slots] at X' e1 e2 h1 h2 h3 st
    subst h1; subst h2; subst h3
    exact Or.inl ⟨v, (T.setVm vm₁).calling g' mk As.toArray, t, U', L, hT, X', hL, e1, e2, hq, st⟩
  · dsimp only [Pt.U, Pt.locs, Pt.cells, Pt.slots] at X' e1 e2 h1 h2 h3 st hcl
    subst h1; subst h2; subst h3
    exact Or.inr ⟨q, (T.setVm vm₁).calling g' mk As.toArray, t, U', L, E, ce, hT, X', hL, e1, e2, hq, hce, hcv, vx_cls hW₁ hcl, st⟩
end
end VXH
theorem vx_ofWH {l : Launch} {y : MethodName} {ws ws' : List Cond} {rm : Room} {Pc : Array Value → State → Prop} {Qc : Array Value → State → Outcome → State → Prop} {XC : String → State → State → Prop} {mc ms : Nat} {free : Addr → Prop} {cc : ByteArray} {maxL : Nat} {ret : Option FieldType} {hh : List (Nat × Nat × Nat × Nat)}
    (hy : plainName y.cls = true) (hw : ws = Cond.codeWith y cc maxL ret hh :: ws')
    (body : ∀ p e s m args below meth c s₁, BodyLoose p l y (headSpec ws rm) cc maxL ret e s m args below meth c s₁ → c.maxLocals = maxL → Pc args s →
      W p l e (headSpec ws rm).room s m args below meth c s.heap [] 0 0 (vx_MQ below Qc XC args s mc ms free) (entryFrame m args maxL)) : vx_Met l y ws rm Pc Qc XC mc ms free := by
  refine MetFree.of_bodyS (code := cc) (maxLocals := maxL) (ret := ret) hy ?_ ?_
  · intro args s m h hn
    obtain ⟨m9, meth, c, hn9, h1, h2, h3, h4, -, h5, h6, -⟩ := Cond.codeWith_spec (atoms_spec (ws := ws) h _ (by rw [hw]; exact List.mem_cons_self))
    cases hn.symm.trans hn9
    exact ⟨meth, c, h1, h2, h3, h4, h5, h6⟩
  · intro p e s m args below meth c s₁ B hml hP _
    have hh0 : s₁.heap = s.heap := by rw [B.state]; rfl
    obtain ⟨t, a1, o, b1, b2, b3⟩ := body p e s m args below meth c s₁ B hml hP s₁ hh0 (Stand.of_body B)
    exact ⟨t, o, a1, b1, b2, b3⟩
/-! ===== END ===== -/

/-! ===== BEGIN printed: names, fields, word lists, decode rows ===== -/
def RX0 : String := "TarockHall$Bidding"
def TX0 : u_T := fun k => match k with
  | 0 => ("TarockHall$Bidding", "passed", "I", false)
  | 1 => ("TarockHall$Bidding", "highest", "I", false)
  | _ => ("TarockHall$Bidding", "bidder", "I", false)
def tyX0 : Nat → FieldType := fun k => match k with
  | 0 => .int
  | 1 => .int
  | _ => .int
abbrev wsX00 : List Cond := u_ws RX0 TX0 3
theorem nmX0 : ∀ a, a < 3 → ∀ b, b < 3 → a ≠ b → (TX0 a).2.1 ≠ (TX0 b).2.1 := by decide +kernel
theorem tyX0_ok : ∀ k, k < 3 → parseFieldDescriptor (TX0 k).2.2.1 = some (tyX0 k) := by decide +kernel
abbrev cX0_init : ByteArray := prog_2_method_1_code
def yX0_init : MethodName := ⟨RX0, "<init>", "()V"⟩
abbrev cX0_clear : ByteArray := prog_2_method_2_code
def yX0_clear : MethodName := ⟨RX0, "clear", "()V"⟩
abbrev cX0_enter : ByteArray := prog_2_method_3_code
def yX0_enter : MethodName := ⟨RX0, "enter", "(II)V"⟩
abbrev cX0_allPassed : ByteArray := prog_2_method_4_code
def yX0_allPassed : MethodName := ⟨RX0, "allPassed", "()Z"⟩
abbrev cX0_isSettled : ByteArray := prog_2_method_5_code
def yX0_isSettled : MethodName := ⟨RX0, "isSettled", "()Z"⟩
abbrev cX0_nextBehind : ByteArray := prog_2_method_6_code
def yX0_nextBehind : MethodName := ⟨RX0, "nextBehind", "(I)I"⟩
abbrev cX0_hasPassed : ByteArray := prog_2_method_7_code
def yX0_hasPassed : MethodName := ⟨RX0, "hasPassed", "(I)Z"⟩
def RX1 : String := "TarockHall$Deck"
def TX1 : u_T := fun k => match k with
  | _ => ("TarockHall$Deck", "row", "LTarockHall$Row;", true)
def tyX1 : Nat → FieldType := fun k => match k with
  | _ => .object "TarockHall$Row"
abbrev wsX10 : List Cond := u_ws RX1 TX1 1
theorem nmX1 : ∀ a, a < 1 → ∀ b, b < 1 → a ≠ b → (TX1 a).2.1 ≠ (TX1 b).2.1 := by decide +kernel
theorem tyX1_ok : ∀ k, k < 1 → parseFieldDescriptor (TX1 k).2.2.1 = some (tyX1 k) := by decide +kernel
abbrev cX1_init : ByteArray := prog_3_method_1_code
def yX1_init : MethodName := ⟨RX1, "<init>", "()V"⟩
abbrev cX1_shuffle : ByteArray := prog_3_method_2_code
def yX1_shuffle : MethodName := ⟨RX1, "shuffle", "(I)V"⟩
abbrev cX1_swap : ByteArray := prog_3_method_3_code
def yX1_swap : MethodName := ⟨RX1, "swap", "(II)V"⟩
abbrev cX1_cardAt : ByteArray := prog_3_method_4_code
def yX1_cardAt : MethodName := ⟨RX1, "cardAt", "(I)I"⟩
abbrev cX1_cardsFrom : ByteArray := prog_3_method_5_code
def yX1_cardsFrom : MethodName := ⟨RX1, "cardsFrom", "(II)J"⟩
def RX2 : String := "TarockHall$Row"
def TX2 : u_T := fun k => match k with
  | _ => ("TarockHall$Row", "items", "[I", true)
def tyX2 : Nat → FieldType := fun k => match k with
  | _ => .array .int
abbrev wsX20 : List Cond := u_ws RX2 TX2 1
theorem nmX2 : ∀ a, a < 1 → ∀ b, b < 1 → a ≠ b → (TX2 a).2.1 ≠ (TX2 b).2.1 := by decide +kernel
theorem tyX2_ok : ∀ k, k < 1 → parseFieldDescriptor (TX2 k).2.2.1 = some (tyX2 k) := by decide +kernel
abbrev cX2_init : ByteArray := prog_4_method_1_code
def yX2_init : MethodName := ⟨RX2, "<init>", "(I)V"⟩
abbrev cX2_at : ByteArray := prog_4_method_2_code
def yX2_at : MethodName := ⟨RX2, "at", "(I)I"⟩
abbrev cX2_put : ByteArray := prog_4_method_3_code
def yX2_put : MethodName := ⟨RX2, "put", "(II)V"⟩
def RX3 : String := "TarockHall$Sets"
def TX3 : u_T := fun k => match k with
  | _ => ("TarockHall$Sets", "items", "[J", true)
def tyX3 : Nat → FieldType := fun k => match k with
  | _ => .array .long
abbrev wsX30 : List Cond := u_ws RX3 TX3 1
theorem nmX3 : ∀ a, a < 1 → ∀ b, b < 1 → a ≠ b → (TX3 a).2.1 ≠ (TX3 b).2.1 := by decide +kernel
theorem tyX3_ok : ∀ k, k < 1 → parseFieldDescriptor (TX3 k).2.2.1 = some (tyX3 k) := by decide +kernel
abbrev cX3_init : ByteArray := prog_5_method_1_code
def yX3_init : MethodName := ⟨RX3, "<init>", "(I)V"⟩
abbrev cX3_at : ByteArray := prog_5_method_2_code
def yX3_at : MethodName := ⟨RX3, "at", "(I)J"⟩
abbrev cX3_put : ByteArray := prog_5_method_3_code
def yX3_put : MethodName := ⟨RX3, "put", "(IJ)V"⟩
def RX4 : String := "TarockHall$Sheet"
def TX4 : u_T := fun k => match k with
  | 0 => ("TarockHall$Sheet", "scores", "LTarockHall$Row;", true)
  | 1 => ("TarockHall$Sheet", "radli", "LTarockHall$Row;", true)
  | _ => ("TarockHall$Sheet", "latest", "I", false)
def tyX4 : Nat → FieldType := fun k => match k with
  | 0 => .object "TarockHall$Row"
  | 1 => .object "TarockHall$Row"
  | _ => .int
abbrev wsX40 : List Cond := u_ws RX4 TX4 3
theorem nmX4 : ∀ a, a < 3 → ∀ b, b < 3 → a ≠ b → (TX4 a).2.1 ≠ (TX4 b).2.1 := by decide +kernel
theorem tyX4_ok : ∀ k, k < 3 → parseFieldDescriptor (TX4 k).2.2.1 = some (tyX4 k) := by decide +kernel
abbrev cX4_init : ByteArray := prog_6_method_1_code
def yX4_init : MethodName := ⟨RX4, "<init>", "()V"⟩
abbrev cX4_enter : ByteArray := prog_6_method_2_code
def yX4_enter : MethodName := ⟨RX4, "enter", "(IIIZ)V"⟩
abbrev cX4_giveRadli : ByteArray := prog_6_method_3_code
def yX4_giveRadli : MethodName := ⟨RX4, "giveRadli", "()V"⟩
abbrev cX4_addScore : ByteArray := prog_6_method_4_code
def yX4_addScore : MethodName := ⟨RX4, "addScore", "(I)V"⟩
def RX5 : String := "TarockHall$Trick"
def TX5 : u_T := fun k => match k with
  | 0 => ("TarockHall$Trick", "cards", "LTarockHall$Row;", true)
  | 1 => ("TarockHall$Trick", "leader", "I", false)
  | _ => ("TarockHall$Trick", "size", "I", false)
def tyX5 : Nat → FieldType := fun k => match k with
  | 0 => .object "TarockHall$Row"
  | 1 => .int
  | _ => .int
abbrev wsX50 : List Cond := u_ws RX5 TX5 3
theorem nmX5 : ∀ a, a < 3 → ∀ b, b < 3 → a ≠ b → (TX5 a).2.1 ≠ (TX5 b).2.1 := by decide +kernel
theorem tyX5_ok : ∀ k, k < 3 → parseFieldDescriptor (TX5 k).2.2.1 = some (tyX5 k) := by decide +kernel
abbrev cX5_init : ByteArray := prog_7_method_1_code
def yX5_init : MethodName := ⟨RX5, "<init>", "()V"⟩
abbrev cX5_begin : ByteArray := prog_7_method_2_code
def yX5_begin : MethodName := ⟨RX5, "begin", "(I)V"⟩
abbrev cX5_add : ByteArray := prog_7_method_3_code
def yX5_add : MethodName := ⟨RX5, "add", "(I)V"⟩
abbrev cX5_cardAt : ByteArray := prog_7_method_4_code
def yX5_cardAt : MethodName := ⟨RX5, "cardAt", "(I)I"⟩
abbrev cX5_ledSuit : ByteArray := prog_7_method_5_code
def yX5_ledSuit : MethodName := ⟨RX5, "ledSuit", "()I"⟩
abbrev cX5_cardSet : ByteArray := prog_7_method_6_code
def yX5_cardSet : MethodName := ⟨RX5, "cardSet", "()J"⟩
abbrev cX5_playerOf : ByteArray := prog_7_method_7_code
def yX5_playerOf : MethodName := ⟨RX5, "playerOf", "(I)I"⟩
abbrev cX5_winner : ByteArray := prog_7_method_8_code
def yX5_winner : MethodName := ⟨RX5, "winner", "()I"⟩
abbrev cX5_playerAt : ByteArray := prog_7_method_9_code
def yX5_playerAt : MethodName := ⟨RX5, "playerAt", "(I)I"⟩
abbrev cX5_beats : ByteArray := prog_7_method_10_code
def yX5_beats : MethodName := ⟨RX5, "beats", "(II)Z"⟩
def RX6 : String := "TarockHall"
def TX6 : u_T := fun k => match k with
  | 0 => ("TarockHall", "deck", "LTarockHall$Deck;", true)
  | 1 => ("TarockHall", "bidding", "LTarockHall$Bidding;", true)
  | 2 => ("TarockHall", "trick", "LTarockHall$Trick;", true)
  | 3 => ("TarockHall", "sheet", "LTarockHall$Sheet;", true)
  | 4 => ("TarockHall", "hands", "LTarockHall$Sets;", true)
  | 5 => ("TarockHall", "piles", "LTarockHall$Sets;", true)
  | 6 => ("TarockHall", "forehand", "I", false)
  | 7 => ("TarockHall", "phase", "I", false)
  | 8 => ("TarockHall", "turn", "I", false)
  | 9 => ("TarockHall", "declarer", "I", false)
  | 10 => ("TarockHall", "called", "I", false)
  | 11 => ("TarockHall", "kingOwner", "I", false)
  | 12 => ("TarockHall", "partner", "I", false)
  | 13 => ("TarockHall", "toLayAway", "I", false)
  | 14 => ("TarockHall", "laidAway", "J", false)
  | 15 => ("TarockHall", "restOfTalon", "J", false)
  | 16 => ("TarockHall", "announced", "I", false)
  | _ => ("TarockHall", "tricks", "I", false)
def tyX6 : Nat → FieldType := fun k => match k with
  | 0 => .object "TarockHall$Deck"
  | 1 => .object "TarockHall$Bidding"
  | 2 => .object "TarockHall$Trick"
  | 3 => .object "TarockHall$Sheet"
  | 4 => .object "TarockHall$Sets"
  | 5 => .object "TarockHall$Sets"
  | 6 => .int
  | 7 => .int
  | 8 => .int
  | 9 => .int
  | 10 => .int
  | 11 => .int
  | 12 => .int
  | 13 => .int
  | 14 => .long
  | 15 => .long
  | 16 => .int
  | _ => .int
abbrev wsX60 : List Cond := u_ws RX6 TX6 18
theorem nmX6 : ∀ a, a < 18 → ∀ b, b < 18 → a ≠ b → (TX6 a).2.1 ≠ (TX6 b).2.1 := by decide +kernel
theorem tyX6_ok : ∀ k, k < 18 → parseFieldDescriptor (TX6 k).2.2.1 = some (tyX6 k) := by decide +kernel
abbrev cX6_init : ByteArray := prog_1_method_1_code
def yX6_init : MethodName := ⟨RX6, "<init>", "()V"⟩
abbrev cX6_deal : ByteArray := prog_1_method_2_code
def yX6_deal : MethodName := ⟨RX6, "deal", "(I)I"⟩
abbrev cX6_bid : ByteArray := prog_1_method_3_code
def yX6_bid : MethodName := ⟨RX6, "bid", "(I)I"⟩
abbrev cX6_call : ByteArray := prog_1_method_4_code
def yX6_call : MethodName := ⟨RX6, "call", "(I)I"⟩
abbrev cX6_take : ByteArray := prog_1_method_5_code
def yX6_take : MethodName := ⟨RX6, "take", "(I)I"⟩
abbrev cX6_discard : ByteArray := prog_1_method_6_code
def yX6_discard : MethodName := ⟨RX6, "discard", "(I)I"⟩
abbrev cX6_announce : ByteArray := prog_1_method_7_code
def yX6_announce : MethodName := ⟨RX6, "announce", "(I)I"⟩
abbrev cX6_play : ByteArray := prog_1_method_8_code
def yX6_play : MethodName := ⟨RX6, "play", "(I)I"⟩
abbrev cX6_playLowest : ByteArray := prog_1_method_9_code
def yX6_playLowest : MethodName := ⟨RX6, "playLowest", "(I)I"⟩
abbrev cX6_phase : ByteArray := prog_1_method_10_code
def yX6_phase : MethodName := ⟨RX6, "phase", "()I"⟩
abbrev cX6_turn : ByteArray := prog_1_method_11_code
def yX6_turn : MethodName := ⟨RX6, "turn", "()I"⟩
abbrev cX6_declarer : ByteArray := prog_1_method_12_code
def yX6_declarer : MethodName := ⟨RX6, "declarer", "()I"⟩
abbrev cX6_level : ByteArray := prog_1_method_13_code
def yX6_level : MethodName := ⟨RX6, "level", "()I"⟩
abbrev cX6_called : ByteArray := prog_1_method_14_code
def yX6_called : MethodName := ⟨RX6, "called", "()I"⟩
abbrev cX6_partner : ByteArray := prog_1_method_15_code
def yX6_partner : MethodName := ⟨RX6, "partner", "()I"⟩
abbrev cX6_hand : ByteArray := prog_1_method_16_code
def yX6_hand : MethodName := ⟨RX6, "hand", "(I)J"⟩
abbrev cX6_talonAt : ByteArray := prog_1_method_17_code
def yX6_talonAt : MethodName := ⟨RX6, "talonAt", "(I)I"⟩
abbrev cX6_inTrick : ByteArray := prog_1_method_18_code
def yX6_inTrick : MethodName := ⟨RX6, "inTrick", "()I"⟩
abbrev cX6_trickAt : ByteArray := prog_1_method_19_code
def yX6_trickAt : MethodName := ⟨RX6, "trickAt", "(I)I"⟩
abbrev cX6_canPlay : ByteArray := prog_1_method_20_code
def yX6_canPlay : MethodName := ⟨RX6, "canPlay", "(I)Z"⟩
abbrev cX6_tricks : ByteArray := prog_1_method_21_code
def yX6_tricks : MethodName := ⟨RX6, "tricks", "()I"⟩
abbrev cX6_valueOf : ByteArray := prog_1_method_22_code
def yX6_valueOf : MethodName := ⟨RX6, "valueOf", "(I)I"⟩
abbrev cX6_thirds : ByteArray := prog_1_method_23_code
def yX6_thirds : MethodName := ⟨RX6, "thirds", "(I)I"⟩
abbrev cX6_byPacks : ByteArray := prog_1_method_24_code
def yX6_byPacks : MethodName := ⟨RX6, "byPacks", "(I)I"⟩
abbrev cX6_score : ByteArray := prog_1_method_25_code
def yX6_score : MethodName := ⟨RX6, "score", "(I)I"⟩
abbrev cX6_radli : ByteArray := prog_1_method_26_code
def yX6_radli : MethodName := ⟨RX6, "radli", "(I)I"⟩
abbrev cX6_result : ByteArray := prog_1_method_27_code
def yX6_result : MethodName := ⟨RX6, "result", "()I"⟩
abbrev cX6_knows : ByteArray := prog_1_method_28_code
def yX6_knows : MethodName := ⟨RX6, "knows", "(II)I"⟩
abbrev cX6_clearDeal : ByteArray := prog_1_method_29_code
def yX6_clearDeal : MethodName := ⟨RX6, "clearDeal", "()V"⟩
abbrev cX6_handOut : ByteArray := prog_1_method_30_code
def yX6_handOut : MethodName := ⟨RX6, "handOut", "()V"⟩
abbrev cX6_beginGame : ByteArray := prog_1_method_31_code
def yX6_beginGame : MethodName := ⟨RX6, "beginGame", "()V"⟩
abbrev cX6_beginPlay : ByteArray := prog_1_method_32_code
def yX6_beginPlay : MethodName := ⟨RX6, "beginPlay", "()V"⟩
abbrev cX6_addToTrick : ByteArray := prog_1_method_33_code
def yX6_addToTrick : MethodName := ⟨RX6, "addToTrick", "(I)I"⟩
abbrev cX6_endTrick : ByteArray := prog_1_method_34_code
def yX6_endTrick : MethodName := ⟨RX6, "endTrick", "(I)V"⟩
abbrev cX6_endDeal : ByteArray := prog_1_method_35_code
def yX6_endDeal : MethodName := ⟨RX6, "endDeal", "()V"⟩
abbrev cX6_enterResult : ByteArray := prog_1_method_36_code
def yX6_enterResult : MethodName := ⟨RX6, "enterResult", "(I)V"⟩
abbrev cX6_pagatPoints : ByteArray := prog_1_method_37_code
def yX6_pagatPoints : MethodName := ⟨RX6, "pagatPoints", "(I)I"⟩
abbrev cX6_kingPoints : ByteArray := prog_1_method_38_code
def yX6_kingPoints : MethodName := ⟨RX6, "kingPoints", "(I)I"⟩
abbrev cX6_groupsNow : ByteArray := prog_1_method_39_code
def yX6_groupsNow : MethodName := ⟨RX6, "groupsNow", "()I"⟩
abbrev cX6_playableNow : ByteArray := prog_1_method_40_code
def yX6_playableNow : MethodName := ⟨RX6, "playableNow", "()J"⟩
abbrev cX6_isAnnounced : ByteArray := prog_1_method_41_code
def yX6_isAnnounced : MethodName := ⟨RX6, "isAnnounced", "(I)Z"⟩
abbrev cX6_calledKing : ByteArray := prog_1_method_42_code
def yX6_calledKing : MethodName := ⟨RX6, "calledKing", "()I"⟩
abbrev cX6_ownerOf : ByteArray := prog_1_method_43_code
def yX6_ownerOf : MethodName := ⟨RX6, "ownerOf", "(I)I"⟩
abbrev cX6_sideOf : ByteArray := prog_1_method_44_code
def yX6_sideOf : MethodName := ⟨RX6, "sideOf", "(I)I"⟩
abbrev cX6_sidesAreOpen : ByteArray := prog_1_method_45_code
def yX6_sidesAreOpen : MethodName := ⟨RX6, "sidesAreOpen", "()Z"⟩
abbrev cX6_isPlayer : ByteArray := prog_1_method_46_code
def yX6_isPlayer : MethodName := ⟨RX6, "isPlayer", "(I)Z"⟩
abbrev cX6_isCard : ByteArray := prog_1_method_47_code
def yX6_isCard : MethodName := ⟨RX6, "isCard", "(I)Z"⟩
abbrev cX6_isSide : ByteArray := prog_1_method_48_code
def yX6_isSide : MethodName := ⟨RX6, "isSide", "(I)Z"⟩
abbrev cX6_behind : ByteArray := prog_1_method_49_code
def yX6_behind : MethodName := ⟨RX6, "behind", "(I)I"⟩
abbrev cX6_suitOf : ByteArray := prog_1_method_50_code
def yX6_suitOf : MethodName := ⟨RX6, "suitOf", "(I)I"⟩
abbrev cX6_worth : ByteArray := prog_1_method_51_code
def yX6_worth : MethodName := ⟨RX6, "worth", "(I)I"⟩
abbrev cX6_canBeLaidAway : ByteArray := prog_1_method_52_code
def yX6_canBeLaidAway : MethodName := ⟨RX6, "canBeLaidAway", "(I)Z"⟩
abbrev cX6_groupSize : ByteArray := prog_1_method_53_code
def yX6_groupSize : MethodName := ⟨RX6, "groupSize", "(I)I"⟩
abbrev cX6_groupsAt : ByteArray := prog_1_method_54_code
def yX6_groupsAt : MethodName := ⟨RX6, "groupsAt", "(I)I"⟩
abbrev cX6_isWon : ByteArray := prog_1_method_55_code
def yX6_isWon : MethodName := ⟨RX6, "isWon", "(I)Z"⟩
abbrev cX6_gamePoints : ByteArray := prog_1_method_56_code
def yX6_gamePoints : MethodName := ⟨RX6, "gamePoints", "(II)I"⟩
abbrev cX6_basePoints : ByteArray := prog_1_method_57_code
def yX6_basePoints : MethodName := ⟨RX6, "basePoints", "(I)I"⟩
abbrev cX6_only : ByteArray := prog_1_method_58_code
def yX6_only : MethodName := ⟨RX6, "only", "(I)J"⟩
abbrev cX6_holds : ByteArray := prog_1_method_59_code
def yX6_holds : MethodName := ⟨RX6, "holds", "(JI)Z"⟩
abbrev cX6_cardsOfSuit : ByteArray := prog_1_method_60_code
def yX6_cardsOfSuit : MethodName := ⟨RX6, "cardsOfSuit", "(JI)J"⟩
abbrev cX6_playableOf : ByteArray := prog_1_method_61_code
def yX6_playableOf : MethodName := ⟨RX6, "playableOf", "(JI)J"⟩
abbrev cX6_lowestOf : ByteArray := prog_1_method_62_code
def yX6_lowestOf : MethodName := ⟨RX6, "lowestOf", "(J)I"⟩
abbrev cX6_thirdsOf : ByteArray := prog_1_method_63_code
def yX6_thirdsOf : MethodName := ⟨RX6, "thirdsOf", "(J)I"⟩
abbrev cX6_packPointsOf : ByteArray := prog_1_method_64_code
def yX6_packPointsOf : MethodName := ⟨RX6, "packPointsOf", "(J)I"⟩
def RX7 : String := "TarockHallModel"
def TX7 : u_T := fun k => match k with
  | _ => ("", "", "", false)
def tyX7 : Nat → FieldType := fun k => match k with
  | _ => .int
abbrev wsX70 : List Cond := u_ws RX7 TX7 0
theorem nmX7 : ∀ a, a < 0 → ∀ b, b < 0 → a ≠ b → (TX7 a).2.1 ≠ (TX7 b).2.1 := by decide +kernel
theorem tyX7_ok : ∀ k, k < 0 → parseFieldDescriptor (TX7 k).2.2.1 = some (tyX7 k) := by decide +kernel
def RJ6 : String := "java/lang/Integer"
def TJ6 : u_T := fun k => match k with
  | _ => ("", "", "", false)
def tyJ6 : Nat → FieldType := fun k => match k with
  | _ => .int
abbrev wsJ60 : List Cond := u_ws RJ6 TJ6 0
theorem nmJ6 : ∀ a, a < 0 → ∀ b, b < 0 → a ≠ b → (TJ6 a).2.1 ≠ (TJ6 b).2.1 := by decide +kernel
theorem tyJ6_ok : ∀ k, k < 0 → parseFieldDescriptor (TJ6 k).2.2.1 = some (tyJ6 k) := by decide +kernel
abbrev cJ6_bitCount_0f7a4 : ByteArray := prog_14_method_49_code
def yJ6_bitCount_0f7a4 : MethodName := ⟨RJ6, "bitCount", "(I)I"⟩
def RJ9 : String := "java/lang/Math"
def TJ9 : u_T := fun k => match k with
  | _ => ("", "", "", false)
def tyJ9 : Nat → FieldType := fun k => match k with
  | _ => .int
abbrev wsJ90 : List Cond := u_ws RJ9 TJ9 0
theorem nmJ9 : ∀ a, a < 0 → ∀ b, b < 0 → a ≠ b → (TJ9 a).2.1 ≠ (TJ9 b).2.1 := by decide +kernel
theorem tyJ9_ok : ∀ k, k < 0 → parseFieldDescriptor (TJ9 k).2.2.1 = some (tyJ9 k) := by decide +kernel
abbrev cJ9_abs_0f7a4 : ByteArray := prog_15_method_59_code
def yJ9_abs_0f7a4 : MethodName := ⟨RJ9, "abs", "(I)I"⟩
abbrev cJ9_max_7cf53 : ByteArray := prog_15_method_65_code
def yJ9_max_7cf53 : MethodName := ⟨RJ9, "max", "(II)I"⟩
def RJ0 : String := "java/lang/String"
def TJ0 : u_T := fun k => match k with
  | _ => ("", "", "", false)
def tyJ0 : Nat → FieldType := fun k => match k with
  | _ => .int
abbrev wsJ00 : List Cond := u_ws RJ0 TJ0 0
theorem nmJ0 : ∀ a, a < 0 → ∀ b, b < 0 → a ≠ b → (TJ0 a).2.1 ≠ (TJ0 b).2.1 := by decide +kernel
theorem tyJ0_ok : ∀ k, k < 0 → parseFieldDescriptor (TJ0 k).2.2.1 = some (tyJ0 k) := by decide +kernel
def RL : String := "TarockHallLaw"
abbrev cL_bids : ByteArray := method_2_code
def yL_bids : MethodName := ⟨RL, "bids", "(LTarockHall;I)I"⟩
abbrev cL_lays : ByteArray := method_3_code
def yL_lays : MethodName := ⟨RL, "lays", "(LTarockHall;I)I"⟩
abbrev cL_announces : ByteArray := method_4_code
def yL_announces : MethodName := ⟨RL, "announces", "(LTarockHall;I)I"⟩
abbrev cL_plays : ByteArray := method_5_code
def yL_plays : MethodName := ⟨RL, "plays", "(LTarockHall;I)I"⟩
abbrev cL_bits : ByteArray := method_6_code
def yL_bits : MethodName := ⟨RL, "bits", "(J)I"⟩
abbrev cL_has : ByteArray := method_7_code
def yL_has : MethodName := ⟨RL, "has", "(JI)Z"⟩
abbrev cL_suit : ByteArray := method_8_code
def yL_suit : MethodName := ⟨RL, "suit", "(I)I"⟩
abbrev cL_areHands : ByteArray := method_9_code
def yL_areHands : MethodName := ⟨RL, "areHands", "(LTarockHall;)Z"⟩
abbrev cL_areSides : ByteArray := method_10_code
def yL_areSides : MethodName := ⟨RL, "areSides", "(LTarockHall;)Z"⟩
abbrev cL_wins : ByteArray := method_11_code
def yL_wins : MethodName := ⟨RL, "wins", "(IIII)I"⟩
abbrev cL_drawn : ByteArray := method_12_code
def yL_drawn : MethodName := ⟨RL, "drawn", "(JI)I"⟩
abbrev cL_isPlayed : ByteArray := method_13_code
def yL_isPlayed : MethodName := ⟨RL, "isPlayed", "(LTarockHall;I)Z"⟩
abbrev cL_isScored : ByteArray := method_14_code
def yL_isScored : MethodName := ⟨RL, "isScored", "(LTarockHall;[I)Z"⟩
abbrev cL_law : ByteArray := code
def yL_law : MethodName := ⟨RL, "law", "([I)Z"⟩
def wsX0_init : List Cond := .code yX0_init cX0_init 1 none :: ([.methodLink RX0 3 objectInit, .instanceMethod objectInit, .code objectInit ⟨#[0xb1]⟩ 1 none, .fieldLink RX0 9 "TarockHall$Bidding" "bidder" "I"] ++ wsX00)
def wsX0_clear : List Cond := .code yX0_clear cX0_clear 1 none :: ([.fieldLink RX0 15 "TarockHall$Bidding" "passed" "I", .fieldLink RX0 18 "TarockHall$Bidding" "highest" "I", .fieldLink RX0 9 "TarockHall$Bidding" "bidder" "I"] ++ wsX00)
def wsX0_enter : List Cond := .code yX0_enter cX0_enter 3 none :: ([.fieldLink RX0 15 "TarockHall$Bidding" "passed" "I", .fieldLink RX0 18 "TarockHall$Bidding" "highest" "I", .fieldLink RX0 9 "TarockHall$Bidding" "bidder" "I"] ++ wsX00)
def wsJ6_bitCount_0f7a4 : List Cond := .code yJ6_bitCount_0f7a4 cJ6_bitCount_0f7a4 1 (some .int) :: ([.constant RJ6 265 (1431655765), .constant RJ6 266 (858993459), .constant RJ6 267 (252645135)])
def wsX0_allPassed : List Cond := .code yX0_allPassed cX0_allPassed 1 (some .boolean) :: ([.fieldLink RX0 15 "TarockHall$Bidding" "passed" "I", .methodLink RX0 21 yJ6_bitCount_0f7a4, .static yJ6_bitCount_0f7a4, .initialized RJ6, .code yJ6_bitCount_0f7a4 cJ6_bitCount_0f7a4 1 (some .int), .constant RJ6 265 (1431655765), .constant RJ6 266 (858993459), .constant RJ6 267 (252645135)] ++ wsX00)
def wsX0_isSettled : List Cond := .code yX0_isSettled cX0_isSettled 1 (some .boolean) :: ([.fieldLink RX0 9 "TarockHall$Bidding" "bidder" "I", .fieldLink RX0 15 "TarockHall$Bidding" "passed" "I", .methodLink RX0 21 yJ6_bitCount_0f7a4, .static yJ6_bitCount_0f7a4, .initialized RJ6, .code yJ6_bitCount_0f7a4 cJ6_bitCount_0f7a4 1 (some .int), .constant RJ6 265 (1431655765), .constant RJ6 266 (858993459), .constant RJ6 267 (252645135)] ++ wsX00)
def wsX6_behind : List Cond := .code yX6_behind cX6_behind 1 (some .int) :: ([])
def wsX0_hasPassed : List Cond := .code yX0_hasPassed cX0_hasPassed 2 (some .boolean) :: ([.fieldLink RX0 15 "TarockHall$Bidding" "passed" "I"] ++ wsX00)
def wsX0_nextBehind : List Cond := .code yX0_nextBehind cX0_nextBehind 4 (some .int) :: ([.static yX6_behind, .initialized RX6, .code yX6_behind cX6_behind 1 (some .int), .methodLink RX0 30 yX0_hasPassed, .instanceMethod yX0_hasPassed, .selects RX0 yX0_hasPassed yX0_hasPassed, .initialized RX0, .code yX0_hasPassed cX0_hasPassed 2 (some .boolean), .fieldLink RX0 15 "TarockHall$Bidding" "passed" "I"] ++ wsX00)
def wsX2_init : List Cond := .code yX2_init cX2_init 2 none :: ([.methodLink RX2 3 objectInit, .instanceMethod objectInit, .code objectInit ⟨#[0xb1]⟩ 1 none, .methodLink RX2 9 Lib.Math.max.name, .static Lib.Math.max.name, .initialized "java/lang/Math", .code Lib.Math.max.name Lib.Math.max.code 2 (some .int), .arrayClass .int, .fieldLink RX2 15 "TarockHall$Row" "items" "[I"] ++ wsX20)
def wsX1_init : List Cond := .code yX1_init cX1_init 1 none :: ([.methodLink RX1 3 objectInit, .instanceMethod objectInit, .code objectInit ⟨#[0xb1]⟩ 1 none, .classLink RX1 9 RX2, .instantiable RX2 1, .initialized RX2, .fieldLink RX1 14 "TarockHall$Deck" "row" "LTarockHall$Row;", .methodLink RX1 11 yX2_init, .instanceMethod yX2_init, .code yX2_init cX2_init 2 none, .methodLink RX2 3 objectInit, .methodLink RX2 9 Lib.Math.max.name, .static Lib.Math.max.name, .initialized "java/lang/Math", .code Lib.Math.max.name Lib.Math.max.code 2 (some .int), .arrayClass .int, .fieldLink RX2 15 "TarockHall$Row" "items" "[I"] ++ wsX20 ++ wsX10)
def wsX2_put : List Cond := .code yX2_put cX2_put 3 none :: ([.fieldLink RX2 15 "TarockHall$Row" "items" "[I"] ++ wsX20)
def wsX2_at : List Cond := .code yX2_at cX2_at 2 (some .int) :: ([.fieldLink RX2 15 "TarockHall$Row" "items" "[I"] ++ wsX20)
def wsX1_swap : List Cond := .code yX1_swap cX1_swap 4 none :: ([.fieldLink RX1 14 "TarockHall$Deck" "row" "LTarockHall$Row;", .methodLink RX1 28 yX2_at, .instanceMethod yX2_at, .selects RX2 yX2_at yX2_at, .initialized RX2, .code yX2_at cX2_at 2 (some .int), .fieldLink RX2 15 "TarockHall$Row" "items" "[I", .methodLink RX1 20 yX2_put, .instanceMethod yX2_put, .selects RX2 yX2_put yX2_put, .code yX2_put cX2_put 3 none] ++ wsX10 ++ wsX20)
def wsX1_shuffle : List Cond := .code yX1_shuffle cX1_shuffle 4 none :: ([.fieldLink RX1 14 "TarockHall$Deck" "row" "LTarockHall$Row;", .constant RX1 24 (65536), .methodLink RX1 20 yX2_put, .instanceMethod yX2_put, .selects RX2 yX2_put yX2_put, .initialized RX2, .code yX2_put cX2_put 3 none, .fieldLink RX2 15 "TarockHall$Row" "items" "[I", .methodLink RX1 25 yX1_swap, .instanceMethod yX1_swap, .selects RX1 yX1_swap yX1_swap, .initialized RX1, .code yX1_swap cX1_swap 4 none, .methodLink RX1 28 yX2_at, .instanceMethod yX2_at, .selects RX2 yX2_at yX2_at, .code yX2_at cX2_at 2 (some .int)] ++ wsX10 ++ wsX20)
def wsX1_cardAt : List Cond := .code yX1_cardAt cX1_cardAt 2 (some .int) :: ([.fieldLink RX1 14 "TarockHall$Deck" "row" "LTarockHall$Row;", .methodLink RX1 28 yX2_at, .instanceMethod yX2_at, .selects RX2 yX2_at yX2_at, .initialized RX2, .code yX2_at cX2_at 2 (some .int), .fieldLink RX2 15 "TarockHall$Row" "items" "[I"] ++ wsX10 ++ wsX20)
def wsX6_only : List Cond := .code yX6_only cX6_only 1 (some .long) :: ([])
def wsX1_cardsFrom : List Cond := .code yX1_cardsFrom cX1_cardsFrom 6 (some .long) :: ([.fieldLink RX1 14 "TarockHall$Deck" "row" "LTarockHall$Row;", .methodLink RX1 28 yX2_at, .instanceMethod yX2_at, .selects RX2 yX2_at yX2_at, .initialized RX2, .code yX2_at cX2_at 2 (some .int), .fieldLink RX2 15 "TarockHall$Row" "items" "[I", .static yX6_only, .initialized RX6, .code yX6_only cX6_only 1 (some .long)] ++ wsX10 ++ wsX20)
def wsX3_init : List Cond := .code yX3_init cX3_init 2 none :: ([.methodLink RX3 1 objectInit, .instanceMethod objectInit, .code objectInit ⟨#[0xb1]⟩ 1 none, .methodLink RX3 7 Lib.Math.max.name, .static Lib.Math.max.name, .initialized "java/lang/Math", .code Lib.Math.max.name Lib.Math.max.code 2 (some .int), .arrayClass .long, .fieldLink RX3 13 "TarockHall$Sets" "items" "[J"] ++ wsX30)
def wsX3_at : List Cond := .code yX3_at cX3_at 2 (some .long) :: ([.fieldLink RX3 13 "TarockHall$Sets" "items" "[J"] ++ wsX30)
def wsX3_put : List Cond := .code yX3_put cX3_put 4 none :: ([.fieldLink RX3 13 "TarockHall$Sets" "items" "[J"] ++ wsX30)
def wsX4_init : List Cond := .code yX4_init cX4_init 1 none :: ([.methodLink RX4 3 objectInit, .instanceMethod objectInit, .code objectInit ⟨#[0xb1]⟩ 1 none, .classLink RX4 9 RX2, .instantiable RX2 1, .initialized RX2, .fieldLink RX4 14 "TarockHall$Sheet" "scores" "LTarockHall$Row;", .fieldLink RX4 20 "TarockHall$Sheet" "radli" "LTarockHall$Row;", .methodLink RX4 11 yX2_init, .instanceMethod yX2_init, .code yX2_init cX2_init 2 none, .methodLink RX2 3 objectInit, .methodLink RX2 9 Lib.Math.max.name, .static Lib.Math.max.name, .initialized "java/lang/Math", .code Lib.Math.max.name Lib.Math.max.code 2 (some .int), .arrayClass .int, .fieldLink RX2 15 "TarockHall$Row" "items" "[I"] ++ wsX20 ++ wsX40)
def wsX4_addScore : List Cond := .code yX4_addScore cX4_addScore 2 none :: ([.fieldLink RX4 14 "TarockHall$Sheet" "scores" "LTarockHall$Row;", .fieldLink RX4 27 "TarockHall$Sheet" "latest" "I", .methodLink RX4 23 yX2_at, .instanceMethod yX2_at, .selects RX2 yX2_at yX2_at, .initialized RX2, .code yX2_at cX2_at 2 (some .int), .fieldLink RX2 15 "TarockHall$Row" "items" "[I", .methodLink RX4 31 yX2_put, .instanceMethod yX2_put, .selects RX2 yX2_put yX2_put, .code yX2_put cX2_put 3 none] ++ wsX40 ++ wsX20)
def wsX4_enter : List Cond := .code yX4_enter cX4_enter 6 none :: ([.fieldLink RX4 20 "TarockHall$Sheet" "radli" "LTarockHall$Row;", .fieldLink RX4 27 "TarockHall$Sheet" "latest" "I", .methodLink RX4 23 yX2_at, .instanceMethod yX2_at, .selects RX2 yX2_at yX2_at, .initialized RX2, .code yX2_at cX2_at 2 (some .int), .fieldLink RX2 15 "TarockHall$Row" "items" "[I", .methodLink RX4 31 yX2_put, .instanceMethod yX2_put, .selects RX2 yX2_put yX2_put, .code yX2_put cX2_put 3 none, .methodLink RX4 35 yX4_addScore, .instanceMethod yX4_addScore, .selects RX4 yX4_addScore yX4_addScore, .initialized RX4, .code yX4_addScore cX4_addScore 2 none, .fieldLink RX4 14 "TarockHall$Sheet" "scores" "LTarockHall$Row;"] ++ wsX40 ++ wsX20)
def wsX4_giveRadli : List Cond := .code yX4_giveRadli cX4_giveRadli 2 none :: ([.fieldLink RX4 20 "TarockHall$Sheet" "radli" "LTarockHall$Row;", .methodLink RX4 23 yX2_at, .instanceMethod yX2_at, .selects RX2 yX2_at yX2_at, .initialized RX2, .code yX2_at cX2_at 2 (some .int), .fieldLink RX2 15 "TarockHall$Row" "items" "[I", .methodLink RX4 31 yX2_put, .instanceMethod yX2_put, .selects RX2 yX2_put yX2_put, .code yX2_put cX2_put 3 none] ++ wsX40 ++ wsX20)
def wsX5_init : List Cond := .code yX5_init cX5_init 1 none :: ([.methodLink RX5 3 objectInit, .instanceMethod objectInit, .code objectInit ⟨#[0xb1]⟩ 1 none, .classLink RX5 9 RX2, .instantiable RX2 1, .initialized RX2, .fieldLink RX5 14 "TarockHall$Trick" "cards" "LTarockHall$Row;", .methodLink RX5 11 yX2_init, .instanceMethod yX2_init, .code yX2_init cX2_init 2 none, .methodLink RX2 3 objectInit, .methodLink RX2 9 Lib.Math.max.name, .static Lib.Math.max.name, .initialized "java/lang/Math", .code Lib.Math.max.name Lib.Math.max.code 2 (some .int), .arrayClass .int, .fieldLink RX2 15 "TarockHall$Row" "items" "[I"] ++ wsX20 ++ wsX50)
def wsX5_begin : List Cond := .code yX5_begin cX5_begin 2 none :: ([.fieldLink RX5 20 "TarockHall$Trick" "leader" "I", .fieldLink RX5 24 "TarockHall$Trick" "size" "I"] ++ wsX50)
def wsX5_add : List Cond := .code yX5_add cX5_add 2 none :: ([.fieldLink RX5 14 "TarockHall$Trick" "cards" "LTarockHall$Row;", .fieldLink RX5 24 "TarockHall$Trick" "size" "I", .methodLink RX5 27 yX2_put, .instanceMethod yX2_put, .selects RX2 yX2_put yX2_put, .initialized RX2, .code yX2_put cX2_put 3 none, .fieldLink RX2 15 "TarockHall$Row" "items" "[I"] ++ wsX50 ++ wsX20)
def wsX5_cardAt : List Cond := .code yX5_cardAt cX5_cardAt 2 (some .int) :: ([.fieldLink RX5 14 "TarockHall$Trick" "cards" "LTarockHall$Row;", .methodLink RX5 31 yX2_at, .instanceMethod yX2_at, .selects RX2 yX2_at yX2_at, .initialized RX2, .code yX2_at cX2_at 2 (some .int), .fieldLink RX2 15 "TarockHall$Row" "items" "[I"] ++ wsX50 ++ wsX20)
def wsX6_suitOf : List Cond := .code yX6_suitOf cX6_suitOf 1 (some .int) :: ([])
def wsX5_ledSuit : List Cond := .code yX5_ledSuit cX5_ledSuit 1 (some .int) :: ([.fieldLink RX5 24 "TarockHall$Trick" "size" "I", .fieldLink RX5 14 "TarockHall$Trick" "cards" "LTarockHall$Row;", .methodLink RX5 31 yX2_at, .instanceMethod yX2_at, .selects RX2 yX2_at yX2_at, .initialized RX2, .code yX2_at cX2_at 2 (some .int), .fieldLink RX2 15 "TarockHall$Row" "items" "[I", .static yX6_suitOf, .initialized RX6, .code yX6_suitOf cX6_suitOf 1 (some .int)] ++ wsX50 ++ wsX20)
def wsX5_cardSet : List Cond := .code yX5_cardSet cX5_cardSet 4 (some .long) :: ([.fieldLink RX5 24 "TarockHall$Trick" "size" "I", .fieldLink RX5 14 "TarockHall$Trick" "cards" "LTarockHall$Row;", .methodLink RX5 31 yX2_at, .instanceMethod yX2_at, .selects RX2 yX2_at yX2_at, .initialized RX2, .code yX2_at cX2_at 2 (some .int), .fieldLink RX2 15 "TarockHall$Row" "items" "[I", .static yX6_only, .initialized RX6, .code yX6_only cX6_only 1 (some .long)] ++ wsX50 ++ wsX20)
def wsX5_playerAt : List Cond := .code yX5_playerAt cX5_playerAt 2 (some .int) :: ([.fieldLink RX5 20 "TarockHall$Trick" "leader" "I"] ++ wsX50)
def wsX5_playerOf : List Cond := .code yX5_playerOf cX5_playerOf 3 (some .int) :: ([.fieldLink RX5 24 "TarockHall$Trick" "size" "I", .fieldLink RX5 14 "TarockHall$Trick" "cards" "LTarockHall$Row;", .methodLink RX5 31 yX2_at, .instanceMethod yX2_at, .selects RX2 yX2_at yX2_at, .initialized RX2, .code yX2_at cX2_at 2 (some .int), .fieldLink RX2 15 "TarockHall$Row" "items" "[I", .methodLink RX5 42 yX5_playerAt, .instanceMethod yX5_playerAt, .selects RX5 yX5_playerAt yX5_playerAt, .initialized RX5, .code yX5_playerAt cX5_playerAt 2 (some .int), .fieldLink RX5 20 "TarockHall$Trick" "leader" "I"] ++ wsX50 ++ wsX20)
def wsX5_beats : List Cond := .code yX5_beats cX5_beats 3 (some .boolean) :: ([.static yX6_suitOf, .initialized RX6, .code yX6_suitOf cX6_suitOf 1 (some .int)])
def wsX5_winner : List Cond := .code yX5_winner cX5_winner 3 (some .int) :: ([.fieldLink RX5 24 "TarockHall$Trick" "size" "I", .fieldLink RX5 14 "TarockHall$Trick" "cards" "LTarockHall$Row;", .methodLink RX5 31 yX2_at, .instanceMethod yX2_at, .selects RX2 yX2_at yX2_at, .initialized RX2, .code yX2_at cX2_at 2 (some .int), .fieldLink RX2 15 "TarockHall$Row" "items" "[I", .methodLink RX5 45 yX5_beats, .static yX5_beats, .initialized RX5, .code yX5_beats cX5_beats 3 (some .boolean), .static yX6_suitOf, .initialized RX6, .code yX6_suitOf cX6_suitOf 1 (some .int), .methodLink RX5 42 yX5_playerAt, .instanceMethod yX5_playerAt, .selects RX5 yX5_playerAt yX5_playerAt, .code yX5_playerAt cX5_playerAt 2 (some .int), .fieldLink RX5 20 "TarockHall$Trick" "leader" "I"] ++ wsX50 ++ wsX20)
def wsX6_init_r1 : List Cond := [Cond.methodLink RX6 3 objectInit, Cond.instanceMethod objectInit, Cond.code objectInit ⟨#[0xb1]⟩ 1 none, Cond.classLink RX6 9 RX1, Cond.instantiable RX1 1, Cond.initialized RX1, Cond.fieldLink RX6 12 "TarockHall" "deck" "LTarockHall$Deck;", Cond.classLink RX6 16 RX0, Cond.instantiable RX0 3, Cond.initialized RX0, Cond.fieldLink RX6 19 "TarockHall" "bidding" "LTarockHall$Bidding;", Cond.classLink RX6 23 RX5, Cond.instantiable RX5 3, Cond.initialized RX5, Cond.fieldLink RX6 26 "TarockHall" "trick" "LTarockHall$Trick;", Cond.classLink RX6 30 RX4, Cond.instantiable RX4 3, Cond.initialized RX4, Cond.fieldLink RX6 33 "TarockHall" "sheet" "LTarockHall$Sheet;", Cond.classLink RX6 37 RX3, Cond.instantiable RX3 1, Cond.initialized RX3, Cond.fieldLink RX6 42 "TarockHall" "hands" "LTarockHall$Sets;", Cond.fieldLink RX6 46 "TarockHall" "piles" "LTarockHall$Sets;"]
def wsX6_init_r2 : List Cond := [Cond.fieldLink RX6 49 "TarockHall" "forehand" "I", Cond.fieldLink RX6 53 "TarockHall" "phase" "I", Cond.fieldLink RX6 56 "TarockHall" "turn" "I", Cond.fieldLink RX6 59 "TarockHall" "declarer" "I", Cond.fieldLink RX6 62 "TarockHall" "called" "I", Cond.fieldLink RX6 65 "TarockHall" "kingOwner" "I", Cond.fieldLink RX6 68 "TarockHall" "partner" "I", Cond.methodLink RX6 11 yX1_init, Cond.instanceMethod yX1_init, Cond.code yX1_init cX1_init 1 none, Cond.methodLink RX1 3 objectInit, Cond.classLink RX1 9 RX2, Cond.instantiable RX2 1, Cond.initialized RX2, Cond.fieldLink RX1 14 "TarockHall$Deck" "row" "LTarockHall$Row;", Cond.methodLink RX1 11 yX2_init, Cond.instanceMethod yX2_init, Cond.code yX2_init cX2_init 2 none, Cond.methodLink RX2 3 objectInit, Cond.methodLink RX2 9 Lib.Math.max.name, Cond.static Lib.Math.max.name, Cond.initialized "java/lang/Math", Cond.code Lib.Math.max.name Lib.Math.max.code 2 (some .int), Cond.arrayClass .int]
def wsX6_init_r3 : List Cond := [Cond.fieldLink RX2 15 "TarockHall$Row" "items" "[I", Cond.methodLink RX6 18 yX0_init, Cond.instanceMethod yX0_init, Cond.code yX0_init cX0_init 1 none, Cond.methodLink RX0 3 objectInit, Cond.fieldLink RX0 9 "TarockHall$Bidding" "bidder" "I", Cond.methodLink RX6 25 yX5_init, Cond.instanceMethod yX5_init, Cond.code yX5_init cX5_init 1 none, Cond.methodLink RX5 3 objectInit, Cond.classLink RX5 9 RX2, Cond.fieldLink RX5 14 "TarockHall$Trick" "cards" "LTarockHall$Row;", Cond.methodLink RX5 11 yX2_init, Cond.methodLink RX6 32 yX4_init, Cond.instanceMethod yX4_init, Cond.code yX4_init cX4_init 1 none, Cond.methodLink RX4 3 objectInit, Cond.classLink RX4 9 RX2, Cond.fieldLink RX4 14 "TarockHall$Sheet" "scores" "LTarockHall$Row;", Cond.fieldLink RX4 20 "TarockHall$Sheet" "radli" "LTarockHall$Row;", Cond.methodLink RX4 11 yX2_init, Cond.methodLink RX6 39 yX3_init, Cond.instanceMethod yX3_init, Cond.code yX3_init cX3_init 2 none]
def wsX6_init_r4 : List Cond := [Cond.methodLink RX3 1 objectInit, Cond.methodLink RX3 7 Lib.Math.max.name, Cond.arrayClass .long, Cond.fieldLink RX3 13 "TarockHall$Sets" "items" "[J"]
def wsX6_init : List Cond := .code yX6_init cX6_init 1 none :: ((wsX6_init_r1 ++ (wsX6_init_r2 ++ (wsX6_init_r3 ++ wsX6_init_r4))) ++ wsX10 ++ wsX60 ++ wsX00 ++ wsX50 ++ wsX40 ++ wsX30 ++ wsX20)
def wsX6_clearDeal_r1 : List Cond := [Cond.fieldLink RX6 19 "TarockHall" "bidding" "LTarockHall$Bidding;", Cond.fieldLink RX6 26 "TarockHall" "trick" "LTarockHall$Trick;", Cond.fieldLink RX6 49 "TarockHall" "forehand" "I", Cond.fieldLink RX6 59 "TarockHall" "declarer" "I", Cond.fieldLink RX6 62 "TarockHall" "called" "I", Cond.fieldLink RX6 65 "TarockHall" "kingOwner" "I", Cond.fieldLink RX6 68 "TarockHall" "partner" "I", Cond.fieldLink RX6 168 "TarockHall" "toLayAway" "I", Cond.fieldLink RX6 191 "TarockHall" "laidAway" "J", Cond.fieldLink RX6 214 "TarockHall" "announced" "I", Cond.fieldLink RX6 199 "TarockHall" "tricks" "I", Cond.fieldLink RX6 46 "TarockHall" "piles" "LTarockHall$Sets;", Cond.methodLink RX6 288 yX0_clear, Cond.instanceMethod yX0_clear, Cond.selects RX0 yX0_clear yX0_clear, Cond.initialized RX0, Cond.code yX0_clear cX0_clear 1 none, Cond.fieldLink RX0 15 "TarockHall$Bidding" "passed" "I", Cond.fieldLink RX0 18 "TarockHall$Bidding" "highest" "I", Cond.fieldLink RX0 9 "TarockHall$Bidding" "bidder" "I", Cond.methodLink RX6 291 yX5_begin, Cond.instanceMethod yX5_begin, Cond.selects RX5 yX5_begin yX5_begin, Cond.initialized RX5]
def wsX6_clearDeal_r2 : List Cond := [Cond.code yX5_begin cX5_begin 2 none, Cond.fieldLink RX5 20 "TarockHall$Trick" "leader" "I", Cond.fieldLink RX5 24 "TarockHall$Trick" "size" "I", Cond.methodLink RX6 158 yX3_put, Cond.instanceMethod yX3_put, Cond.selects RX3 yX3_put yX3_put, Cond.initialized RX3, Cond.code yX3_put cX3_put 4 none, Cond.fieldLink RX3 13 "TarockHall$Sets" "items" "[J"]
def wsX6_clearDeal : List Cond := .code yX6_clearDeal cX6_clearDeal 1 none :: ((wsX6_clearDeal_r1 ++ wsX6_clearDeal_r2) ++ wsX60 ++ wsX00 ++ wsX50 ++ wsX30)
def wsX6_handOut_r1 : List Cond := [Cond.fieldLink RX6 49 "TarockHall" "forehand" "I", Cond.fieldLink RX6 42 "TarockHall" "hands" "LTarockHall$Sets;", Cond.fieldLink RX6 12 "TarockHall" "deck" "LTarockHall$Deck;", Cond.fieldLink RX6 162 "TarockHall" "restOfTalon" "J", Cond.methodLink RX6 150 yX1_cardsFrom, Cond.instanceMethod yX1_cardsFrom, Cond.selects RX1 yX1_cardsFrom yX1_cardsFrom, Cond.initialized RX1, Cond.code yX1_cardsFrom cX1_cardsFrom 6 (some .long), Cond.fieldLink RX1 14 "TarockHall$Deck" "row" "LTarockHall$Row;", Cond.methodLink RX1 28 yX2_at, Cond.instanceMethod yX2_at, Cond.selects RX2 yX2_at yX2_at, Cond.initialized RX2, Cond.code yX2_at cX2_at 2 (some .int), Cond.fieldLink RX2 15 "TarockHall$Row" "items" "[I", Cond.static yX6_only, Cond.initialized RX6, Cond.code yX6_only cX6_only 1 (some .long), Cond.methodLink RX6 158 yX3_put, Cond.instanceMethod yX3_put, Cond.selects RX3 yX3_put yX3_put, Cond.initialized RX3, Cond.code yX3_put cX3_put 4 none]
def wsX6_handOut_r2 : List Cond := [Cond.fieldLink RX3 13 "TarockHall$Sets" "items" "[J", Cond.methodLink RX6 84 yX6_behind, Cond.static yX6_behind, Cond.code yX6_behind cX6_behind 1 (some .int)]
def wsX6_handOut : List Cond := .code yX6_handOut cX6_handOut 3 none :: ((wsX6_handOut_r1 ++ wsX6_handOut_r2) ++ wsX60 ++ wsX10 ++ wsX20 ++ wsX30)
def wsX6_deal_r1 : List Cond := [Cond.classLink RX6 72 "java/lang/IllegalArgumentException", Cond.initialized "java/lang/IllegalArgumentException", Cond.classLink RX6 79 "java/lang/IllegalStateException", Cond.initialized "java/lang/IllegalStateException", Cond.constant RX6 71 (65536), Cond.fieldLink RX6 53 "TarockHall" "phase" "I", Cond.fieldLink RX6 49 "TarockHall" "forehand" "I", Cond.fieldLink RX6 12 "TarockHall" "deck" "LTarockHall$Deck;", Cond.fieldLink RX6 56 "TarockHall" "turn" "I", Cond.methodLink RX6 84 yX6_behind, Cond.static yX6_behind, Cond.initialized RX6, Cond.code yX6_behind cX6_behind 1 (some .int), Cond.methodLink RX6 88 yX6_clearDeal, Cond.instanceMethod yX6_clearDeal, Cond.selects RX6 yX6_clearDeal yX6_clearDeal, Cond.code yX6_clearDeal cX6_clearDeal 1 none, Cond.fieldLink RX6 19 "TarockHall" "bidding" "LTarockHall$Bidding;", Cond.fieldLink RX6 26 "TarockHall" "trick" "LTarockHall$Trick;", Cond.fieldLink RX6 59 "TarockHall" "declarer" "I", Cond.fieldLink RX6 62 "TarockHall" "called" "I", Cond.fieldLink RX6 65 "TarockHall" "kingOwner" "I", Cond.fieldLink RX6 68 "TarockHall" "partner" "I", Cond.fieldLink RX6 168 "TarockHall" "toLayAway" "I"]
def wsX6_deal_r2 : List Cond := [Cond.fieldLink RX6 191 "TarockHall" "laidAway" "J", Cond.fieldLink RX6 214 "TarockHall" "announced" "I", Cond.fieldLink RX6 199 "TarockHall" "tricks" "I", Cond.fieldLink RX6 46 "TarockHall" "piles" "LTarockHall$Sets;", Cond.methodLink RX6 288 yX0_clear, Cond.instanceMethod yX0_clear, Cond.selects RX0 yX0_clear yX0_clear, Cond.initialized RX0, Cond.code yX0_clear cX0_clear 1 none, Cond.fieldLink RX0 15 "TarockHall$Bidding" "passed" "I", Cond.fieldLink RX0 18 "TarockHall$Bidding" "highest" "I", Cond.fieldLink RX0 9 "TarockHall$Bidding" "bidder" "I", Cond.methodLink RX6 291 yX5_begin, Cond.instanceMethod yX5_begin, Cond.selects RX5 yX5_begin yX5_begin, Cond.initialized RX5, Cond.code yX5_begin cX5_begin 2 none, Cond.fieldLink RX5 20 "TarockHall$Trick" "leader" "I", Cond.fieldLink RX5 24 "TarockHall$Trick" "size" "I", Cond.methodLink RX6 158 yX3_put, Cond.instanceMethod yX3_put, Cond.selects RX3 yX3_put yX3_put, Cond.initialized RX3, Cond.code yX3_put cX3_put 4 none]
def wsX6_deal_r3 : List Cond := [Cond.fieldLink RX3 13 "TarockHall$Sets" "items" "[J", Cond.methodLink RX6 91 yX1_shuffle, Cond.instanceMethod yX1_shuffle, Cond.selects RX1 yX1_shuffle yX1_shuffle, Cond.initialized RX1, Cond.code yX1_shuffle cX1_shuffle 4 none, Cond.fieldLink RX1 14 "TarockHall$Deck" "row" "LTarockHall$Row;", Cond.constant RX1 24 (65536), Cond.methodLink RX1 20 yX2_put, Cond.instanceMethod yX2_put, Cond.selects RX2 yX2_put yX2_put, Cond.initialized RX2, Cond.code yX2_put cX2_put 3 none, Cond.fieldLink RX2 15 "TarockHall$Row" "items" "[I", Cond.methodLink RX1 25 yX1_swap, Cond.instanceMethod yX1_swap, Cond.selects RX1 yX1_swap yX1_swap, Cond.code yX1_swap cX1_swap 4 none, Cond.methodLink RX1 28 yX2_at, Cond.instanceMethod yX2_at, Cond.selects RX2 yX2_at yX2_at, Cond.code yX2_at cX2_at 2 (some .int), Cond.methodLink RX6 94 yX6_handOut, Cond.instanceMethod yX6_handOut]
def wsX6_deal_r4 : List Cond := [Cond.selects RX6 yX6_handOut yX6_handOut, Cond.code yX6_handOut cX6_handOut 3 none, Cond.fieldLink RX6 42 "TarockHall" "hands" "LTarockHall$Sets;", Cond.fieldLink RX6 162 "TarockHall" "restOfTalon" "J", Cond.methodLink RX6 150 yX1_cardsFrom, Cond.instanceMethod yX1_cardsFrom, Cond.selects RX1 yX1_cardsFrom yX1_cardsFrom, Cond.code yX1_cardsFrom cX1_cardsFrom 6 (some .long), Cond.static yX6_only, Cond.code yX6_only cX6_only 1 (some .long)]
def wsX6_deal : List Cond := .code yX6_deal cX6_deal 2 (some .int) :: ((wsX6_deal_r1 ++ (wsX6_deal_r2 ++ (wsX6_deal_r3 ++ wsX6_deal_r4))) ++ wsX60 ++ wsX00 ++ wsX50 ++ wsX30 ++ wsX10 ++ wsX20 ++ (vx_atS RX6 76 "java/lang/IllegalArgumentException" ["java/lang/RuntimeException", "java/lang/Exception"]).filter goodWord ++ (vx_atS RX6 83 "java/lang/IllegalStateException" ["java/lang/RuntimeException", "java/lang/Exception"]).filter goodWord)
def wsX6_endDeal : List Cond := .code yX6_endDeal cX6_endDeal 1 none :: ([.fieldLink RX6 53 "TarockHall" "phase" "I", .fieldLink RX6 56 "TarockHall" "turn" "I"] ++ wsX60)
def wsX6_beginPlay : List Cond := .code yX6_beginPlay cX6_beginPlay 1 none :: ([.fieldLink RX6 46 "TarockHall" "piles" "LTarockHall$Sets;", .fieldLink RX6 191 "TarockHall" "laidAway" "J", .fieldLink RX6 162 "TarockHall" "restOfTalon" "J", .fieldLink RX6 53 "TarockHall" "phase" "I", .fieldLink RX6 49 "TarockHall" "forehand" "I", .fieldLink RX6 56 "TarockHall" "turn" "I", .methodLink RX6 158 yX3_put, .instanceMethod yX3_put, .selects RX3 yX3_put yX3_put, .initialized RX3, .code yX3_put cX3_put 4 none, .fieldLink RX3 13 "TarockHall$Sets" "items" "[J"] ++ wsX60 ++ wsX30)
def wsX6_beginGame : List Cond := .code yX6_beginGame cX6_beginGame 1 none :: ([.fieldLink RX6 19 "TarockHall" "bidding" "LTarockHall$Bidding;", .fieldLink RX6 59 "TarockHall" "declarer" "I", .fieldLink RX6 56 "TarockHall" "turn" "I", .fieldLink RX6 53 "TarockHall" "phase" "I", .methodLink RX6 194 yX6_beginPlay, .instanceMethod yX6_beginPlay, .selects RX6 yX6_beginPlay yX6_beginPlay, .initialized RX6, .code yX6_beginPlay cX6_beginPlay 1 none, .fieldLink RX6 46 "TarockHall" "piles" "LTarockHall$Sets;", .fieldLink RX6 191 "TarockHall" "laidAway" "J", .fieldLink RX6 162 "TarockHall" "restOfTalon" "J", .fieldLink RX6 49 "TarockHall" "forehand" "I", .methodLink RX6 158 yX3_put, .instanceMethod yX3_put, .selects RX3 yX3_put yX3_put, .initialized RX3, .code yX3_put cX3_put 4 none, .fieldLink RX3 13 "TarockHall$Sets" "items" "[J"] ++ wsX60 ++ wsX00 ++ wsX30)
def wsX6_bid_r1 : List Cond := [Cond.classLink RX6 72 "java/lang/IllegalArgumentException", Cond.initialized "java/lang/IllegalArgumentException", Cond.classLink RX6 79 "java/lang/IllegalStateException", Cond.initialized "java/lang/IllegalStateException", Cond.fieldLink RX6 53 "TarockHall" "phase" "I", Cond.fieldLink RX6 19 "TarockHall" "bidding" "LTarockHall$Bidding;", Cond.fieldLink RX6 56 "TarockHall" "turn" "I", Cond.methodLink RX6 106 yX0_enter, Cond.instanceMethod yX0_enter, Cond.selects RX0 yX0_enter yX0_enter, Cond.initialized RX0, Cond.code yX0_enter cX0_enter 3 none, Cond.fieldLink RX0 15 "TarockHall$Bidding" "passed" "I", Cond.fieldLink RX0 18 "TarockHall$Bidding" "highest" "I", Cond.fieldLink RX0 9 "TarockHall$Bidding" "bidder" "I", Cond.methodLink RX6 110 yX0_allPassed, Cond.instanceMethod yX0_allPassed, Cond.selects RX0 yX0_allPassed yX0_allPassed, Cond.code yX0_allPassed cX0_allPassed 1 (some .boolean), Cond.methodLink RX0 21 yJ6_bitCount_0f7a4, Cond.static yJ6_bitCount_0f7a4, Cond.initialized RJ6, Cond.code yJ6_bitCount_0f7a4 cJ6_bitCount_0f7a4 1 (some .int), Cond.constant RJ6 265 (1431655765)]
def wsX6_bid_r2 : List Cond := [Cond.constant RJ6 266 (858993459), Cond.constant RJ6 267 (252645135), Cond.methodLink RX6 114 yX6_endDeal, Cond.instanceMethod yX6_endDeal, Cond.selects RX6 yX6_endDeal yX6_endDeal, Cond.initialized RX6, Cond.code yX6_endDeal cX6_endDeal 1 none, Cond.methodLink RX6 117 yX0_isSettled, Cond.instanceMethod yX0_isSettled, Cond.selects RX0 yX0_isSettled yX0_isSettled, Cond.code yX0_isSettled cX0_isSettled 1 (some .boolean), Cond.methodLink RX6 120 yX6_beginGame, Cond.instanceMethod yX6_beginGame, Cond.selects RX6 yX6_beginGame yX6_beginGame, Cond.code yX6_beginGame cX6_beginGame 1 none, Cond.fieldLink RX6 59 "TarockHall" "declarer" "I", Cond.methodLink RX6 194 yX6_beginPlay, Cond.instanceMethod yX6_beginPlay, Cond.selects RX6 yX6_beginPlay yX6_beginPlay, Cond.code yX6_beginPlay cX6_beginPlay 1 none, Cond.fieldLink RX6 46 "TarockHall" "piles" "LTarockHall$Sets;", Cond.fieldLink RX6 191 "TarockHall" "laidAway" "J", Cond.fieldLink RX6 162 "TarockHall" "restOfTalon" "J", Cond.fieldLink RX6 49 "TarockHall" "forehand" "I"]
def wsX6_bid_r3 : List Cond := [Cond.methodLink RX6 158 yX3_put, Cond.instanceMethod yX3_put, Cond.selects RX3 yX3_put yX3_put, Cond.initialized RX3, Cond.code yX3_put cX3_put 4 none, Cond.fieldLink RX3 13 "TarockHall$Sets" "items" "[J", Cond.methodLink RX6 123 yX0_nextBehind, Cond.instanceMethod yX0_nextBehind, Cond.selects RX0 yX0_nextBehind yX0_nextBehind, Cond.code yX0_nextBehind cX0_nextBehind 4 (some .int), Cond.static yX6_behind, Cond.code yX6_behind cX6_behind 1 (some .int), Cond.methodLink RX0 30 yX0_hasPassed, Cond.instanceMethod yX0_hasPassed, Cond.selects RX0 yX0_hasPassed yX0_hasPassed, Cond.code yX0_hasPassed cX0_hasPassed 2 (some .boolean)]
def wsX6_bid : List Cond := .code yX6_bid cX6_bid 2 (some .int) :: ((wsX6_bid_r1 ++ (wsX6_bid_r2 ++ wsX6_bid_r3)) ++ wsX60 ++ wsX00 ++ wsX30 ++ (vx_atS RX6 76 "java/lang/IllegalArgumentException" ["java/lang/RuntimeException", "java/lang/Exception"]).filter goodWord ++ (vx_atS RX6 83 "java/lang/IllegalStateException" ["java/lang/RuntimeException", "java/lang/Exception"]).filter goodWord)
def wsX6_calledKing : List Cond := .code yX6_calledKing cX6_calledKing 1 (some .int) :: ([.fieldLink RX6 62 "TarockHall" "called" "I"] ++ wsX60)
def wsX6_holds : List Cond := .code yX6_holds cX6_holds 3 (some .boolean) :: ([])
def wsX6_ownerOf : List Cond := .code yX6_ownerOf cX6_ownerOf 3 (some .int) :: ([.fieldLink RX6 42 "TarockHall" "hands" "LTarockHall$Sets;", .methodLink RX6 154 yX3_at, .instanceMethod yX3_at, .selects RX3 yX3_at yX3_at, .initialized RX3, .code yX3_at cX3_at 2 (some .long), .fieldLink RX3 13 "TarockHall$Sets" "items" "[J", .methodLink RX6 179 yX6_holds, .static yX6_holds, .initialized RX6, .code yX6_holds cX6_holds 3 (some .boolean)] ++ wsX60 ++ wsX30)
def wsX6_call_r1 : List Cond := [Cond.classLink RX6 126 "java/lang/IndexOutOfBoundsException", Cond.initialized "java/lang/IndexOutOfBoundsException", Cond.classLink RX6 79 "java/lang/IllegalStateException", Cond.initialized "java/lang/IllegalStateException", Cond.fieldLink RX6 53 "TarockHall" "phase" "I", Cond.fieldLink RX6 62 "TarockHall" "called" "I", Cond.fieldLink RX6 65 "TarockHall" "kingOwner" "I", Cond.fieldLink RX6 59 "TarockHall" "declarer" "I", Cond.fieldLink RX6 68 "TarockHall" "partner" "I", Cond.methodLink RX6 133 yX6_calledKing, Cond.instanceMethod yX6_calledKing, Cond.selects RX6 yX6_calledKing yX6_calledKing, Cond.initialized RX6, Cond.code yX6_calledKing cX6_calledKing 1 (some .int), Cond.methodLink RX6 137 yX6_ownerOf, Cond.instanceMethod yX6_ownerOf, Cond.selects RX6 yX6_ownerOf yX6_ownerOf, Cond.code yX6_ownerOf cX6_ownerOf 3 (some .int), Cond.fieldLink RX6 42 "TarockHall" "hands" "LTarockHall$Sets;", Cond.methodLink RX6 154 yX3_at, Cond.instanceMethod yX3_at, Cond.selects RX3 yX3_at yX3_at, Cond.initialized RX3, Cond.code yX3_at cX3_at 2 (some .long)]
def wsX6_call_r2 : List Cond := [Cond.fieldLink RX3 13 "TarockHall$Sets" "items" "[J", Cond.methodLink RX6 179 yX6_holds, Cond.static yX6_holds, Cond.code yX6_holds cX6_holds 3 (some .boolean)]
def wsX6_call : List Cond := .code yX6_call cX6_call 2 (some .int) :: ((wsX6_call_r1 ++ wsX6_call_r2) ++ wsX60 ++ wsX30 ++ (vx_atS RX6 130 "java/lang/IndexOutOfBoundsException" ["java/lang/RuntimeException", "java/lang/Exception"]).filter goodWord ++ (vx_atS RX6 83 "java/lang/IllegalStateException" ["java/lang/RuntimeException", "java/lang/Exception"]).filter goodWord)
def wsX6_groupsAt : List Cond := .code yX6_groupsAt cX6_groupsAt 1 (some .int) :: ([])
def wsX6_groupsNow : List Cond := .code yX6_groupsNow cX6_groupsNow 1 (some .int) :: ([.fieldLink RX6 53 "TarockHall" "phase" "I", .fieldLink RX6 19 "TarockHall" "bidding" "LTarockHall$Bidding;", .methodLink RX6 334 yX6_groupsAt, .static yX6_groupsAt, .initialized RX6, .code yX6_groupsAt cX6_groupsAt 1 (some .int)] ++ wsX60 ++ wsX00)
def wsX6_groupSize : List Cond := .code yX6_groupSize cX6_groupSize 1 (some .int) :: ([])
def wsX6_take_r1 : List Cond := [Cond.classLink RX6 126 "java/lang/IndexOutOfBoundsException", Cond.initialized "java/lang/IndexOutOfBoundsException", Cond.classLink RX6 79 "java/lang/IllegalStateException", Cond.initialized "java/lang/IllegalStateException", Cond.fieldLink RX6 53 "TarockHall" "phase" "I", Cond.fieldLink RX6 19 "TarockHall" "bidding" "LTarockHall$Bidding;", Cond.fieldLink RX6 12 "TarockHall" "deck" "LTarockHall$Deck;", Cond.fieldLink RX6 42 "TarockHall" "hands" "LTarockHall$Sets;", Cond.fieldLink RX6 59 "TarockHall" "declarer" "I", Cond.fieldLink RX6 162 "TarockHall" "restOfTalon" "J", Cond.constantLong RX6 166 (-1), Cond.fieldLink RX6 168 "TarockHall" "toLayAway" "I", Cond.methodLink RX6 140 yX6_groupsNow, Cond.instanceMethod yX6_groupsNow, Cond.selects RX6 yX6_groupsNow yX6_groupsNow, Cond.initialized RX6, Cond.code yX6_groupsNow cX6_groupsNow 1 (some .int), Cond.methodLink RX6 334 yX6_groupsAt, Cond.static yX6_groupsAt, Cond.code yX6_groupsAt cX6_groupsAt 1 (some .int), Cond.methodLink RX6 147 yX6_groupSize, Cond.static yX6_groupSize, Cond.code yX6_groupSize cX6_groupSize 1 (some .int), Cond.methodLink RX6 150 yX1_cardsFrom]
def wsX6_take_r2 : List Cond := [Cond.instanceMethod yX1_cardsFrom, Cond.selects RX1 yX1_cardsFrom yX1_cardsFrom, Cond.initialized RX1, Cond.code yX1_cardsFrom cX1_cardsFrom 6 (some .long), Cond.fieldLink RX1 14 "TarockHall$Deck" "row" "LTarockHall$Row;", Cond.methodLink RX1 28 yX2_at, Cond.instanceMethod yX2_at, Cond.selects RX2 yX2_at yX2_at, Cond.initialized RX2, Cond.code yX2_at cX2_at 2 (some .int), Cond.fieldLink RX2 15 "TarockHall$Row" "items" "[I", Cond.static yX6_only, Cond.code yX6_only cX6_only 1 (some .long), Cond.methodLink RX6 154 yX3_at, Cond.instanceMethod yX3_at, Cond.selects RX3 yX3_at yX3_at, Cond.initialized RX3, Cond.code yX3_at cX3_at 2 (some .long), Cond.fieldLink RX3 13 "TarockHall$Sets" "items" "[J", Cond.methodLink RX6 158 yX3_put, Cond.instanceMethod yX3_put, Cond.selects RX3 yX3_put yX3_put, Cond.code yX3_put cX3_put 4 none]
def wsX6_take : List Cond := .code yX6_take cX6_take 5 (some .int) :: ((wsX6_take_r1 ++ wsX6_take_r2) ++ wsX60 ++ wsX00 ++ wsX10 ++ wsX20 ++ wsX30 ++ (vx_atS RX6 130 "java/lang/IndexOutOfBoundsException" ["java/lang/RuntimeException", "java/lang/Exception"]).filter goodWord ++ (vx_atS RX6 83 "java/lang/IllegalStateException" ["java/lang/RuntimeException", "java/lang/Exception"]).filter goodWord)
def wsX6_isCard : List Cond := .code yX6_isCard cX6_isCard 1 (some .boolean) :: ([])
def wsX6_worth : List Cond := .code yX6_worth cX6_worth 2 (some .int) :: ([.methodLink RX6 344 yX6_suitOf, .static yX6_suitOf, .initialized RX6, .code yX6_suitOf cX6_suitOf 1 (some .int)])
def wsX6_canBeLaidAway : List Cond := .code yX6_canBeLaidAway cX6_canBeLaidAway 1 (some .boolean) :: ([.methodLink RX6 254 yX6_worth, .static yX6_worth, .initialized RX6, .code yX6_worth cX6_worth 2 (some .int), .methodLink RX6 344 yX6_suitOf, .static yX6_suitOf, .code yX6_suitOf cX6_suitOf 1 (some .int)])
def wsX6_discard_r1 : List Cond := [Cond.classLink RX6 126 "java/lang/IndexOutOfBoundsException", Cond.initialized "java/lang/IndexOutOfBoundsException", Cond.classLink RX6 79 "java/lang/IllegalStateException", Cond.initialized "java/lang/IllegalStateException", Cond.fieldLink RX6 53 "TarockHall" "phase" "I", Cond.fieldLink RX6 42 "TarockHall" "hands" "LTarockHall$Sets;", Cond.fieldLink RX6 59 "TarockHall" "declarer" "I", Cond.constantLong RX6 166 (-1), Cond.fieldLink RX6 191 "TarockHall" "laidAway" "J", Cond.fieldLink RX6 168 "TarockHall" "toLayAway" "I", Cond.methodLink RX6 171 yX6_isCard, Cond.static yX6_isCard, Cond.initialized RX6, Cond.code yX6_isCard cX6_isCard 1 (some .boolean), Cond.methodLink RX6 154 yX3_at, Cond.instanceMethod yX3_at, Cond.selects RX3 yX3_at yX3_at, Cond.initialized RX3, Cond.code yX3_at cX3_at 2 (some .long), Cond.fieldLink RX3 13 "TarockHall$Sets" "items" "[J", Cond.methodLink RX6 179 yX6_holds, Cond.static yX6_holds, Cond.code yX6_holds cX6_holds 3 (some .boolean), Cond.methodLink RX6 183 yX6_canBeLaidAway]
def wsX6_discard_r2 : List Cond := [Cond.static yX6_canBeLaidAway, Cond.code yX6_canBeLaidAway cX6_canBeLaidAway 1 (some .boolean), Cond.methodLink RX6 254 yX6_worth, Cond.static yX6_worth, Cond.code yX6_worth cX6_worth 2 (some .int), Cond.methodLink RX6 344 yX6_suitOf, Cond.static yX6_suitOf, Cond.code yX6_suitOf cX6_suitOf 1 (some .int), Cond.methodLink RX6 188 yX6_only, Cond.static yX6_only, Cond.code yX6_only cX6_only 1 (some .long), Cond.methodLink RX6 158 yX3_put, Cond.instanceMethod yX3_put, Cond.selects RX3 yX3_put yX3_put, Cond.code yX3_put cX3_put 4 none, Cond.methodLink RX6 194 yX6_beginPlay, Cond.instanceMethod yX6_beginPlay, Cond.selects RX6 yX6_beginPlay yX6_beginPlay, Cond.code yX6_beginPlay cX6_beginPlay 1 none, Cond.fieldLink RX6 46 "TarockHall" "piles" "LTarockHall$Sets;", Cond.fieldLink RX6 162 "TarockHall" "restOfTalon" "J", Cond.fieldLink RX6 49 "TarockHall" "forehand" "I", Cond.fieldLink RX6 56 "TarockHall" "turn" "I"]
def wsX6_discard : List Cond := .code yX6_discard cX6_discard 4 (some .int) :: ((wsX6_discard_r1 ++ wsX6_discard_r2) ++ wsX60 ++ wsX30 ++ (vx_atS RX6 130 "java/lang/IndexOutOfBoundsException" ["java/lang/RuntimeException", "java/lang/Exception"]).filter goodWord ++ (vx_atS RX6 83 "java/lang/IllegalStateException" ["java/lang/RuntimeException", "java/lang/Exception"]).filter goodWord)
def wsX6_isAnnounced : List Cond := .code yX6_isAnnounced cX6_isAnnounced 2 (some .boolean) :: ([.fieldLink RX6 214 "TarockHall" "announced" "I"] ++ wsX60)
def wsX6_announce : List Cond := .code yX6_announce cX6_announce 2 (some .int) :: ([.classLink RX6 126 "java/lang/IndexOutOfBoundsException", .initialized "java/lang/IndexOutOfBoundsException", .classLink RX6 79 "java/lang/IllegalStateException", .initialized "java/lang/IllegalStateException", .fieldLink RX6 53 "TarockHall" "phase" "I", .fieldLink RX6 199 "TarockHall" "tricks" "I", .fieldLink RX6 26 "TarockHall" "trick" "LTarockHall$Trick;", .fieldLink RX6 19 "TarockHall" "bidding" "LTarockHall$Bidding;", .fieldLink RX6 214 "TarockHall" "announced" "I", .methodLink RX6 207 yX6_isAnnounced, .instanceMethod yX6_isAnnounced, .selects RX6 yX6_isAnnounced yX6_isAnnounced, .initialized RX6, .code yX6_isAnnounced cX6_isAnnounced 2 (some .boolean), .methodLink RX6 217 yJ6_bitCount_0f7a4, .static yJ6_bitCount_0f7a4, .initialized RJ6, .code yJ6_bitCount_0f7a4 cJ6_bitCount_0f7a4 1 (some .int), .constant RJ6 265 (1431655765), .constant RJ6 266 (858993459), .constant RJ6 267 (252645135)] ++ wsX60 ++ wsX50 ++ wsX00 ++ (vx_atS RX6 130 "java/lang/IndexOutOfBoundsException" ["java/lang/RuntimeException", "java/lang/Exception"]).filter goodWord ++ (vx_atS RX6 83 "java/lang/IllegalStateException" ["java/lang/RuntimeException", "java/lang/Exception"]).filter goodWord)
def wsX6_cardsOfSuit : List Cond := .code yX6_cardsOfSuit cX6_cardsOfSuit 5 (some .long) :: ([.constantLong RX6 355 (-4294967296), .constantLong RX6 357 (255)])
def wsX6_playableOf : List Cond := .code yX6_playableOf cX6_playableOf 7 (some .long) :: ([.methodLink RX6 359 yX6_cardsOfSuit, .static yX6_cardsOfSuit, .initialized RX6, .code yX6_cardsOfSuit cX6_cardsOfSuit 5 (some .long), .constantLong RX6 355 (-4294967296), .constantLong RX6 357 (255)])
def wsX6_playableNow_r1 : List Cond := [Cond.fieldLink RX6 53 "TarockHall" "phase" "I", Cond.fieldLink RX6 42 "TarockHall" "hands" "LTarockHall$Sets;", Cond.fieldLink RX6 56 "TarockHall" "turn" "I", Cond.fieldLink RX6 26 "TarockHall" "trick" "LTarockHall$Trick;", Cond.methodLink RX6 154 yX3_at, Cond.instanceMethod yX3_at, Cond.selects RX3 yX3_at yX3_at, Cond.initialized RX3, Cond.code yX3_at cX3_at 2 (some .long), Cond.fieldLink RX3 13 "TarockHall$Sets" "items" "[J", Cond.methodLink RX6 337 yX5_ledSuit, Cond.instanceMethod yX5_ledSuit, Cond.selects RX5 yX5_ledSuit yX5_ledSuit, Cond.initialized RX5, Cond.code yX5_ledSuit cX5_ledSuit 1 (some .int), Cond.fieldLink RX5 24 "TarockHall$Trick" "size" "I", Cond.fieldLink RX5 14 "TarockHall$Trick" "cards" "LTarockHall$Row;", Cond.methodLink RX5 31 yX2_at, Cond.instanceMethod yX2_at, Cond.selects RX2 yX2_at yX2_at, Cond.initialized RX2, Cond.code yX2_at cX2_at 2 (some .int), Cond.fieldLink RX2 15 "TarockHall$Row" "items" "[I", Cond.static yX6_suitOf]
def wsX6_playableNow_r2 : List Cond := [Cond.initialized RX6, Cond.code yX6_suitOf cX6_suitOf 1 (some .int), Cond.methodLink RX6 340 yX6_playableOf, Cond.static yX6_playableOf, Cond.code yX6_playableOf cX6_playableOf 7 (some .long), Cond.methodLink RX6 359 yX6_cardsOfSuit, Cond.static yX6_cardsOfSuit, Cond.code yX6_cardsOfSuit cX6_cardsOfSuit 5 (some .long), Cond.constantLong RX6 355 (-4294967296), Cond.constantLong RX6 357 (255)]
def wsX6_playableNow : List Cond := .code yX6_playableNow cX6_playableNow 1 (some .long) :: ((wsX6_playableNow_r1 ++ wsX6_playableNow_r2) ++ wsX60 ++ wsX30 ++ wsX50 ++ wsX20)
def wsX6_sideOf : List Cond := .code yX6_sideOf cX6_sideOf 2 (some .int) :: ([.fieldLink RX6 59 "TarockHall" "declarer" "I", .fieldLink RX6 68 "TarockHall" "partner" "I"] ++ wsX60)
def wsX6_thirdsOf : List Cond := .code yX6_thirdsOf cX6_thirdsOf 4 (some .int) :: ([.methodLink RX6 179 yX6_holds, .static yX6_holds, .initialized RX6, .code yX6_holds cX6_holds 3 (some .boolean), .methodLink RX6 254 yX6_worth, .static yX6_worth, .code yX6_worth cX6_worth 2 (some .int), .methodLink RX6 344 yX6_suitOf, .static yX6_suitOf, .code yX6_suitOf cX6_suitOf 1 (some .int)])
def wsX6_basePoints : List Cond := .code yX6_basePoints cX6_basePoints 1 (some .int) :: ([])
def wsX6_isWon : List Cond := .code yX6_isWon cX6_isWon 1 (some .boolean) :: ([])
def wsX6_gamePoints : List Cond := .code yX6_gamePoints cX6_gamePoints 3 (some .int) :: ([.methodLink RX6 350 Lib.Math.abs.name, .static Lib.Math.abs.name, .initialized "java/lang/Math", .code Lib.Math.abs.name Lib.Math.abs.code 1 (some .int), .methodLink RX6 347 yX6_basePoints, .static yX6_basePoints, .initialized RX6, .code yX6_basePoints cX6_basePoints 1 (some .int), .methodLink RX6 322 yX6_isWon, .static yX6_isWon, .code yX6_isWon cX6_isWon 1 (some .boolean)])
def wsX6_pagatPoints_r1 : List Cond := [Cond.fieldLink RX6 26 "TarockHall" "trick" "LTarockHall$Trick;", Cond.methodLink RX6 331 yX5_playerOf, Cond.instanceMethod yX5_playerOf, Cond.selects RX5 yX5_playerOf yX5_playerOf, Cond.initialized RX5, Cond.code yX5_playerOf cX5_playerOf 3 (some .int), Cond.fieldLink RX5 24 "TarockHall$Trick" "size" "I", Cond.fieldLink RX5 14 "TarockHall$Trick" "cards" "LTarockHall$Row;", Cond.methodLink RX5 31 yX2_at, Cond.instanceMethod yX2_at, Cond.selects RX2 yX2_at yX2_at, Cond.initialized RX2, Cond.code yX2_at cX2_at 2 (some .int), Cond.fieldLink RX2 15 "TarockHall$Row" "items" "[I", Cond.methodLink RX5 42 yX5_playerAt, Cond.instanceMethod yX5_playerAt, Cond.selects RX5 yX5_playerAt yX5_playerAt, Cond.code yX5_playerAt cX5_playerAt 2 (some .int), Cond.fieldLink RX5 20 "TarockHall$Trick" "leader" "I", Cond.methodLink RX6 285 yX6_sideOf, Cond.instanceMethod yX6_sideOf, Cond.selects RX6 yX6_sideOf yX6_sideOf, Cond.initialized RX6, Cond.code yX6_sideOf cX6_sideOf 2 (some .int)]
def wsX6_pagatPoints_r2 : List Cond := [Cond.fieldLink RX6 59 "TarockHall" "declarer" "I", Cond.fieldLink RX6 68 "TarockHall" "partner" "I", Cond.methodLink RX6 207 yX6_isAnnounced, Cond.instanceMethod yX6_isAnnounced, Cond.selects RX6 yX6_isAnnounced yX6_isAnnounced, Cond.code yX6_isAnnounced cX6_isAnnounced 2 (some .boolean), Cond.fieldLink RX6 214 "TarockHall" "announced" "I"]
def wsX6_pagatPoints : List Cond := .code yX6_pagatPoints cX6_pagatPoints 5 (some .int) :: ((wsX6_pagatPoints_r1 ++ wsX6_pagatPoints_r2) ++ wsX60 ++ wsX50 ++ wsX20)
def wsX6_kingPoints_r1 : List Cond := [Cond.fieldLink RX6 62 "TarockHall" "called" "I", Cond.fieldLink RX6 26 "TarockHall" "trick" "LTarockHall$Trick;", Cond.methodLink RX6 133 yX6_calledKing, Cond.instanceMethod yX6_calledKing, Cond.selects RX6 yX6_calledKing yX6_calledKing, Cond.initialized RX6, Cond.code yX6_calledKing cX6_calledKing 1 (some .int), Cond.methodLink RX6 331 yX5_playerOf, Cond.instanceMethod yX5_playerOf, Cond.selects RX5 yX5_playerOf yX5_playerOf, Cond.initialized RX5, Cond.code yX5_playerOf cX5_playerOf 3 (some .int), Cond.fieldLink RX5 24 "TarockHall$Trick" "size" "I", Cond.fieldLink RX5 14 "TarockHall$Trick" "cards" "LTarockHall$Row;", Cond.methodLink RX5 31 yX2_at, Cond.instanceMethod yX2_at, Cond.selects RX2 yX2_at yX2_at, Cond.initialized RX2, Cond.code yX2_at cX2_at 2 (some .int), Cond.fieldLink RX2 15 "TarockHall$Row" "items" "[I", Cond.methodLink RX5 42 yX5_playerAt, Cond.instanceMethod yX5_playerAt, Cond.selects RX5 yX5_playerAt yX5_playerAt, Cond.code yX5_playerAt cX5_playerAt 2 (some .int)]
def wsX6_kingPoints_r2 : List Cond := [Cond.fieldLink RX5 20 "TarockHall$Trick" "leader" "I", Cond.methodLink RX6 285 yX6_sideOf, Cond.instanceMethod yX6_sideOf, Cond.selects RX6 yX6_sideOf yX6_sideOf, Cond.code yX6_sideOf cX6_sideOf 2 (some .int), Cond.fieldLink RX6 59 "TarockHall" "declarer" "I", Cond.fieldLink RX6 68 "TarockHall" "partner" "I", Cond.methodLink RX6 207 yX6_isAnnounced, Cond.instanceMethod yX6_isAnnounced, Cond.selects RX6 yX6_isAnnounced yX6_isAnnounced, Cond.code yX6_isAnnounced cX6_isAnnounced 2 (some .boolean), Cond.fieldLink RX6 214 "TarockHall" "announced" "I"]
def wsX6_kingPoints : List Cond := .code yX6_kingPoints cX6_kingPoints 4 (some .int) :: ((wsX6_kingPoints_r1 ++ wsX6_kingPoints_r2) ++ wsX60 ++ wsX50 ++ wsX20)
def wsX6_enterResult_r1 : List Cond := [Cond.fieldLink RX6 19 "TarockHall" "bidding" "LTarockHall$Bidding;", Cond.fieldLink RX6 46 "TarockHall" "piles" "LTarockHall$Sets;", Cond.fieldLink RX6 33 "TarockHall" "sheet" "LTarockHall$Sheet;", Cond.fieldLink RX6 59 "TarockHall" "declarer" "I", Cond.fieldLink RX6 68 "TarockHall" "partner" "I", Cond.methodLink RX6 154 yX3_at, Cond.instanceMethod yX3_at, Cond.selects RX3 yX3_at yX3_at, Cond.initialized RX3, Cond.code yX3_at cX3_at 2 (some .long), Cond.fieldLink RX3 13 "TarockHall$Sets" "items" "[J", Cond.methodLink RX6 262 yX6_thirdsOf, Cond.static yX6_thirdsOf, Cond.initialized RX6, Cond.code yX6_thirdsOf cX6_thirdsOf 4 (some .int), Cond.methodLink RX6 179 yX6_holds, Cond.static yX6_holds, Cond.code yX6_holds cX6_holds 3 (some .boolean), Cond.methodLink RX6 254 yX6_worth, Cond.static yX6_worth, Cond.code yX6_worth cX6_worth 2 (some .int), Cond.methodLink RX6 344 yX6_suitOf, Cond.static yX6_suitOf, Cond.code yX6_suitOf cX6_suitOf 1 (some .int)]
def wsX6_enterResult_r2 : List Cond := [Cond.methodLink RX6 312 yX6_gamePoints, Cond.static yX6_gamePoints, Cond.code yX6_gamePoints cX6_gamePoints 3 (some .int), Cond.methodLink RX6 350 Lib.Math.abs.name, Cond.static Lib.Math.abs.name, Cond.initialized "java/lang/Math", Cond.code Lib.Math.abs.name Lib.Math.abs.code 1 (some .int), Cond.methodLink RX6 347 yX6_basePoints, Cond.static yX6_basePoints, Cond.code yX6_basePoints cX6_basePoints 1 (some .int), Cond.methodLink RX6 322 yX6_isWon, Cond.static yX6_isWon, Cond.code yX6_isWon cX6_isWon 1 (some .boolean), Cond.methodLink RX6 316 yX6_pagatPoints, Cond.instanceMethod yX6_pagatPoints, Cond.selects RX6 yX6_pagatPoints yX6_pagatPoints, Cond.code yX6_pagatPoints cX6_pagatPoints 5 (some .int), Cond.fieldLink RX6 26 "TarockHall" "trick" "LTarockHall$Trick;", Cond.methodLink RX6 331 yX5_playerOf, Cond.instanceMethod yX5_playerOf, Cond.selects RX5 yX5_playerOf yX5_playerOf, Cond.initialized RX5, Cond.code yX5_playerOf cX5_playerOf 3 (some .int), Cond.fieldLink RX5 24 "TarockHall$Trick" "size" "I"]
def wsX6_enterResult_r3 : List Cond := [Cond.fieldLink RX5 14 "TarockHall$Trick" "cards" "LTarockHall$Row;", Cond.methodLink RX5 31 yX2_at, Cond.instanceMethod yX2_at, Cond.selects RX2 yX2_at yX2_at, Cond.initialized RX2, Cond.code yX2_at cX2_at 2 (some .int), Cond.fieldLink RX2 15 "TarockHall$Row" "items" "[I", Cond.methodLink RX5 42 yX5_playerAt, Cond.instanceMethod yX5_playerAt, Cond.selects RX5 yX5_playerAt yX5_playerAt, Cond.code yX5_playerAt cX5_playerAt 2 (some .int), Cond.fieldLink RX5 20 "TarockHall$Trick" "leader" "I", Cond.methodLink RX6 285 yX6_sideOf, Cond.instanceMethod yX6_sideOf, Cond.selects RX6 yX6_sideOf yX6_sideOf, Cond.code yX6_sideOf cX6_sideOf 2 (some .int), Cond.methodLink RX6 207 yX6_isAnnounced, Cond.instanceMethod yX6_isAnnounced, Cond.selects RX6 yX6_isAnnounced yX6_isAnnounced, Cond.code yX6_isAnnounced cX6_isAnnounced 2 (some .boolean), Cond.fieldLink RX6 214 "TarockHall" "announced" "I", Cond.methodLink RX6 319 yX6_kingPoints, Cond.instanceMethod yX6_kingPoints, Cond.selects RX6 yX6_kingPoints yX6_kingPoints]
def wsX6_enterResult_r4 : List Cond := [Cond.code yX6_kingPoints cX6_kingPoints 4 (some .int), Cond.fieldLink RX6 62 "TarockHall" "called" "I", Cond.methodLink RX6 133 yX6_calledKing, Cond.instanceMethod yX6_calledKing, Cond.selects RX6 yX6_calledKing yX6_calledKing, Cond.code yX6_calledKing cX6_calledKing 1 (some .int), Cond.methodLink RX6 325 yX4_enter, Cond.instanceMethod yX4_enter, Cond.selects RX4 yX4_enter yX4_enter, Cond.initialized RX4, Cond.code yX4_enter cX4_enter 6 none, Cond.fieldLink RX4 20 "TarockHall$Sheet" "radli" "LTarockHall$Row;", Cond.fieldLink RX4 27 "TarockHall$Sheet" "latest" "I", Cond.methodLink RX4 23 yX2_at, Cond.methodLink RX4 31 yX2_put, Cond.instanceMethod yX2_put, Cond.selects RX2 yX2_put yX2_put, Cond.code yX2_put cX2_put 3 none, Cond.methodLink RX4 35 yX4_addScore, Cond.instanceMethod yX4_addScore, Cond.selects RX4 yX4_addScore yX4_addScore, Cond.code yX4_addScore cX4_addScore 2 none, Cond.fieldLink RX4 14 "TarockHall$Sheet" "scores" "LTarockHall$Row;", Cond.methodLink RX6 328 yX4_giveRadli]
def wsX6_enterResult_r5 : List Cond := [Cond.instanceMethod yX4_giveRadli, Cond.selects RX4 yX4_giveRadli yX4_giveRadli, Cond.code yX4_giveRadli cX4_giveRadli 2 none]
def wsX6_enterResult : List Cond := .code yX6_enterResult cX6_enterResult 5 none :: ((wsX6_enterResult_r1 ++ (wsX6_enterResult_r2 ++ (wsX6_enterResult_r3 ++ (wsX6_enterResult_r4 ++ wsX6_enterResult_r5)))) ++ wsX60 ++ wsX00 ++ wsX30 ++ wsX50 ++ wsX20 ++ wsX40)
def wsX6_endTrick_r1 : List Cond := [Cond.fieldLink RX6 46 "TarockHall" "piles" "LTarockHall$Sets;", Cond.fieldLink RX6 26 "TarockHall" "trick" "LTarockHall$Trick;", Cond.fieldLink RX6 199 "TarockHall" "tricks" "I", Cond.fieldLink RX6 56 "TarockHall" "turn" "I", Cond.methodLink RX6 285 yX6_sideOf, Cond.instanceMethod yX6_sideOf, Cond.selects RX6 yX6_sideOf yX6_sideOf, Cond.initialized RX6, Cond.code yX6_sideOf cX6_sideOf 2 (some .int), Cond.fieldLink RX6 59 "TarockHall" "declarer" "I", Cond.fieldLink RX6 68 "TarockHall" "partner" "I", Cond.methodLink RX6 154 yX3_at, Cond.instanceMethod yX3_at, Cond.selects RX3 yX3_at yX3_at, Cond.initialized RX3, Cond.code yX3_at cX3_at 2 (some .long), Cond.fieldLink RX3 13 "TarockHall$Sets" "items" "[J", Cond.methodLink RX6 306 yX5_cardSet, Cond.instanceMethod yX5_cardSet, Cond.selects RX5 yX5_cardSet yX5_cardSet, Cond.initialized RX5, Cond.code yX5_cardSet cX5_cardSet 4 (some .long), Cond.fieldLink RX5 24 "TarockHall$Trick" "size" "I", Cond.fieldLink RX5 14 "TarockHall$Trick" "cards" "LTarockHall$Row;"]
def wsX6_endTrick_r2 : List Cond := [Cond.methodLink RX5 31 yX2_at, Cond.instanceMethod yX2_at, Cond.selects RX2 yX2_at yX2_at, Cond.initialized RX2, Cond.code yX2_at cX2_at 2 (some .int), Cond.fieldLink RX2 15 "TarockHall$Row" "items" "[I", Cond.static yX6_only, Cond.code yX6_only cX6_only 1 (some .long), Cond.methodLink RX6 158 yX3_put, Cond.instanceMethod yX3_put, Cond.selects RX3 yX3_put yX3_put, Cond.code yX3_put cX3_put 4 none, Cond.methodLink RX6 309 yX6_enterResult, Cond.instanceMethod yX6_enterResult, Cond.selects RX6 yX6_enterResult yX6_enterResult, Cond.code yX6_enterResult cX6_enterResult 5 none, Cond.fieldLink RX6 19 "TarockHall" "bidding" "LTarockHall$Bidding;", Cond.fieldLink RX6 33 "TarockHall" "sheet" "LTarockHall$Sheet;", Cond.methodLink RX6 262 yX6_thirdsOf, Cond.static yX6_thirdsOf, Cond.code yX6_thirdsOf cX6_thirdsOf 4 (some .int), Cond.methodLink RX6 179 yX6_holds, Cond.static yX6_holds, Cond.code yX6_holds cX6_holds 3 (some .boolean)]
def wsX6_endTrick_r3 : List Cond := [Cond.methodLink RX6 254 yX6_worth, Cond.static yX6_worth, Cond.code yX6_worth cX6_worth 2 (some .int), Cond.methodLink RX6 344 yX6_suitOf, Cond.static yX6_suitOf, Cond.code yX6_suitOf cX6_suitOf 1 (some .int), Cond.methodLink RX6 312 yX6_gamePoints, Cond.static yX6_gamePoints, Cond.code yX6_gamePoints cX6_gamePoints 3 (some .int), Cond.methodLink RX6 350 Lib.Math.abs.name, Cond.static Lib.Math.abs.name, Cond.initialized "java/lang/Math", Cond.code Lib.Math.abs.name Lib.Math.abs.code 1 (some .int), Cond.methodLink RX6 347 yX6_basePoints, Cond.static yX6_basePoints, Cond.code yX6_basePoints cX6_basePoints 1 (some .int), Cond.methodLink RX6 322 yX6_isWon, Cond.static yX6_isWon, Cond.code yX6_isWon cX6_isWon 1 (some .boolean), Cond.methodLink RX6 316 yX6_pagatPoints, Cond.instanceMethod yX6_pagatPoints, Cond.selects RX6 yX6_pagatPoints yX6_pagatPoints, Cond.code yX6_pagatPoints cX6_pagatPoints 5 (some .int), Cond.methodLink RX6 331 yX5_playerOf]
def wsX6_endTrick_r4 : List Cond := [Cond.instanceMethod yX5_playerOf, Cond.selects RX5 yX5_playerOf yX5_playerOf, Cond.code yX5_playerOf cX5_playerOf 3 (some .int), Cond.methodLink RX5 42 yX5_playerAt, Cond.instanceMethod yX5_playerAt, Cond.selects RX5 yX5_playerAt yX5_playerAt, Cond.code yX5_playerAt cX5_playerAt 2 (some .int), Cond.fieldLink RX5 20 "TarockHall$Trick" "leader" "I", Cond.methodLink RX6 207 yX6_isAnnounced, Cond.instanceMethod yX6_isAnnounced, Cond.selects RX6 yX6_isAnnounced yX6_isAnnounced, Cond.code yX6_isAnnounced cX6_isAnnounced 2 (some .boolean), Cond.fieldLink RX6 214 "TarockHall" "announced" "I", Cond.methodLink RX6 319 yX6_kingPoints, Cond.instanceMethod yX6_kingPoints, Cond.selects RX6 yX6_kingPoints yX6_kingPoints, Cond.code yX6_kingPoints cX6_kingPoints 4 (some .int), Cond.fieldLink RX6 62 "TarockHall" "called" "I", Cond.methodLink RX6 133 yX6_calledKing, Cond.instanceMethod yX6_calledKing, Cond.selects RX6 yX6_calledKing yX6_calledKing, Cond.code yX6_calledKing cX6_calledKing 1 (some .int), Cond.methodLink RX6 325 yX4_enter, Cond.instanceMethod yX4_enter]
def wsX6_endTrick_r5 : List Cond := [Cond.selects RX4 yX4_enter yX4_enter, Cond.initialized RX4, Cond.code yX4_enter cX4_enter 6 none, Cond.fieldLink RX4 20 "TarockHall$Sheet" "radli" "LTarockHall$Row;", Cond.fieldLink RX4 27 "TarockHall$Sheet" "latest" "I", Cond.methodLink RX4 23 yX2_at, Cond.methodLink RX4 31 yX2_put, Cond.instanceMethod yX2_put, Cond.selects RX2 yX2_put yX2_put, Cond.code yX2_put cX2_put 3 none, Cond.methodLink RX4 35 yX4_addScore, Cond.instanceMethod yX4_addScore, Cond.selects RX4 yX4_addScore yX4_addScore, Cond.code yX4_addScore cX4_addScore 2 none, Cond.fieldLink RX4 14 "TarockHall$Sheet" "scores" "LTarockHall$Row;", Cond.methodLink RX6 328 yX4_giveRadli, Cond.instanceMethod yX4_giveRadli, Cond.selects RX4 yX4_giveRadli yX4_giveRadli, Cond.code yX4_giveRadli cX4_giveRadli 2 none, Cond.methodLink RX6 114 yX6_endDeal, Cond.instanceMethod yX6_endDeal, Cond.selects RX6 yX6_endDeal yX6_endDeal, Cond.code yX6_endDeal cX6_endDeal 1 none, Cond.fieldLink RX6 53 "TarockHall" "phase" "I"]
def wsX6_endTrick_r6 : List Cond := [Cond.methodLink RX6 291 yX5_begin, Cond.instanceMethod yX5_begin, Cond.selects RX5 yX5_begin yX5_begin, Cond.code yX5_begin cX5_begin 2 none]
def wsX6_endTrick : List Cond := .code yX6_endTrick cX6_endTrick 3 none :: ((wsX6_endTrick_r1 ++ (wsX6_endTrick_r2 ++ (wsX6_endTrick_r3 ++ (wsX6_endTrick_r4 ++ (wsX6_endTrick_r5 ++ wsX6_endTrick_r6))))) ++ wsX60 ++ wsX30 ++ wsX50 ++ wsX20 ++ wsX00 ++ wsX40)
def wsX6_addToTrick_r1 : List Cond := [Cond.fieldLink RX6 42 "TarockHall" "hands" "LTarockHall$Sets;", Cond.fieldLink RX6 56 "TarockHall" "turn" "I", Cond.constantLong RX6 166 (-1), Cond.fieldLink RX6 26 "TarockHall" "trick" "LTarockHall$Trick;", Cond.methodLink RX6 154 yX3_at, Cond.instanceMethod yX3_at, Cond.selects RX3 yX3_at yX3_at, Cond.initialized RX3, Cond.code yX3_at cX3_at 2 (some .long), Cond.fieldLink RX3 13 "TarockHall$Sets" "items" "[J", Cond.methodLink RX6 188 yX6_only, Cond.static yX6_only, Cond.initialized RX6, Cond.code yX6_only cX6_only 1 (some .long), Cond.methodLink RX6 158 yX3_put, Cond.instanceMethod yX3_put, Cond.selects RX3 yX3_put yX3_put, Cond.code yX3_put cX3_put 4 none, Cond.methodLink RX6 297 yX5_add, Cond.instanceMethod yX5_add, Cond.selects RX5 yX5_add yX5_add, Cond.initialized RX5, Cond.code yX5_add cX5_add 2 none, Cond.fieldLink RX5 14 "TarockHall$Trick" "cards" "LTarockHall$Row;"]
def wsX6_addToTrick_r2 : List Cond := [Cond.fieldLink RX5 24 "TarockHall$Trick" "size" "I", Cond.methodLink RX5 27 yX2_put, Cond.instanceMethod yX2_put, Cond.selects RX2 yX2_put yX2_put, Cond.initialized RX2, Cond.code yX2_put cX2_put 3 none, Cond.fieldLink RX2 15 "TarockHall$Row" "items" "[I", Cond.methodLink RX6 84 yX6_behind, Cond.static yX6_behind, Cond.code yX6_behind cX6_behind 1 (some .int), Cond.methodLink RX6 300 yX5_winner, Cond.instanceMethod yX5_winner, Cond.selects RX5 yX5_winner yX5_winner, Cond.code yX5_winner cX5_winner 3 (some .int), Cond.methodLink RX5 31 yX2_at, Cond.instanceMethod yX2_at, Cond.selects RX2 yX2_at yX2_at, Cond.code yX2_at cX2_at 2 (some .int), Cond.methodLink RX5 45 yX5_beats, Cond.static yX5_beats, Cond.code yX5_beats cX5_beats 3 (some .boolean), Cond.static yX6_suitOf, Cond.code yX6_suitOf cX6_suitOf 1 (some .int), Cond.methodLink RX5 42 yX5_playerAt]
def wsX6_addToTrick_r3 : List Cond := [Cond.instanceMethod yX5_playerAt, Cond.selects RX5 yX5_playerAt yX5_playerAt, Cond.code yX5_playerAt cX5_playerAt 2 (some .int), Cond.fieldLink RX5 20 "TarockHall$Trick" "leader" "I", Cond.methodLink RX6 303 yX6_endTrick, Cond.instanceMethod yX6_endTrick, Cond.selects RX6 yX6_endTrick yX6_endTrick, Cond.code yX6_endTrick cX6_endTrick 3 none, Cond.fieldLink RX6 46 "TarockHall" "piles" "LTarockHall$Sets;", Cond.fieldLink RX6 199 "TarockHall" "tricks" "I", Cond.methodLink RX6 285 yX6_sideOf, Cond.instanceMethod yX6_sideOf, Cond.selects RX6 yX6_sideOf yX6_sideOf, Cond.code yX6_sideOf cX6_sideOf 2 (some .int), Cond.fieldLink RX6 59 "TarockHall" "declarer" "I", Cond.fieldLink RX6 68 "TarockHall" "partner" "I", Cond.methodLink RX6 306 yX5_cardSet, Cond.instanceMethod yX5_cardSet, Cond.selects RX5 yX5_cardSet yX5_cardSet, Cond.code yX5_cardSet cX5_cardSet 4 (some .long), Cond.methodLink RX6 309 yX6_enterResult, Cond.instanceMethod yX6_enterResult, Cond.selects RX6 yX6_enterResult yX6_enterResult, Cond.code yX6_enterResult cX6_enterResult 5 none]
def wsX6_addToTrick_r4 : List Cond := [Cond.fieldLink RX6 19 "TarockHall" "bidding" "LTarockHall$Bidding;", Cond.fieldLink RX6 33 "TarockHall" "sheet" "LTarockHall$Sheet;", Cond.methodLink RX6 262 yX6_thirdsOf, Cond.static yX6_thirdsOf, Cond.code yX6_thirdsOf cX6_thirdsOf 4 (some .int), Cond.methodLink RX6 179 yX6_holds, Cond.static yX6_holds, Cond.code yX6_holds cX6_holds 3 (some .boolean), Cond.methodLink RX6 254 yX6_worth, Cond.static yX6_worth, Cond.code yX6_worth cX6_worth 2 (some .int), Cond.methodLink RX6 344 yX6_suitOf, Cond.methodLink RX6 312 yX6_gamePoints, Cond.static yX6_gamePoints, Cond.code yX6_gamePoints cX6_gamePoints 3 (some .int), Cond.methodLink RX6 350 Lib.Math.abs.name, Cond.static Lib.Math.abs.name, Cond.initialized "java/lang/Math", Cond.code Lib.Math.abs.name Lib.Math.abs.code 1 (some .int), Cond.methodLink RX6 347 yX6_basePoints, Cond.static yX6_basePoints, Cond.code yX6_basePoints cX6_basePoints 1 (some .int), Cond.methodLink RX6 322 yX6_isWon, Cond.static yX6_isWon]
def wsX6_addToTrick_r5 : List Cond := [Cond.code yX6_isWon cX6_isWon 1 (some .boolean), Cond.methodLink RX6 316 yX6_pagatPoints, Cond.instanceMethod yX6_pagatPoints, Cond.selects RX6 yX6_pagatPoints yX6_pagatPoints, Cond.code yX6_pagatPoints cX6_pagatPoints 5 (some .int), Cond.methodLink RX6 331 yX5_playerOf, Cond.instanceMethod yX5_playerOf, Cond.selects RX5 yX5_playerOf yX5_playerOf, Cond.code yX5_playerOf cX5_playerOf 3 (some .int), Cond.methodLink RX6 207 yX6_isAnnounced, Cond.instanceMethod yX6_isAnnounced, Cond.selects RX6 yX6_isAnnounced yX6_isAnnounced, Cond.code yX6_isAnnounced cX6_isAnnounced 2 (some .boolean), Cond.fieldLink RX6 214 "TarockHall" "announced" "I", Cond.methodLink RX6 319 yX6_kingPoints, Cond.instanceMethod yX6_kingPoints, Cond.selects RX6 yX6_kingPoints yX6_kingPoints, Cond.code yX6_kingPoints cX6_kingPoints 4 (some .int), Cond.fieldLink RX6 62 "TarockHall" "called" "I", Cond.methodLink RX6 133 yX6_calledKing, Cond.instanceMethod yX6_calledKing, Cond.selects RX6 yX6_calledKing yX6_calledKing, Cond.code yX6_calledKing cX6_calledKing 1 (some .int), Cond.methodLink RX6 325 yX4_enter]
def wsX6_addToTrick_r6 : List Cond := [Cond.instanceMethod yX4_enter, Cond.selects RX4 yX4_enter yX4_enter, Cond.initialized RX4, Cond.code yX4_enter cX4_enter 6 none, Cond.fieldLink RX4 20 "TarockHall$Sheet" "radli" "LTarockHall$Row;", Cond.fieldLink RX4 27 "TarockHall$Sheet" "latest" "I", Cond.methodLink RX4 23 yX2_at, Cond.methodLink RX4 31 yX2_put, Cond.methodLink RX4 35 yX4_addScore, Cond.instanceMethod yX4_addScore, Cond.selects RX4 yX4_addScore yX4_addScore, Cond.code yX4_addScore cX4_addScore 2 none, Cond.fieldLink RX4 14 "TarockHall$Sheet" "scores" "LTarockHall$Row;", Cond.methodLink RX6 328 yX4_giveRadli, Cond.instanceMethod yX4_giveRadli, Cond.selects RX4 yX4_giveRadli yX4_giveRadli, Cond.code yX4_giveRadli cX4_giveRadli 2 none, Cond.methodLink RX6 114 yX6_endDeal, Cond.instanceMethod yX6_endDeal, Cond.selects RX6 yX6_endDeal yX6_endDeal, Cond.code yX6_endDeal cX6_endDeal 1 none, Cond.fieldLink RX6 53 "TarockHall" "phase" "I", Cond.methodLink RX6 291 yX5_begin, Cond.instanceMethod yX5_begin]
def wsX6_addToTrick_r7 : List Cond := [Cond.selects RX5 yX5_begin yX5_begin, Cond.code yX5_begin cX5_begin 2 none]
def wsX6_addToTrick : List Cond := .code yX6_addToTrick cX6_addToTrick 3 (some .int) :: ((wsX6_addToTrick_r1 ++ (wsX6_addToTrick_r2 ++ (wsX6_addToTrick_r3 ++ (wsX6_addToTrick_r4 ++ (wsX6_addToTrick_r5 ++ (wsX6_addToTrick_r6 ++ wsX6_addToTrick_r7)))))) ++ wsX60 ++ wsX50 ++ wsX30 ++ wsX20 ++ wsX00 ++ wsX40)
def wsX6_play_r1 : List Cond := [Cond.classLink RX6 126 "java/lang/IndexOutOfBoundsException", Cond.initialized "java/lang/IndexOutOfBoundsException", Cond.classLink RX6 79 "java/lang/IllegalStateException", Cond.initialized "java/lang/IllegalStateException", Cond.methodLink RX6 171 yX6_isCard, Cond.static yX6_isCard, Cond.initialized RX6, Cond.code yX6_isCard cX6_isCard 1 (some .boolean), Cond.methodLink RX6 222 yX6_playableNow, Cond.instanceMethod yX6_playableNow, Cond.selects RX6 yX6_playableNow yX6_playableNow, Cond.code yX6_playableNow cX6_playableNow 1 (some .long), Cond.fieldLink RX6 53 "TarockHall" "phase" "I", Cond.fieldLink RX6 42 "TarockHall" "hands" "LTarockHall$Sets;", Cond.fieldLink RX6 56 "TarockHall" "turn" "I", Cond.fieldLink RX6 26 "TarockHall" "trick" "LTarockHall$Trick;", Cond.methodLink RX6 154 yX3_at, Cond.instanceMethod yX3_at, Cond.selects RX3 yX3_at yX3_at, Cond.initialized RX3, Cond.code yX3_at cX3_at 2 (some .long), Cond.fieldLink RX3 13 "TarockHall$Sets" "items" "[J", Cond.methodLink RX6 337 yX5_ledSuit, Cond.instanceMethod yX5_ledSuit]
def wsX6_play_r2 : List Cond := [Cond.selects RX5 yX5_ledSuit yX5_ledSuit, Cond.initialized RX5, Cond.code yX5_ledSuit cX5_ledSuit 1 (some .int), Cond.fieldLink RX5 24 "TarockHall$Trick" "size" "I", Cond.fieldLink RX5 14 "TarockHall$Trick" "cards" "LTarockHall$Row;", Cond.methodLink RX5 31 yX2_at, Cond.instanceMethod yX2_at, Cond.selects RX2 yX2_at yX2_at, Cond.initialized RX2, Cond.code yX2_at cX2_at 2 (some .int), Cond.fieldLink RX2 15 "TarockHall$Row" "items" "[I", Cond.static yX6_suitOf, Cond.code yX6_suitOf cX6_suitOf 1 (some .int), Cond.methodLink RX6 340 yX6_playableOf, Cond.static yX6_playableOf, Cond.code yX6_playableOf cX6_playableOf 7 (some .long), Cond.methodLink RX6 359 yX6_cardsOfSuit, Cond.static yX6_cardsOfSuit, Cond.code yX6_cardsOfSuit cX6_cardsOfSuit 5 (some .long), Cond.constantLong RX6 355 (-4294967296), Cond.constantLong RX6 357 (255), Cond.methodLink RX6 179 yX6_holds, Cond.static yX6_holds, Cond.code yX6_holds cX6_holds 3 (some .boolean)]
def wsX6_play_r3 : List Cond := [Cond.methodLink RX6 228 yX6_addToTrick, Cond.instanceMethod yX6_addToTrick, Cond.selects RX6 yX6_addToTrick yX6_addToTrick, Cond.code yX6_addToTrick cX6_addToTrick 3 (some .int), Cond.constantLong RX6 166 (-1), Cond.methodLink RX6 188 yX6_only, Cond.static yX6_only, Cond.code yX6_only cX6_only 1 (some .long), Cond.methodLink RX6 158 yX3_put, Cond.instanceMethod yX3_put, Cond.selects RX3 yX3_put yX3_put, Cond.code yX3_put cX3_put 4 none, Cond.methodLink RX6 297 yX5_add, Cond.instanceMethod yX5_add, Cond.selects RX5 yX5_add yX5_add, Cond.code yX5_add cX5_add 2 none, Cond.methodLink RX5 27 yX2_put, Cond.instanceMethod yX2_put, Cond.selects RX2 yX2_put yX2_put, Cond.code yX2_put cX2_put 3 none, Cond.methodLink RX6 84 yX6_behind, Cond.static yX6_behind, Cond.code yX6_behind cX6_behind 1 (some .int), Cond.methodLink RX6 300 yX5_winner]
def wsX6_play_r4 : List Cond := [Cond.instanceMethod yX5_winner, Cond.selects RX5 yX5_winner yX5_winner, Cond.code yX5_winner cX5_winner 3 (some .int), Cond.methodLink RX5 45 yX5_beats, Cond.static yX5_beats, Cond.code yX5_beats cX5_beats 3 (some .boolean), Cond.methodLink RX5 42 yX5_playerAt, Cond.instanceMethod yX5_playerAt, Cond.selects RX5 yX5_playerAt yX5_playerAt, Cond.code yX5_playerAt cX5_playerAt 2 (some .int), Cond.fieldLink RX5 20 "TarockHall$Trick" "leader" "I", Cond.methodLink RX6 303 yX6_endTrick, Cond.instanceMethod yX6_endTrick, Cond.selects RX6 yX6_endTrick yX6_endTrick, Cond.code yX6_endTrick cX6_endTrick 3 none, Cond.fieldLink RX6 46 "TarockHall" "piles" "LTarockHall$Sets;", Cond.fieldLink RX6 199 "TarockHall" "tricks" "I", Cond.methodLink RX6 285 yX6_sideOf, Cond.instanceMethod yX6_sideOf, Cond.selects RX6 yX6_sideOf yX6_sideOf, Cond.code yX6_sideOf cX6_sideOf 2 (some .int), Cond.fieldLink RX6 59 "TarockHall" "declarer" "I", Cond.fieldLink RX6 68 "TarockHall" "partner" "I", Cond.methodLink RX6 306 yX5_cardSet]
def wsX6_play_r5 : List Cond := [Cond.instanceMethod yX5_cardSet, Cond.selects RX5 yX5_cardSet yX5_cardSet, Cond.code yX5_cardSet cX5_cardSet 4 (some .long), Cond.methodLink RX6 309 yX6_enterResult, Cond.instanceMethod yX6_enterResult, Cond.selects RX6 yX6_enterResult yX6_enterResult, Cond.code yX6_enterResult cX6_enterResult 5 none, Cond.fieldLink RX6 19 "TarockHall" "bidding" "LTarockHall$Bidding;", Cond.fieldLink RX6 33 "TarockHall" "sheet" "LTarockHall$Sheet;", Cond.methodLink RX6 262 yX6_thirdsOf, Cond.static yX6_thirdsOf, Cond.code yX6_thirdsOf cX6_thirdsOf 4 (some .int), Cond.methodLink RX6 254 yX6_worth, Cond.static yX6_worth, Cond.code yX6_worth cX6_worth 2 (some .int), Cond.methodLink RX6 344 yX6_suitOf, Cond.methodLink RX6 312 yX6_gamePoints, Cond.static yX6_gamePoints, Cond.code yX6_gamePoints cX6_gamePoints 3 (some .int), Cond.methodLink RX6 350 Lib.Math.abs.name, Cond.static Lib.Math.abs.name, Cond.initialized "java/lang/Math", Cond.code Lib.Math.abs.name Lib.Math.abs.code 1 (some .int), Cond.methodLink RX6 347 yX6_basePoints]
def wsX6_play_r6 : List Cond := [Cond.static yX6_basePoints, Cond.code yX6_basePoints cX6_basePoints 1 (some .int), Cond.methodLink RX6 322 yX6_isWon, Cond.static yX6_isWon, Cond.code yX6_isWon cX6_isWon 1 (some .boolean), Cond.methodLink RX6 316 yX6_pagatPoints, Cond.instanceMethod yX6_pagatPoints, Cond.selects RX6 yX6_pagatPoints yX6_pagatPoints, Cond.code yX6_pagatPoints cX6_pagatPoints 5 (some .int), Cond.methodLink RX6 331 yX5_playerOf, Cond.instanceMethod yX5_playerOf, Cond.selects RX5 yX5_playerOf yX5_playerOf, Cond.code yX5_playerOf cX5_playerOf 3 (some .int), Cond.methodLink RX6 207 yX6_isAnnounced, Cond.instanceMethod yX6_isAnnounced, Cond.selects RX6 yX6_isAnnounced yX6_isAnnounced, Cond.code yX6_isAnnounced cX6_isAnnounced 2 (some .boolean), Cond.fieldLink RX6 214 "TarockHall" "announced" "I", Cond.methodLink RX6 319 yX6_kingPoints, Cond.instanceMethod yX6_kingPoints, Cond.selects RX6 yX6_kingPoints yX6_kingPoints, Cond.code yX6_kingPoints cX6_kingPoints 4 (some .int), Cond.fieldLink RX6 62 "TarockHall" "called" "I", Cond.methodLink RX6 133 yX6_calledKing]
def wsX6_play_r7 : List Cond := [Cond.instanceMethod yX6_calledKing, Cond.selects RX6 yX6_calledKing yX6_calledKing, Cond.code yX6_calledKing cX6_calledKing 1 (some .int), Cond.methodLink RX6 325 yX4_enter, Cond.instanceMethod yX4_enter, Cond.selects RX4 yX4_enter yX4_enter, Cond.initialized RX4, Cond.code yX4_enter cX4_enter 6 none, Cond.fieldLink RX4 20 "TarockHall$Sheet" "radli" "LTarockHall$Row;", Cond.fieldLink RX4 27 "TarockHall$Sheet" "latest" "I", Cond.methodLink RX4 23 yX2_at, Cond.methodLink RX4 31 yX2_put, Cond.methodLink RX4 35 yX4_addScore, Cond.instanceMethod yX4_addScore, Cond.selects RX4 yX4_addScore yX4_addScore, Cond.code yX4_addScore cX4_addScore 2 none, Cond.fieldLink RX4 14 "TarockHall$Sheet" "scores" "LTarockHall$Row;", Cond.methodLink RX6 328 yX4_giveRadli, Cond.instanceMethod yX4_giveRadli, Cond.selects RX4 yX4_giveRadli yX4_giveRadli, Cond.code yX4_giveRadli cX4_giveRadli 2 none, Cond.methodLink RX6 114 yX6_endDeal, Cond.instanceMethod yX6_endDeal, Cond.selects RX6 yX6_endDeal yX6_endDeal]
def wsX6_play_r8 : List Cond := [Cond.code yX6_endDeal cX6_endDeal 1 none, Cond.methodLink RX6 291 yX5_begin, Cond.instanceMethod yX5_begin, Cond.selects RX5 yX5_begin yX5_begin, Cond.code yX5_begin cX5_begin 2 none]
def wsX6_play : List Cond := .code yX6_play cX6_play 2 (some .int) :: ((wsX6_play_r1 ++ (wsX6_play_r2 ++ (wsX6_play_r3 ++ (wsX6_play_r4 ++ (wsX6_play_r5 ++ (wsX6_play_r6 ++ (wsX6_play_r7 ++ wsX6_play_r8))))))) ++ wsX60 ++ wsX30 ++ wsX50 ++ wsX20 ++ wsX00 ++ wsX40 ++ (vx_atS RX6 130 "java/lang/IndexOutOfBoundsException" ["java/lang/RuntimeException", "java/lang/Exception"]).filter goodWord ++ (vx_atS RX6 83 "java/lang/IllegalStateException" ["java/lang/RuntimeException", "java/lang/Exception"]).filter goodWord)
def wsX6_lowestOf : List Cond := .code yX6_lowestOf cX6_lowestOf 3 (some .int) :: ([.methodLink RX6 179 yX6_holds, .static yX6_holds, .initialized RX6, .code yX6_holds cX6_holds 3 (some .boolean)])
def wsX6_playLowest_r1 : List Cond := [Cond.classLink RX6 72 "java/lang/IllegalArgumentException", Cond.initialized "java/lang/IllegalArgumentException", Cond.classLink RX6 79 "java/lang/IllegalStateException", Cond.initialized "java/lang/IllegalStateException", Cond.fieldLink RX6 53 "TarockHall" "phase" "I", Cond.methodLink RX6 222 yX6_playableNow, Cond.instanceMethod yX6_playableNow, Cond.selects RX6 yX6_playableNow yX6_playableNow, Cond.initialized RX6, Cond.code yX6_playableNow cX6_playableNow 1 (some .long), Cond.fieldLink RX6 42 "TarockHall" "hands" "LTarockHall$Sets;", Cond.fieldLink RX6 56 "TarockHall" "turn" "I", Cond.fieldLink RX6 26 "TarockHall" "trick" "LTarockHall$Trick;", Cond.methodLink RX6 154 yX3_at, Cond.instanceMethod yX3_at, Cond.selects RX3 yX3_at yX3_at, Cond.initialized RX3, Cond.code yX3_at cX3_at 2 (some .long), Cond.fieldLink RX3 13 "TarockHall$Sets" "items" "[J", Cond.methodLink RX6 337 yX5_ledSuit, Cond.instanceMethod yX5_ledSuit, Cond.selects RX5 yX5_ledSuit yX5_ledSuit, Cond.initialized RX5, Cond.code yX5_ledSuit cX5_ledSuit 1 (some .int)]
def wsX6_playLowest_r2 : List Cond := [Cond.fieldLink RX5 24 "TarockHall$Trick" "size" "I", Cond.fieldLink RX5 14 "TarockHall$Trick" "cards" "LTarockHall$Row;", Cond.methodLink RX5 31 yX2_at, Cond.instanceMethod yX2_at, Cond.selects RX2 yX2_at yX2_at, Cond.initialized RX2, Cond.code yX2_at cX2_at 2 (some .int), Cond.fieldLink RX2 15 "TarockHall$Row" "items" "[I", Cond.static yX6_suitOf, Cond.code yX6_suitOf cX6_suitOf 1 (some .int), Cond.methodLink RX6 340 yX6_playableOf, Cond.static yX6_playableOf, Cond.code yX6_playableOf cX6_playableOf 7 (some .long), Cond.methodLink RX6 359 yX6_cardsOfSuit, Cond.static yX6_cardsOfSuit, Cond.code yX6_cardsOfSuit cX6_cardsOfSuit 5 (some .long), Cond.constantLong RX6 355 (-4294967296), Cond.constantLong RX6 357 (255), Cond.methodLink RX6 235 yX6_lowestOf, Cond.static yX6_lowestOf, Cond.code yX6_lowestOf cX6_lowestOf 3 (some .int), Cond.methodLink RX6 179 yX6_holds, Cond.static yX6_holds, Cond.code yX6_holds cX6_holds 3 (some .boolean)]
def wsX6_playLowest_r3 : List Cond := [Cond.methodLink RX6 228 yX6_addToTrick, Cond.instanceMethod yX6_addToTrick, Cond.selects RX6 yX6_addToTrick yX6_addToTrick, Cond.code yX6_addToTrick cX6_addToTrick 3 (some .int), Cond.constantLong RX6 166 (-1), Cond.methodLink RX6 188 yX6_only, Cond.static yX6_only, Cond.code yX6_only cX6_only 1 (some .long), Cond.methodLink RX6 158 yX3_put, Cond.instanceMethod yX3_put, Cond.selects RX3 yX3_put yX3_put, Cond.code yX3_put cX3_put 4 none, Cond.methodLink RX6 297 yX5_add, Cond.instanceMethod yX5_add, Cond.selects RX5 yX5_add yX5_add, Cond.code yX5_add cX5_add 2 none, Cond.methodLink RX5 27 yX2_put, Cond.instanceMethod yX2_put, Cond.selects RX2 yX2_put yX2_put, Cond.code yX2_put cX2_put 3 none, Cond.methodLink RX6 84 yX6_behind, Cond.static yX6_behind, Cond.code yX6_behind cX6_behind 1 (some .int), Cond.methodLink RX6 300 yX5_winner]
def wsX6_playLowest_r4 : List Cond := [Cond.instanceMethod yX5_winner, Cond.selects RX5 yX5_winner yX5_winner, Cond.code yX5_winner cX5_winner 3 (some .int), Cond.methodLink RX5 45 yX5_beats, Cond.static yX5_beats, Cond.code yX5_beats cX5_beats 3 (some .boolean), Cond.methodLink RX5 42 yX5_playerAt, Cond.instanceMethod yX5_playerAt, Cond.selects RX5 yX5_playerAt yX5_playerAt, Cond.code yX5_playerAt cX5_playerAt 2 (some .int), Cond.fieldLink RX5 20 "TarockHall$Trick" "leader" "I", Cond.methodLink RX6 303 yX6_endTrick, Cond.instanceMethod yX6_endTrick, Cond.selects RX6 yX6_endTrick yX6_endTrick, Cond.code yX6_endTrick cX6_endTrick 3 none, Cond.fieldLink RX6 46 "TarockHall" "piles" "LTarockHall$Sets;", Cond.fieldLink RX6 199 "TarockHall" "tricks" "I", Cond.methodLink RX6 285 yX6_sideOf, Cond.instanceMethod yX6_sideOf, Cond.selects RX6 yX6_sideOf yX6_sideOf, Cond.code yX6_sideOf cX6_sideOf 2 (some .int), Cond.fieldLink RX6 59 "TarockHall" "declarer" "I", Cond.fieldLink RX6 68 "TarockHall" "partner" "I", Cond.methodLink RX6 306 yX5_cardSet]
def wsX6_playLowest_r5 : List Cond := [Cond.instanceMethod yX5_cardSet, Cond.selects RX5 yX5_cardSet yX5_cardSet, Cond.code yX5_cardSet cX5_cardSet 4 (some .long), Cond.methodLink RX6 309 yX6_enterResult, Cond.instanceMethod yX6_enterResult, Cond.selects RX6 yX6_enterResult yX6_enterResult, Cond.code yX6_enterResult cX6_enterResult 5 none, Cond.fieldLink RX6 19 "TarockHall" "bidding" "LTarockHall$Bidding;", Cond.fieldLink RX6 33 "TarockHall" "sheet" "LTarockHall$Sheet;", Cond.methodLink RX6 262 yX6_thirdsOf, Cond.static yX6_thirdsOf, Cond.code yX6_thirdsOf cX6_thirdsOf 4 (some .int), Cond.methodLink RX6 254 yX6_worth, Cond.static yX6_worth, Cond.code yX6_worth cX6_worth 2 (some .int), Cond.methodLink RX6 344 yX6_suitOf, Cond.methodLink RX6 312 yX6_gamePoints, Cond.static yX6_gamePoints, Cond.code yX6_gamePoints cX6_gamePoints 3 (some .int), Cond.methodLink RX6 350 Lib.Math.abs.name, Cond.static Lib.Math.abs.name, Cond.initialized "java/lang/Math", Cond.code Lib.Math.abs.name Lib.Math.abs.code 1 (some .int), Cond.methodLink RX6 347 yX6_basePoints]
def wsX6_playLowest_r6 : List Cond := [Cond.static yX6_basePoints, Cond.code yX6_basePoints cX6_basePoints 1 (some .int), Cond.methodLink RX6 322 yX6_isWon, Cond.static yX6_isWon, Cond.code yX6_isWon cX6_isWon 1 (some .boolean), Cond.methodLink RX6 316 yX6_pagatPoints, Cond.instanceMethod yX6_pagatPoints, Cond.selects RX6 yX6_pagatPoints yX6_pagatPoints, Cond.code yX6_pagatPoints cX6_pagatPoints 5 (some .int), Cond.methodLink RX6 331 yX5_playerOf, Cond.instanceMethod yX5_playerOf, Cond.selects RX5 yX5_playerOf yX5_playerOf, Cond.code yX5_playerOf cX5_playerOf 3 (some .int), Cond.methodLink RX6 207 yX6_isAnnounced, Cond.instanceMethod yX6_isAnnounced, Cond.selects RX6 yX6_isAnnounced yX6_isAnnounced, Cond.code yX6_isAnnounced cX6_isAnnounced 2 (some .boolean), Cond.fieldLink RX6 214 "TarockHall" "announced" "I", Cond.methodLink RX6 319 yX6_kingPoints, Cond.instanceMethod yX6_kingPoints, Cond.selects RX6 yX6_kingPoints yX6_kingPoints, Cond.code yX6_kingPoints cX6_kingPoints 4 (some .int), Cond.fieldLink RX6 62 "TarockHall" "called" "I", Cond.methodLink RX6 133 yX6_calledKing]
def wsX6_playLowest_r7 : List Cond := [Cond.instanceMethod yX6_calledKing, Cond.selects RX6 yX6_calledKing yX6_calledKing, Cond.code yX6_calledKing cX6_calledKing 1 (some .int), Cond.methodLink RX6 325 yX4_enter, Cond.instanceMethod yX4_enter, Cond.selects RX4 yX4_enter yX4_enter, Cond.initialized RX4, Cond.code yX4_enter cX4_enter 6 none, Cond.fieldLink RX4 20 "TarockHall$Sheet" "radli" "LTarockHall$Row;", Cond.fieldLink RX4 27 "TarockHall$Sheet" "latest" "I", Cond.methodLink RX4 23 yX2_at, Cond.methodLink RX4 31 yX2_put, Cond.methodLink RX4 35 yX4_addScore, Cond.instanceMethod yX4_addScore, Cond.selects RX4 yX4_addScore yX4_addScore, Cond.code yX4_addScore cX4_addScore 2 none, Cond.fieldLink RX4 14 "TarockHall$Sheet" "scores" "LTarockHall$Row;", Cond.methodLink RX6 328 yX4_giveRadli, Cond.instanceMethod yX4_giveRadli, Cond.selects RX4 yX4_giveRadli yX4_giveRadli, Cond.code yX4_giveRadli cX4_giveRadli 2 none, Cond.methodLink RX6 114 yX6_endDeal, Cond.instanceMethod yX6_endDeal, Cond.selects RX6 yX6_endDeal yX6_endDeal]
def wsX6_playLowest_r8 : List Cond := [Cond.code yX6_endDeal cX6_endDeal 1 none, Cond.methodLink RX6 291 yX5_begin, Cond.instanceMethod yX5_begin, Cond.selects RX5 yX5_begin yX5_begin, Cond.code yX5_begin cX5_begin 2 none]
def wsX6_playLowest : List Cond := .code yX6_playLowest cX6_playLowest 4 (some .int) :: ((wsX6_playLowest_r1 ++ (wsX6_playLowest_r2 ++ (wsX6_playLowest_r3 ++ (wsX6_playLowest_r4 ++ (wsX6_playLowest_r5 ++ (wsX6_playLowest_r6 ++ (wsX6_playLowest_r7 ++ wsX6_playLowest_r8))))))) ++ wsX60 ++ wsX30 ++ wsX50 ++ wsX20 ++ wsX00 ++ wsX40 ++ (vx_atS RX6 76 "java/lang/IllegalArgumentException" ["java/lang/RuntimeException", "java/lang/Exception"]).filter goodWord ++ (vx_atS RX6 83 "java/lang/IllegalStateException" ["java/lang/RuntimeException", "java/lang/Exception"]).filter goodWord)
def wsX6_phase : List Cond := .code yX6_phase cX6_phase 1 (some .int) :: ([.fieldLink RX6 53 "TarockHall" "phase" "I"] ++ wsX60)
def wsX6_turn : List Cond := .code yX6_turn cX6_turn 1 (some .int) :: ([.fieldLink RX6 56 "TarockHall" "turn" "I"] ++ wsX60)
def wsX6_declarer : List Cond := .code yX6_declarer cX6_declarer 1 (some .int) :: ([.fieldLink RX6 59 "TarockHall" "declarer" "I"] ++ wsX60)
def wsX6_level : List Cond := .code yX6_level cX6_level 1 (some .int) :: ([.fieldLink RX6 19 "TarockHall" "bidding" "LTarockHall$Bidding;"] ++ wsX60 ++ wsX00)
def wsX6_called : List Cond := .code yX6_called cX6_called 1 (some .int) :: ([.fieldLink RX6 62 "TarockHall" "called" "I"] ++ wsX60)
def wsX6_partner : List Cond := .code yX6_partner cX6_partner 1 (some .int) :: ([.fieldLink RX6 68 "TarockHall" "partner" "I"] ++ wsX60)
def wsX6_isPlayer : List Cond := .code yX6_isPlayer cX6_isPlayer 1 (some .boolean) :: ([])
def wsX6_hand : List Cond := .code yX6_hand cX6_hand 2 (some .long) :: ([.classLink RX6 126 "java/lang/IndexOutOfBoundsException", .initialized "java/lang/IndexOutOfBoundsException", .fieldLink RX6 42 "TarockHall" "hands" "LTarockHall$Sets;", .methodLink RX6 239 yX6_isPlayer, .static yX6_isPlayer, .initialized RX6, .code yX6_isPlayer cX6_isPlayer 1 (some .boolean), .methodLink RX6 154 yX3_at, .instanceMethod yX3_at, .selects RX3 yX3_at yX3_at, .initialized RX3, .code yX3_at cX3_at 2 (some .long), .fieldLink RX3 13 "TarockHall$Sets" "items" "[J"] ++ wsX60 ++ wsX30 ++ (vx_atS RX6 130 "java/lang/IndexOutOfBoundsException" ["java/lang/RuntimeException", "java/lang/Exception"]).filter goodWord)
def wsX6_talonAt : List Cond := .code yX6_talonAt cX6_talonAt 2 (some .int) :: ([.classLink RX6 126 "java/lang/IndexOutOfBoundsException", .initialized "java/lang/IndexOutOfBoundsException", .classLink RX6 79 "java/lang/IllegalStateException", .initialized "java/lang/IllegalStateException", .fieldLink RX6 49 "TarockHall" "forehand" "I", .fieldLink RX6 12 "TarockHall" "deck" "LTarockHall$Deck;", .methodLink RX6 248 yX1_cardAt, .instanceMethod yX1_cardAt, .selects RX1 yX1_cardAt yX1_cardAt, .initialized RX1, .code yX1_cardAt cX1_cardAt 2 (some .int), .fieldLink RX1 14 "TarockHall$Deck" "row" "LTarockHall$Row;", .methodLink RX1 28 yX2_at, .instanceMethod yX2_at, .selects RX2 yX2_at yX2_at, .initialized RX2, .code yX2_at cX2_at 2 (some .int), .fieldLink RX2 15 "TarockHall$Row" "items" "[I"] ++ wsX60 ++ wsX10 ++ wsX20 ++ (vx_atS RX6 130 "java/lang/IndexOutOfBoundsException" ["java/lang/RuntimeException", "java/lang/Exception"]).filter goodWord ++ (vx_atS RX6 83 "java/lang/IllegalStateException" ["java/lang/RuntimeException", "java/lang/Exception"]).filter goodWord)
def wsX6_inTrick : List Cond := .code yX6_inTrick cX6_inTrick 1 (some .int) :: ([.fieldLink RX6 26 "TarockHall" "trick" "LTarockHall$Trick;"] ++ wsX60 ++ wsX50)
def wsX6_trickAt : List Cond := .code yX6_trickAt cX6_trickAt 2 (some .int) :: ([.classLink RX6 126 "java/lang/IndexOutOfBoundsException", .initialized "java/lang/IndexOutOfBoundsException", .fieldLink RX6 26 "TarockHall" "trick" "LTarockHall$Trick;", .methodLink RX6 253 yX5_cardAt, .instanceMethod yX5_cardAt, .selects RX5 yX5_cardAt yX5_cardAt, .initialized RX5, .code yX5_cardAt cX5_cardAt 2 (some .int), .fieldLink RX5 14 "TarockHall$Trick" "cards" "LTarockHall$Row;", .methodLink RX5 31 yX2_at, .instanceMethod yX2_at, .selects RX2 yX2_at yX2_at, .initialized RX2, .code yX2_at cX2_at 2 (some .int), .fieldLink RX2 15 "TarockHall$Row" "items" "[I"] ++ wsX60 ++ wsX50 ++ wsX20 ++ (vx_atS RX6 130 "java/lang/IndexOutOfBoundsException" ["java/lang/RuntimeException", "java/lang/Exception"]).filter goodWord)
def wsX6_canPlay_r1 : List Cond := [Cond.classLink RX6 126 "java/lang/IndexOutOfBoundsException", Cond.initialized "java/lang/IndexOutOfBoundsException", Cond.methodLink RX6 171 yX6_isCard, Cond.static yX6_isCard, Cond.initialized RX6, Cond.code yX6_isCard cX6_isCard 1 (some .boolean), Cond.methodLink RX6 222 yX6_playableNow, Cond.instanceMethod yX6_playableNow, Cond.selects RX6 yX6_playableNow yX6_playableNow, Cond.code yX6_playableNow cX6_playableNow 1 (some .long), Cond.fieldLink RX6 53 "TarockHall" "phase" "I", Cond.fieldLink RX6 42 "TarockHall" "hands" "LTarockHall$Sets;", Cond.fieldLink RX6 56 "TarockHall" "turn" "I", Cond.fieldLink RX6 26 "TarockHall" "trick" "LTarockHall$Trick;", Cond.methodLink RX6 154 yX3_at, Cond.instanceMethod yX3_at, Cond.selects RX3 yX3_at yX3_at, Cond.initialized RX3, Cond.code yX3_at cX3_at 2 (some .long), Cond.fieldLink RX3 13 "TarockHall$Sets" "items" "[J", Cond.methodLink RX6 337 yX5_ledSuit, Cond.instanceMethod yX5_ledSuit, Cond.selects RX5 yX5_ledSuit yX5_ledSuit, Cond.initialized RX5]
def wsX6_canPlay_r2 : List Cond := [Cond.code yX5_ledSuit cX5_ledSuit 1 (some .int), Cond.fieldLink RX5 24 "TarockHall$Trick" "size" "I", Cond.fieldLink RX5 14 "TarockHall$Trick" "cards" "LTarockHall$Row;", Cond.methodLink RX5 31 yX2_at, Cond.instanceMethod yX2_at, Cond.selects RX2 yX2_at yX2_at, Cond.initialized RX2, Cond.code yX2_at cX2_at 2 (some .int), Cond.fieldLink RX2 15 "TarockHall$Row" "items" "[I", Cond.static yX6_suitOf, Cond.code yX6_suitOf cX6_suitOf 1 (some .int), Cond.methodLink RX6 340 yX6_playableOf, Cond.static yX6_playableOf, Cond.code yX6_playableOf cX6_playableOf 7 (some .long), Cond.methodLink RX6 359 yX6_cardsOfSuit, Cond.static yX6_cardsOfSuit, Cond.code yX6_cardsOfSuit cX6_cardsOfSuit 5 (some .long), Cond.constantLong RX6 355 (-4294967296), Cond.constantLong RX6 357 (255), Cond.methodLink RX6 179 yX6_holds, Cond.static yX6_holds, Cond.code yX6_holds cX6_holds 3 (some .boolean)]
def wsX6_canPlay : List Cond := .code yX6_canPlay cX6_canPlay 2 (some .boolean) :: ((wsX6_canPlay_r1 ++ wsX6_canPlay_r2) ++ wsX60 ++ wsX30 ++ wsX50 ++ wsX20 ++ (vx_atS RX6 130 "java/lang/IndexOutOfBoundsException" ["java/lang/RuntimeException", "java/lang/Exception"]).filter goodWord)
def wsX6_tricks : List Cond := .code yX6_tricks cX6_tricks 1 (some .int) :: ([.fieldLink RX6 199 "TarockHall" "tricks" "I"] ++ wsX60)
def wsX6_valueOf : List Cond := .code yX6_valueOf cX6_valueOf 2 (some .int) :: ([.classLink RX6 126 "java/lang/IndexOutOfBoundsException", .initialized "java/lang/IndexOutOfBoundsException", .methodLink RX6 171 yX6_isCard, .static yX6_isCard, .initialized RX6, .code yX6_isCard cX6_isCard 1 (some .boolean), .methodLink RX6 254 yX6_worth, .static yX6_worth, .code yX6_worth cX6_worth 2 (some .int), .methodLink RX6 344 yX6_suitOf, .static yX6_suitOf, .code yX6_suitOf cX6_suitOf 1 (some .int)] ++ (vx_atS RX6 130 "java/lang/IndexOutOfBoundsException" ["java/lang/RuntimeException", "java/lang/Exception"]).filter goodWord)
def wsX6_isSide : List Cond := .code yX6_isSide cX6_isSide 1 (some .boolean) :: ([])
def wsX6_thirds_r1 : List Cond := [Cond.classLink RX6 126 "java/lang/IndexOutOfBoundsException", Cond.initialized "java/lang/IndexOutOfBoundsException", Cond.fieldLink RX6 46 "TarockHall" "piles" "LTarockHall$Sets;", Cond.methodLink RX6 257 yX6_isSide, Cond.static yX6_isSide, Cond.initialized RX6, Cond.code yX6_isSide cX6_isSide 1 (some .boolean), Cond.methodLink RX6 154 yX3_at, Cond.instanceMethod yX3_at, Cond.selects RX3 yX3_at yX3_at, Cond.initialized RX3, Cond.code yX3_at cX3_at 2 (some .long), Cond.fieldLink RX3 13 "TarockHall$Sets" "items" "[J", Cond.methodLink RX6 262 yX6_thirdsOf, Cond.static yX6_thirdsOf, Cond.code yX6_thirdsOf cX6_thirdsOf 4 (some .int), Cond.methodLink RX6 179 yX6_holds, Cond.static yX6_holds, Cond.code yX6_holds cX6_holds 3 (some .boolean), Cond.methodLink RX6 254 yX6_worth, Cond.static yX6_worth, Cond.code yX6_worth cX6_worth 2 (some .int), Cond.methodLink RX6 344 yX6_suitOf, Cond.static yX6_suitOf]
def wsX6_thirds_r2 : List Cond := [Cond.code yX6_suitOf cX6_suitOf 1 (some .int)]
def wsX6_thirds : List Cond := .code yX6_thirds cX6_thirds 2 (some .int) :: ((wsX6_thirds_r1 ++ wsX6_thirds_r2) ++ wsX60 ++ wsX30 ++ (vx_atS RX6 130 "java/lang/IndexOutOfBoundsException" ["java/lang/RuntimeException", "java/lang/Exception"]).filter goodWord)
def wsX6_packPointsOf : List Cond := .code yX6_packPointsOf cX6_packPointsOf 6 (some .int) :: ([.methodLink RX6 179 yX6_holds, .static yX6_holds, .initialized RX6, .code yX6_holds cX6_holds 3 (some .boolean), .methodLink RX6 254 yX6_worth, .static yX6_worth, .code yX6_worth cX6_worth 2 (some .int), .methodLink RX6 344 yX6_suitOf, .static yX6_suitOf, .code yX6_suitOf cX6_suitOf 1 (some .int)])
def wsX6_byPacks_r1 : List Cond := [Cond.classLink RX6 126 "java/lang/IndexOutOfBoundsException", Cond.initialized "java/lang/IndexOutOfBoundsException", Cond.fieldLink RX6 46 "TarockHall" "piles" "LTarockHall$Sets;", Cond.methodLink RX6 257 yX6_isSide, Cond.static yX6_isSide, Cond.initialized RX6, Cond.code yX6_isSide cX6_isSide 1 (some .boolean), Cond.methodLink RX6 154 yX3_at, Cond.instanceMethod yX3_at, Cond.selects RX3 yX3_at yX3_at, Cond.initialized RX3, Cond.code yX3_at cX3_at 2 (some .long), Cond.fieldLink RX3 13 "TarockHall$Sets" "items" "[J", Cond.methodLink RX6 265 yX6_packPointsOf, Cond.static yX6_packPointsOf, Cond.code yX6_packPointsOf cX6_packPointsOf 6 (some .int), Cond.methodLink RX6 179 yX6_holds, Cond.static yX6_holds, Cond.code yX6_holds cX6_holds 3 (some .boolean), Cond.methodLink RX6 254 yX6_worth, Cond.static yX6_worth, Cond.code yX6_worth cX6_worth 2 (some .int), Cond.methodLink RX6 344 yX6_suitOf, Cond.static yX6_suitOf]
def wsX6_byPacks_r2 : List Cond := [Cond.code yX6_suitOf cX6_suitOf 1 (some .int)]
def wsX6_byPacks : List Cond := .code yX6_byPacks cX6_byPacks 2 (some .int) :: ((wsX6_byPacks_r1 ++ wsX6_byPacks_r2) ++ wsX60 ++ wsX30 ++ (vx_atS RX6 130 "java/lang/IndexOutOfBoundsException" ["java/lang/RuntimeException", "java/lang/Exception"]).filter goodWord)
def wsX6_score : List Cond := .code yX6_score cX6_score 2 (some .int) :: ([.classLink RX6 126 "java/lang/IndexOutOfBoundsException", .initialized "java/lang/IndexOutOfBoundsException", .fieldLink RX6 33 "TarockHall" "sheet" "LTarockHall$Sheet;", .methodLink RX6 239 yX6_isPlayer, .static yX6_isPlayer, .initialized RX6, .code yX6_isPlayer cX6_isPlayer 1 (some .boolean), .methodLink RX6 272 yX2_at, .instanceMethod yX2_at, .selects RX2 yX2_at yX2_at, .initialized RX2, .code yX2_at cX2_at 2 (some .int), .fieldLink RX2 15 "TarockHall$Row" "items" "[I"] ++ wsX60 ++ wsX40 ++ wsX20 ++ (vx_atS RX6 130 "java/lang/IndexOutOfBoundsException" ["java/lang/RuntimeException", "java/lang/Exception"]).filter goodWord)
def wsX6_radli : List Cond := .code yX6_radli cX6_radli 2 (some .int) :: ([.classLink RX6 126 "java/lang/IndexOutOfBoundsException", .initialized "java/lang/IndexOutOfBoundsException", .fieldLink RX6 33 "TarockHall" "sheet" "LTarockHall$Sheet;", .methodLink RX6 239 yX6_isPlayer, .static yX6_isPlayer, .initialized RX6, .code yX6_isPlayer cX6_isPlayer 1 (some .boolean), .methodLink RX6 272 yX2_at, .instanceMethod yX2_at, .selects RX2 yX2_at yX2_at, .initialized RX2, .code yX2_at cX2_at 2 (some .int), .fieldLink RX2 15 "TarockHall$Row" "items" "[I"] ++ wsX60 ++ wsX40 ++ wsX20 ++ (vx_atS RX6 130 "java/lang/IndexOutOfBoundsException" ["java/lang/RuntimeException", "java/lang/Exception"]).filter goodWord)
def wsX6_result : List Cond := .code yX6_result cX6_result 1 (some .int) :: ([.fieldLink RX6 33 "TarockHall" "sheet" "LTarockHall$Sheet;"] ++ wsX60 ++ wsX40)
def wsX6_sidesAreOpen : List Cond := .code yX6_sidesAreOpen cX6_sidesAreOpen 1 (some .boolean) :: ([.fieldLink RX6 62 "TarockHall" "called" "I", .fieldLink RX6 65 "TarockHall" "kingOwner" "I", .fieldLink RX6 42 "TarockHall" "hands" "LTarockHall$Sets;", .methodLink RX6 154 yX3_at, .instanceMethod yX3_at, .selects RX3 yX3_at yX3_at, .initialized RX3, .code yX3_at cX3_at 2 (some .long), .fieldLink RX3 13 "TarockHall$Sets" "items" "[J", .methodLink RX6 133 yX6_calledKing, .instanceMethod yX6_calledKing, .selects RX6 yX6_calledKing yX6_calledKing, .initialized RX6, .code yX6_calledKing cX6_calledKing 1 (some .int), .methodLink RX6 179 yX6_holds, .static yX6_holds, .code yX6_holds cX6_holds 3 (some .boolean)] ++ wsX60 ++ wsX30)
def wsX6_knows_r1 : List Cond := [Cond.classLink RX6 126 "java/lang/IndexOutOfBoundsException", Cond.initialized "java/lang/IndexOutOfBoundsException", Cond.fieldLink RX6 59 "TarockHall" "declarer" "I", Cond.fieldLink RX6 53 "TarockHall" "phase" "I", Cond.fieldLink RX6 65 "TarockHall" "kingOwner" "I", Cond.methodLink RX6 239 yX6_isPlayer, Cond.static yX6_isPlayer, Cond.initialized RX6, Cond.code yX6_isPlayer cX6_isPlayer 1 (some .boolean), Cond.methodLink RX6 282 yX6_sidesAreOpen, Cond.instanceMethod yX6_sidesAreOpen, Cond.selects RX6 yX6_sidesAreOpen yX6_sidesAreOpen, Cond.code yX6_sidesAreOpen cX6_sidesAreOpen 1 (some .boolean), Cond.fieldLink RX6 62 "TarockHall" "called" "I", Cond.fieldLink RX6 42 "TarockHall" "hands" "LTarockHall$Sets;", Cond.methodLink RX6 154 yX3_at, Cond.instanceMethod yX3_at, Cond.selects RX3 yX3_at yX3_at, Cond.initialized RX3, Cond.code yX3_at cX3_at 2 (some .long), Cond.fieldLink RX3 13 "TarockHall$Sets" "items" "[J", Cond.methodLink RX6 133 yX6_calledKing, Cond.instanceMethod yX6_calledKing, Cond.selects RX6 yX6_calledKing yX6_calledKing]
def wsX6_knows_r2 : List Cond := [Cond.code yX6_calledKing cX6_calledKing 1 (some .int), Cond.methodLink RX6 179 yX6_holds, Cond.static yX6_holds, Cond.code yX6_holds cX6_holds 3 (some .boolean), Cond.methodLink RX6 285 yX6_sideOf, Cond.instanceMethod yX6_sideOf, Cond.selects RX6 yX6_sideOf yX6_sideOf, Cond.code yX6_sideOf cX6_sideOf 2 (some .int), Cond.fieldLink RX6 68 "TarockHall" "partner" "I"]
def wsX6_knows : List Cond := .code yX6_knows cX6_knows 4 (some .int) :: ((wsX6_knows_r1 ++ wsX6_knows_r2) ++ wsX60 ++ wsX30 ++ (vx_atS RX6 130 "java/lang/IndexOutOfBoundsException" ["java/lang/RuntimeException", "java/lang/Exception"]).filter goodWord)
def wsJ9_abs_0f7a4 : List Cond := .code yJ9_abs_0f7a4 cJ9_abs_0f7a4 1 (some .int) :: ([])
def wsJ9_max_7cf53 : List Cond := .code yJ9_max_7cf53 cJ9_max_7cf53 2 (some .int) :: ([])
def wsL_bids_r1 : List Cond := [Cond.classLink RL 13 "java/lang/IllegalStateException", Cond.methodLink RL 7 yX6_bid, Cond.instanceMethod yX6_bid, Cond.selects RX6 yX6_bid yX6_bid, Cond.initialized RX6, Cond.code yX6_bid cX6_bid 2 (some .int), Cond.classLink RX6 72 "java/lang/IllegalArgumentException", Cond.initialized "java/lang/IllegalArgumentException", Cond.classLink RX6 79 "java/lang/IllegalStateException", Cond.initialized "java/lang/IllegalStateException", Cond.fieldLink RX6 53 "TarockHall" "phase" "I", Cond.fieldLink RX6 19 "TarockHall" "bidding" "LTarockHall$Bidding;", Cond.fieldLink RX6 56 "TarockHall" "turn" "I", Cond.methodLink RX6 106 yX0_enter, Cond.instanceMethod yX0_enter, Cond.selects RX0 yX0_enter yX0_enter, Cond.initialized RX0, Cond.code yX0_enter cX0_enter 3 none, Cond.fieldLink RX0 15 "TarockHall$Bidding" "passed" "I", Cond.fieldLink RX0 18 "TarockHall$Bidding" "highest" "I", Cond.fieldLink RX0 9 "TarockHall$Bidding" "bidder" "I", Cond.methodLink RX6 110 yX0_allPassed, Cond.instanceMethod yX0_allPassed, Cond.selects RX0 yX0_allPassed yX0_allPassed]
def wsL_bids_r2 : List Cond := [Cond.code yX0_allPassed cX0_allPassed 1 (some .boolean), Cond.methodLink RX0 21 yJ6_bitCount_0f7a4, Cond.static yJ6_bitCount_0f7a4, Cond.initialized RJ6, Cond.code yJ6_bitCount_0f7a4 cJ6_bitCount_0f7a4 1 (some .int), Cond.constant RJ6 265 (1431655765), Cond.constant RJ6 266 (858993459), Cond.constant RJ6 267 (252645135), Cond.methodLink RX6 114 yX6_endDeal, Cond.instanceMethod yX6_endDeal, Cond.selects RX6 yX6_endDeal yX6_endDeal, Cond.code yX6_endDeal cX6_endDeal 1 none, Cond.methodLink RX6 117 yX0_isSettled, Cond.instanceMethod yX0_isSettled, Cond.selects RX0 yX0_isSettled yX0_isSettled, Cond.code yX0_isSettled cX0_isSettled 1 (some .boolean), Cond.methodLink RX6 120 yX6_beginGame, Cond.instanceMethod yX6_beginGame, Cond.selects RX6 yX6_beginGame yX6_beginGame, Cond.code yX6_beginGame cX6_beginGame 1 none, Cond.fieldLink RX6 59 "TarockHall" "declarer" "I", Cond.methodLink RX6 194 yX6_beginPlay, Cond.instanceMethod yX6_beginPlay, Cond.selects RX6 yX6_beginPlay yX6_beginPlay]
def wsL_bids_r3 : List Cond := [Cond.code yX6_beginPlay cX6_beginPlay 1 none, Cond.fieldLink RX6 46 "TarockHall" "piles" "LTarockHall$Sets;", Cond.fieldLink RX6 191 "TarockHall" "laidAway" "J", Cond.fieldLink RX6 162 "TarockHall" "restOfTalon" "J", Cond.fieldLink RX6 49 "TarockHall" "forehand" "I", Cond.methodLink RX6 158 yX3_put, Cond.instanceMethod yX3_put, Cond.selects RX3 yX3_put yX3_put, Cond.initialized RX3, Cond.code yX3_put cX3_put 4 none, Cond.fieldLink RX3 13 "TarockHall$Sets" "items" "[J", Cond.methodLink RX6 123 yX0_nextBehind, Cond.instanceMethod yX0_nextBehind, Cond.selects RX0 yX0_nextBehind yX0_nextBehind, Cond.code yX0_nextBehind cX0_nextBehind 4 (some .int), Cond.static yX6_behind, Cond.code yX6_behind cX6_behind 1 (some .int), Cond.methodLink RX0 30 yX0_hasPassed, Cond.instanceMethod yX0_hasPassed, Cond.selects RX0 yX0_hasPassed yX0_hasPassed, Cond.code yX0_hasPassed cX0_hasPassed 2 (some .boolean)]
def wsL_bids : List Cond := .codeWith yL_bids cL_bids 3 (some .int) [(0, 5, 6, 13)] :: ((wsL_bids_r1 ++ (wsL_bids_r2 ++ wsL_bids_r3)) ++ wsX60 ++ wsX00 ++ wsX30 ++ (vx_atS RX6 76 "java/lang/IllegalArgumentException" ["java/lang/RuntimeException", "java/lang/Exception"]).filter goodWord ++ (vx_atS RX6 83 "java/lang/IllegalStateException" ["java/lang/RuntimeException", "java/lang/Exception"]).filter goodWord)
def wsL_lays_r1 : List Cond := [Cond.classLink RL 13 "java/lang/IllegalStateException", Cond.methodLink RL 15 yX6_discard, Cond.instanceMethod yX6_discard, Cond.selects RX6 yX6_discard yX6_discard, Cond.initialized RX6, Cond.code yX6_discard cX6_discard 4 (some .int), Cond.classLink RX6 126 "java/lang/IndexOutOfBoundsException", Cond.initialized "java/lang/IndexOutOfBoundsException", Cond.classLink RX6 79 "java/lang/IllegalStateException", Cond.initialized "java/lang/IllegalStateException", Cond.fieldLink RX6 53 "TarockHall" "phase" "I", Cond.fieldLink RX6 42 "TarockHall" "hands" "LTarockHall$Sets;", Cond.fieldLink RX6 59 "TarockHall" "declarer" "I", Cond.constantLong RX6 166 (-1), Cond.fieldLink RX6 191 "TarockHall" "laidAway" "J", Cond.fieldLink RX6 168 "TarockHall" "toLayAway" "I", Cond.methodLink RX6 171 yX6_isCard, Cond.static yX6_isCard, Cond.code yX6_isCard cX6_isCard 1 (some .boolean), Cond.methodLink RX6 154 yX3_at, Cond.instanceMethod yX3_at, Cond.selects RX3 yX3_at yX3_at, Cond.initialized RX3, Cond.code yX3_at cX3_at 2 (some .long)]
def wsL_lays_r2 : List Cond := [Cond.fieldLink RX3 13 "TarockHall$Sets" "items" "[J", Cond.methodLink RX6 179 yX6_holds, Cond.static yX6_holds, Cond.code yX6_holds cX6_holds 3 (some .boolean), Cond.methodLink RX6 183 yX6_canBeLaidAway, Cond.static yX6_canBeLaidAway, Cond.code yX6_canBeLaidAway cX6_canBeLaidAway 1 (some .boolean), Cond.methodLink RX6 254 yX6_worth, Cond.static yX6_worth, Cond.code yX6_worth cX6_worth 2 (some .int), Cond.methodLink RX6 344 yX6_suitOf, Cond.static yX6_suitOf, Cond.code yX6_suitOf cX6_suitOf 1 (some .int), Cond.methodLink RX6 188 yX6_only, Cond.static yX6_only, Cond.code yX6_only cX6_only 1 (some .long), Cond.methodLink RX6 158 yX3_put, Cond.instanceMethod yX3_put, Cond.selects RX3 yX3_put yX3_put, Cond.code yX3_put cX3_put 4 none, Cond.methodLink RX6 194 yX6_beginPlay, Cond.instanceMethod yX6_beginPlay, Cond.selects RX6 yX6_beginPlay yX6_beginPlay, Cond.code yX6_beginPlay cX6_beginPlay 1 none]
def wsL_lays_r3 : List Cond := [Cond.fieldLink RX6 46 "TarockHall" "piles" "LTarockHall$Sets;", Cond.fieldLink RX6 162 "TarockHall" "restOfTalon" "J", Cond.fieldLink RX6 49 "TarockHall" "forehand" "I", Cond.fieldLink RX6 56 "TarockHall" "turn" "I"]
def wsL_lays : List Cond := .codeWith yL_lays cL_lays 3 (some .int) [(0, 5, 6, 13)] :: ((wsL_lays_r1 ++ (wsL_lays_r2 ++ wsL_lays_r3)) ++ wsX60 ++ wsX30 ++ (vx_atS RX6 130 "java/lang/IndexOutOfBoundsException" ["java/lang/RuntimeException", "java/lang/Exception"]).filter goodWord ++ (vx_atS RX6 83 "java/lang/IllegalStateException" ["java/lang/RuntimeException", "java/lang/Exception"]).filter goodWord)
def wsL_announces_r1 : List Cond := [Cond.classLink RL 13 "java/lang/IllegalStateException", Cond.methodLink RL 18 yX6_announce, Cond.instanceMethod yX6_announce, Cond.selects RX6 yX6_announce yX6_announce, Cond.initialized RX6, Cond.code yX6_announce cX6_announce 2 (some .int), Cond.classLink RX6 126 "java/lang/IndexOutOfBoundsException", Cond.initialized "java/lang/IndexOutOfBoundsException", Cond.classLink RX6 79 "java/lang/IllegalStateException", Cond.initialized "java/lang/IllegalStateException", Cond.fieldLink RX6 53 "TarockHall" "phase" "I", Cond.fieldLink RX6 199 "TarockHall" "tricks" "I", Cond.fieldLink RX6 26 "TarockHall" "trick" "LTarockHall$Trick;", Cond.fieldLink RX6 19 "TarockHall" "bidding" "LTarockHall$Bidding;", Cond.fieldLink RX6 214 "TarockHall" "announced" "I", Cond.methodLink RX6 207 yX6_isAnnounced, Cond.instanceMethod yX6_isAnnounced, Cond.selects RX6 yX6_isAnnounced yX6_isAnnounced, Cond.code yX6_isAnnounced cX6_isAnnounced 2 (some .boolean), Cond.methodLink RX6 217 yJ6_bitCount_0f7a4, Cond.static yJ6_bitCount_0f7a4, Cond.initialized RJ6, Cond.code yJ6_bitCount_0f7a4 cJ6_bitCount_0f7a4 1 (some .int), Cond.constant RJ6 265 (1431655765)]
def wsL_announces_r2 : List Cond := [Cond.constant RJ6 266 (858993459), Cond.constant RJ6 267 (252645135)]
def wsL_announces : List Cond := .codeWith yL_announces cL_announces 3 (some .int) [(0, 5, 6, 13)] :: ((wsL_announces_r1 ++ wsL_announces_r2) ++ wsX60 ++ wsX50 ++ wsX00 ++ (vx_atS RX6 130 "java/lang/IndexOutOfBoundsException" ["java/lang/RuntimeException", "java/lang/Exception"]).filter goodWord ++ (vx_atS RX6 83 "java/lang/IllegalStateException" ["java/lang/RuntimeException", "java/lang/Exception"]).filter goodWord)
def wsL_plays_r1 : List Cond := [Cond.classLink RL 13 "java/lang/IllegalStateException", Cond.methodLink RL 21 yX6_play, Cond.instanceMethod yX6_play, Cond.selects RX6 yX6_play yX6_play, Cond.initialized RX6, Cond.code yX6_play cX6_play 2 (some .int), Cond.classLink RX6 126 "java/lang/IndexOutOfBoundsException", Cond.initialized "java/lang/IndexOutOfBoundsException", Cond.classLink RX6 79 "java/lang/IllegalStateException", Cond.initialized "java/lang/IllegalStateException", Cond.methodLink RX6 171 yX6_isCard, Cond.static yX6_isCard, Cond.code yX6_isCard cX6_isCard 1 (some .boolean), Cond.methodLink RX6 222 yX6_playableNow, Cond.instanceMethod yX6_playableNow, Cond.selects RX6 yX6_playableNow yX6_playableNow, Cond.code yX6_playableNow cX6_playableNow 1 (some .long), Cond.fieldLink RX6 53 "TarockHall" "phase" "I", Cond.fieldLink RX6 42 "TarockHall" "hands" "LTarockHall$Sets;", Cond.fieldLink RX6 56 "TarockHall" "turn" "I", Cond.fieldLink RX6 26 "TarockHall" "trick" "LTarockHall$Trick;", Cond.methodLink RX6 154 yX3_at, Cond.instanceMethod yX3_at, Cond.selects RX3 yX3_at yX3_at]
def wsL_plays_r2 : List Cond := [Cond.initialized RX3, Cond.code yX3_at cX3_at 2 (some .long), Cond.fieldLink RX3 13 "TarockHall$Sets" "items" "[J", Cond.methodLink RX6 337 yX5_ledSuit, Cond.instanceMethod yX5_ledSuit, Cond.selects RX5 yX5_ledSuit yX5_ledSuit, Cond.initialized RX5, Cond.code yX5_ledSuit cX5_ledSuit 1 (some .int), Cond.fieldLink RX5 24 "TarockHall$Trick" "size" "I", Cond.fieldLink RX5 14 "TarockHall$Trick" "cards" "LTarockHall$Row;", Cond.methodLink RX5 31 yX2_at, Cond.instanceMethod yX2_at, Cond.selects RX2 yX2_at yX2_at, Cond.initialized RX2, Cond.code yX2_at cX2_at 2 (some .int), Cond.fieldLink RX2 15 "TarockHall$Row" "items" "[I", Cond.static yX6_suitOf, Cond.code yX6_suitOf cX6_suitOf 1 (some .int), Cond.methodLink RX6 340 yX6_playableOf, Cond.static yX6_playableOf, Cond.code yX6_playableOf cX6_playableOf 7 (some .long), Cond.methodLink RX6 359 yX6_cardsOfSuit, Cond.static yX6_cardsOfSuit, Cond.code yX6_cardsOfSuit cX6_cardsOfSuit 5 (some .long)]
def wsL_plays_r3 : List Cond := [Cond.constantLong RX6 355 (-4294967296), Cond.constantLong RX6 357 (255), Cond.methodLink RX6 179 yX6_holds, Cond.static yX6_holds, Cond.code yX6_holds cX6_holds 3 (some .boolean), Cond.methodLink RX6 228 yX6_addToTrick, Cond.instanceMethod yX6_addToTrick, Cond.selects RX6 yX6_addToTrick yX6_addToTrick, Cond.code yX6_addToTrick cX6_addToTrick 3 (some .int), Cond.constantLong RX6 166 (-1), Cond.methodLink RX6 188 yX6_only, Cond.static yX6_only, Cond.code yX6_only cX6_only 1 (some .long), Cond.methodLink RX6 158 yX3_put, Cond.instanceMethod yX3_put, Cond.selects RX3 yX3_put yX3_put, Cond.code yX3_put cX3_put 4 none, Cond.methodLink RX6 297 yX5_add, Cond.instanceMethod yX5_add, Cond.selects RX5 yX5_add yX5_add, Cond.code yX5_add cX5_add 2 none, Cond.methodLink RX5 27 yX2_put, Cond.instanceMethod yX2_put, Cond.selects RX2 yX2_put yX2_put]
def wsL_plays_r4 : List Cond := [Cond.code yX2_put cX2_put 3 none, Cond.methodLink RX6 84 yX6_behind, Cond.static yX6_behind, Cond.code yX6_behind cX6_behind 1 (some .int), Cond.methodLink RX6 300 yX5_winner, Cond.instanceMethod yX5_winner, Cond.selects RX5 yX5_winner yX5_winner, Cond.code yX5_winner cX5_winner 3 (some .int), Cond.methodLink RX5 45 yX5_beats, Cond.static yX5_beats, Cond.code yX5_beats cX5_beats 3 (some .boolean), Cond.methodLink RX5 42 yX5_playerAt, Cond.instanceMethod yX5_playerAt, Cond.selects RX5 yX5_playerAt yX5_playerAt, Cond.code yX5_playerAt cX5_playerAt 2 (some .int), Cond.fieldLink RX5 20 "TarockHall$Trick" "leader" "I", Cond.methodLink RX6 303 yX6_endTrick, Cond.instanceMethod yX6_endTrick, Cond.selects RX6 yX6_endTrick yX6_endTrick, Cond.code yX6_endTrick cX6_endTrick 3 none, Cond.fieldLink RX6 46 "TarockHall" "piles" "LTarockHall$Sets;", Cond.fieldLink RX6 199 "TarockHall" "tricks" "I", Cond.methodLink RX6 285 yX6_sideOf, Cond.instanceMethod yX6_sideOf]
def wsL_plays_r5 : List Cond := [Cond.selects RX6 yX6_sideOf yX6_sideOf, Cond.code yX6_sideOf cX6_sideOf 2 (some .int), Cond.fieldLink RX6 59 "TarockHall" "declarer" "I", Cond.fieldLink RX6 68 "TarockHall" "partner" "I", Cond.methodLink RX6 306 yX5_cardSet, Cond.instanceMethod yX5_cardSet, Cond.selects RX5 yX5_cardSet yX5_cardSet, Cond.code yX5_cardSet cX5_cardSet 4 (some .long), Cond.methodLink RX6 309 yX6_enterResult, Cond.instanceMethod yX6_enterResult, Cond.selects RX6 yX6_enterResult yX6_enterResult, Cond.code yX6_enterResult cX6_enterResult 5 none, Cond.fieldLink RX6 19 "TarockHall" "bidding" "LTarockHall$Bidding;", Cond.fieldLink RX6 33 "TarockHall" "sheet" "LTarockHall$Sheet;", Cond.methodLink RX6 262 yX6_thirdsOf, Cond.static yX6_thirdsOf, Cond.code yX6_thirdsOf cX6_thirdsOf 4 (some .int), Cond.methodLink RX6 254 yX6_worth, Cond.static yX6_worth, Cond.code yX6_worth cX6_worth 2 (some .int), Cond.methodLink RX6 344 yX6_suitOf, Cond.methodLink RX6 312 yX6_gamePoints, Cond.static yX6_gamePoints, Cond.code yX6_gamePoints cX6_gamePoints 3 (some .int)]
def wsL_plays_r6 : List Cond := [Cond.methodLink RX6 350 Lib.Math.abs.name, Cond.static Lib.Math.abs.name, Cond.initialized "java/lang/Math", Cond.code Lib.Math.abs.name Lib.Math.abs.code 1 (some .int), Cond.methodLink RX6 347 yX6_basePoints, Cond.static yX6_basePoints, Cond.code yX6_basePoints cX6_basePoints 1 (some .int), Cond.methodLink RX6 322 yX6_isWon, Cond.static yX6_isWon, Cond.code yX6_isWon cX6_isWon 1 (some .boolean), Cond.methodLink RX6 316 yX6_pagatPoints, Cond.instanceMethod yX6_pagatPoints, Cond.selects RX6 yX6_pagatPoints yX6_pagatPoints, Cond.code yX6_pagatPoints cX6_pagatPoints 5 (some .int), Cond.methodLink RX6 331 yX5_playerOf, Cond.instanceMethod yX5_playerOf, Cond.selects RX5 yX5_playerOf yX5_playerOf, Cond.code yX5_playerOf cX5_playerOf 3 (some .int), Cond.methodLink RX6 207 yX6_isAnnounced, Cond.instanceMethod yX6_isAnnounced, Cond.selects RX6 yX6_isAnnounced yX6_isAnnounced, Cond.code yX6_isAnnounced cX6_isAnnounced 2 (some .boolean), Cond.fieldLink RX6 214 "TarockHall" "announced" "I", Cond.methodLink RX6 319 yX6_kingPoints]
def wsL_plays_r7 : List Cond := [Cond.instanceMethod yX6_kingPoints, Cond.selects RX6 yX6_kingPoints yX6_kingPoints, Cond.code yX6_kingPoints cX6_kingPoints 4 (some .int), Cond.fieldLink RX6 62 "TarockHall" "called" "I", Cond.methodLink RX6 133 yX6_calledKing, Cond.instanceMethod yX6_calledKing, Cond.selects RX6 yX6_calledKing yX6_calledKing, Cond.code yX6_calledKing cX6_calledKing 1 (some .int), Cond.methodLink RX6 325 yX4_enter, Cond.instanceMethod yX4_enter, Cond.selects RX4 yX4_enter yX4_enter, Cond.initialized RX4, Cond.code yX4_enter cX4_enter 6 none, Cond.fieldLink RX4 20 "TarockHall$Sheet" "radli" "LTarockHall$Row;", Cond.fieldLink RX4 27 "TarockHall$Sheet" "latest" "I", Cond.methodLink RX4 23 yX2_at, Cond.methodLink RX4 31 yX2_put, Cond.methodLink RX4 35 yX4_addScore, Cond.instanceMethod yX4_addScore, Cond.selects RX4 yX4_addScore yX4_addScore, Cond.code yX4_addScore cX4_addScore 2 none, Cond.fieldLink RX4 14 "TarockHall$Sheet" "scores" "LTarockHall$Row;", Cond.methodLink RX6 328 yX4_giveRadli, Cond.instanceMethod yX4_giveRadli]
def wsL_plays_r8 : List Cond := [Cond.selects RX4 yX4_giveRadli yX4_giveRadli, Cond.code yX4_giveRadli cX4_giveRadli 2 none, Cond.methodLink RX6 114 yX6_endDeal, Cond.instanceMethod yX6_endDeal, Cond.selects RX6 yX6_endDeal yX6_endDeal, Cond.code yX6_endDeal cX6_endDeal 1 none, Cond.methodLink RX6 291 yX5_begin, Cond.instanceMethod yX5_begin, Cond.selects RX5 yX5_begin yX5_begin, Cond.code yX5_begin cX5_begin 2 none]
def wsL_plays : List Cond := .codeWith yL_plays cL_plays 3 (some .int) [(0, 5, 6, 13)] :: ((wsL_plays_r1 ++ (wsL_plays_r2 ++ (wsL_plays_r3 ++ (wsL_plays_r4 ++ (wsL_plays_r5 ++ (wsL_plays_r6 ++ (wsL_plays_r7 ++ wsL_plays_r8))))))) ++ wsX60 ++ wsX30 ++ wsX50 ++ wsX20 ++ wsX00 ++ wsX40 ++ (vx_atS RX6 130 "java/lang/IndexOutOfBoundsException" ["java/lang/RuntimeException", "java/lang/Exception"]).filter goodWord ++ (vx_atS RX6 83 "java/lang/IllegalStateException" ["java/lang/RuntimeException", "java/lang/Exception"]).filter goodWord)
def wsL_bits : List Cond := .code yL_bits cL_bits 4 (some .int) :: ([])
def wsL_has : List Cond := .code yL_has cL_has 3 (some .boolean) :: ([])
def wsL_suit : List Cond := .code yL_suit cL_suit 1 (some .int) :: ([])
def wsL_areHands_r1 : List Cond := [Cond.methodLink RL 24 yX6_hand, Cond.instanceMethod yX6_hand, Cond.selects RX6 yX6_hand yX6_hand, Cond.initialized RX6, Cond.code yX6_hand cX6_hand 2 (some .long), Cond.classLink RX6 126 "java/lang/IndexOutOfBoundsException", Cond.initialized "java/lang/IndexOutOfBoundsException", Cond.fieldLink RX6 42 "TarockHall" "hands" "LTarockHall$Sets;", Cond.methodLink RX6 239 yX6_isPlayer, Cond.static yX6_isPlayer, Cond.code yX6_isPlayer cX6_isPlayer 1 (some .boolean), Cond.methodLink RX6 154 yX3_at, Cond.instanceMethod yX3_at, Cond.selects RX3 yX3_at yX3_at, Cond.initialized RX3, Cond.code yX3_at cX3_at 2 (some .long), Cond.fieldLink RX3 13 "TarockHall$Sets" "items" "[J", Cond.methodLink RL 28 yL_bits, Cond.static yL_bits, Cond.initialized RL, Cond.code yL_bits cL_bits 4 (some .int), Cond.methodLink RL 34 yX6_phase, Cond.instanceMethod yX6_phase, Cond.selects RX6 yX6_phase yX6_phase]
def wsL_areHands_r2 : List Cond := [Cond.code yX6_phase cX6_phase 1 (some .int), Cond.fieldLink RX6 53 "TarockHall" "phase" "I", Cond.methodLink RL 38 yX6_canPlay, Cond.instanceMethod yX6_canPlay, Cond.selects RX6 yX6_canPlay yX6_canPlay, Cond.code yX6_canPlay cX6_canPlay 2 (some .boolean), Cond.methodLink RX6 171 yX6_isCard, Cond.static yX6_isCard, Cond.code yX6_isCard cX6_isCard 1 (some .boolean), Cond.methodLink RX6 222 yX6_playableNow, Cond.instanceMethod yX6_playableNow, Cond.selects RX6 yX6_playableNow yX6_playableNow, Cond.code yX6_playableNow cX6_playableNow 1 (some .long), Cond.fieldLink RX6 56 "TarockHall" "turn" "I", Cond.fieldLink RX6 26 "TarockHall" "trick" "LTarockHall$Trick;", Cond.methodLink RX6 337 yX5_ledSuit, Cond.instanceMethod yX5_ledSuit, Cond.selects RX5 yX5_ledSuit yX5_ledSuit, Cond.initialized RX5, Cond.code yX5_ledSuit cX5_ledSuit 1 (some .int), Cond.fieldLink RX5 24 "TarockHall$Trick" "size" "I", Cond.fieldLink RX5 14 "TarockHall$Trick" "cards" "LTarockHall$Row;", Cond.methodLink RX5 31 yX2_at, Cond.instanceMethod yX2_at]
def wsL_areHands_r3 : List Cond := [Cond.selects RX2 yX2_at yX2_at, Cond.initialized RX2, Cond.code yX2_at cX2_at 2 (some .int), Cond.fieldLink RX2 15 "TarockHall$Row" "items" "[I", Cond.static yX6_suitOf, Cond.code yX6_suitOf cX6_suitOf 1 (some .int), Cond.methodLink RX6 340 yX6_playableOf, Cond.static yX6_playableOf, Cond.code yX6_playableOf cX6_playableOf 7 (some .long), Cond.methodLink RX6 359 yX6_cardsOfSuit, Cond.static yX6_cardsOfSuit, Cond.code yX6_cardsOfSuit cX6_cardsOfSuit 5 (some .long), Cond.constantLong RX6 355 (-4294967296), Cond.constantLong RX6 357 (255), Cond.methodLink RX6 179 yX6_holds, Cond.static yX6_holds, Cond.code yX6_holds cX6_holds 3 (some .boolean), Cond.methodLink RL 42 yX6_inTrick, Cond.instanceMethod yX6_inTrick, Cond.selects RX6 yX6_inTrick yX6_inTrick, Cond.code yX6_inTrick cX6_inTrick 1 (some .int), Cond.methodLink RL 45 yX6_turn, Cond.instanceMethod yX6_turn, Cond.selects RX6 yX6_turn yX6_turn]
def wsL_areHands_r4 : List Cond := [Cond.code yX6_turn cX6_turn 1 (some .int), Cond.methodLink RL 48 yX6_trickAt, Cond.instanceMethod yX6_trickAt, Cond.selects RX6 yX6_trickAt yX6_trickAt, Cond.code yX6_trickAt cX6_trickAt 2 (some .int), Cond.methodLink RX6 253 yX5_cardAt, Cond.instanceMethod yX5_cardAt, Cond.selects RX5 yX5_cardAt yX5_cardAt, Cond.code yX5_cardAt cX5_cardAt 2 (some .int), Cond.methodLink RL 51 yL_suit, Cond.static yL_suit, Cond.code yL_suit cL_suit 1 (some .int), Cond.methodLink RL 54 yL_has, Cond.static yL_has, Cond.code yL_has cL_has 3 (some .boolean), Cond.methodLink RL 58 yX6_tricks, Cond.instanceMethod yX6_tricks, Cond.selects RX6 yX6_tricks yX6_tricks, Cond.code yX6_tricks cX6_tricks 1 (some .int), Cond.fieldLink RX6 199 "TarockHall" "tricks" "I"]
def wsL_areHands : List Cond := .code yL_areHands cL_areHands 13 (some .boolean) :: ((wsL_areHands_r1 ++ (wsL_areHands_r2 ++ (wsL_areHands_r3 ++ wsL_areHands_r4))) ++ wsX60 ++ wsX30 ++ wsX50 ++ wsX20 ++ (vx_atS RX6 130 "java/lang/IndexOutOfBoundsException" ["java/lang/RuntimeException", "java/lang/Exception"]).filter goodWord)
def wsL_areSides_r1 : List Cond := [Cond.methodLink RL 61 yX6_thirds, Cond.instanceMethod yX6_thirds, Cond.selects RX6 yX6_thirds yX6_thirds, Cond.initialized RX6, Cond.code yX6_thirds cX6_thirds 2 (some .int), Cond.classLink RX6 126 "java/lang/IndexOutOfBoundsException", Cond.initialized "java/lang/IndexOutOfBoundsException", Cond.fieldLink RX6 46 "TarockHall" "piles" "LTarockHall$Sets;", Cond.methodLink RX6 257 yX6_isSide, Cond.static yX6_isSide, Cond.code yX6_isSide cX6_isSide 1 (some .boolean), Cond.methodLink RX6 154 yX3_at, Cond.instanceMethod yX3_at, Cond.selects RX3 yX3_at yX3_at, Cond.initialized RX3, Cond.code yX3_at cX3_at 2 (some .long), Cond.fieldLink RX3 13 "TarockHall$Sets" "items" "[J", Cond.methodLink RX6 262 yX6_thirdsOf, Cond.static yX6_thirdsOf, Cond.code yX6_thirdsOf cX6_thirdsOf 4 (some .int), Cond.methodLink RX6 179 yX6_holds, Cond.static yX6_holds, Cond.code yX6_holds cX6_holds 3 (some .boolean), Cond.methodLink RX6 254 yX6_worth]
def wsL_areSides_r2 : List Cond := [Cond.static yX6_worth, Cond.code yX6_worth cX6_worth 2 (some .int), Cond.methodLink RX6 344 yX6_suitOf, Cond.static yX6_suitOf, Cond.code yX6_suitOf cX6_suitOf 1 (some .int), Cond.methodLink RL 58 yX6_tricks, Cond.instanceMethod yX6_tricks, Cond.selects RX6 yX6_tricks yX6_tricks, Cond.code yX6_tricks cX6_tricks 1 (some .int), Cond.fieldLink RX6 199 "TarockHall" "tricks" "I", Cond.methodLink RL 64 yX6_byPacks, Cond.instanceMethod yX6_byPacks, Cond.selects RX6 yX6_byPacks yX6_byPacks, Cond.code yX6_byPacks cX6_byPacks 2 (some .int), Cond.methodLink RX6 265 yX6_packPointsOf, Cond.static yX6_packPointsOf, Cond.code yX6_packPointsOf cX6_packPointsOf 6 (some .int), Cond.methodLink RL 67 yX6_knows, Cond.instanceMethod yX6_knows, Cond.selects RX6 yX6_knows yX6_knows, Cond.code yX6_knows cX6_knows 4 (some .int), Cond.fieldLink RX6 59 "TarockHall" "declarer" "I", Cond.fieldLink RX6 53 "TarockHall" "phase" "I", Cond.fieldLink RX6 65 "TarockHall" "kingOwner" "I"]
def wsL_areSides_r3 : List Cond := [Cond.methodLink RX6 239 yX6_isPlayer, Cond.static yX6_isPlayer, Cond.code yX6_isPlayer cX6_isPlayer 1 (some .boolean), Cond.methodLink RX6 282 yX6_sidesAreOpen, Cond.instanceMethod yX6_sidesAreOpen, Cond.selects RX6 yX6_sidesAreOpen yX6_sidesAreOpen, Cond.code yX6_sidesAreOpen cX6_sidesAreOpen 1 (some .boolean), Cond.fieldLink RX6 62 "TarockHall" "called" "I", Cond.fieldLink RX6 42 "TarockHall" "hands" "LTarockHall$Sets;", Cond.methodLink RX6 133 yX6_calledKing, Cond.instanceMethod yX6_calledKing, Cond.selects RX6 yX6_calledKing yX6_calledKing, Cond.code yX6_calledKing cX6_calledKing 1 (some .int), Cond.methodLink RX6 285 yX6_sideOf, Cond.instanceMethod yX6_sideOf, Cond.selects RX6 yX6_sideOf yX6_sideOf, Cond.code yX6_sideOf cX6_sideOf 2 (some .int), Cond.fieldLink RX6 68 "TarockHall" "partner" "I", Cond.methodLink RL 71 yX6_declarer, Cond.instanceMethod yX6_declarer, Cond.selects RX6 yX6_declarer yX6_declarer, Cond.code yX6_declarer cX6_declarer 1 (some .int), Cond.methodLink RL 34 yX6_phase, Cond.instanceMethod yX6_phase]
def wsL_areSides_r4 : List Cond := [Cond.selects RX6 yX6_phase yX6_phase, Cond.code yX6_phase cX6_phase 1 (some .int), Cond.methodLink RL 74 yX6_partner, Cond.instanceMethod yX6_partner, Cond.selects RX6 yX6_partner yX6_partner, Cond.code yX6_partner cX6_partner 1 (some .int), Cond.methodLink RL 77 yX6_called, Cond.instanceMethod yX6_called, Cond.selects RX6 yX6_called yX6_called, Cond.code yX6_called cX6_called 1 (some .int), Cond.methodLink RL 80 yX6_level, Cond.instanceMethod yX6_level, Cond.selects RX6 yX6_level yX6_level, Cond.code yX6_level cX6_level 1 (some .int), Cond.fieldLink RX6 19 "TarockHall" "bidding" "LTarockHall$Bidding;"]
def wsL_areSides : List Cond := .code yL_areSides cL_areSides 7 (some .boolean) :: ((wsL_areSides_r1 ++ (wsL_areSides_r2 ++ (wsL_areSides_r3 ++ wsL_areSides_r4))) ++ wsX60 ++ wsX30 ++ wsX00 ++ (vx_atS RX6 130 "java/lang/IndexOutOfBoundsException" ["java/lang/RuntimeException", "java/lang/Exception"]).filter goodWord)
def wsL_wins : List Cond := .code yL_wins cL_wins 9 (some .int) :: ([.methodLink RL 51 yL_suit, .static yL_suit, .initialized RL, .code yL_suit cL_suit 1 (some .int)])
def wsL_drawn : List Cond := .code yL_drawn cL_drawn 5 (some .int) :: ([.methodLink RL 54 yL_has, .static yL_has, .initialized RL, .code yL_has cL_has 3 (some .boolean)])
def wsL_isPlayed_r1 : List Cond := [Cond.methodLink RL 45 yX6_turn, Cond.instanceMethod yX6_turn, Cond.selects RX6 yX6_turn yX6_turn, Cond.initialized RX6, Cond.code yX6_turn cX6_turn 1 (some .int), Cond.fieldLink RX6 56 "TarockHall" "turn" "I", Cond.methodLink RL 42 yX6_inTrick, Cond.instanceMethod yX6_inTrick, Cond.selects RX6 yX6_inTrick yX6_inTrick, Cond.code yX6_inTrick cX6_inTrick 1 (some .int), Cond.fieldLink RX6 26 "TarockHall" "trick" "LTarockHall$Trick;", Cond.methodLink RL 58 yX6_tricks, Cond.instanceMethod yX6_tricks, Cond.selects RX6 yX6_tricks yX6_tricks, Cond.code yX6_tricks cX6_tricks 1 (some .int), Cond.fieldLink RX6 199 "TarockHall" "tricks" "I", Cond.methodLink RL 24 yX6_hand, Cond.instanceMethod yX6_hand, Cond.selects RX6 yX6_hand yX6_hand, Cond.code yX6_hand cX6_hand 2 (some .long), Cond.classLink RX6 126 "java/lang/IndexOutOfBoundsException", Cond.initialized "java/lang/IndexOutOfBoundsException", Cond.fieldLink RX6 42 "TarockHall" "hands" "LTarockHall$Sets;", Cond.methodLink RX6 239 yX6_isPlayer]
def wsL_isPlayed_r2 : List Cond := [Cond.static yX6_isPlayer, Cond.code yX6_isPlayer cX6_isPlayer 1 (some .boolean), Cond.methodLink RX6 154 yX3_at, Cond.instanceMethod yX3_at, Cond.selects RX3 yX3_at yX3_at, Cond.initialized RX3, Cond.code yX3_at cX3_at 2 (some .long), Cond.fieldLink RX3 13 "TarockHall$Sets" "items" "[J", Cond.methodLink RL 83 yL_drawn, Cond.static yL_drawn, Cond.initialized RL, Cond.code yL_drawn cL_drawn 5 (some .int), Cond.methodLink RL 54 yL_has, Cond.static yL_has, Cond.code yL_has cL_has 3 (some .boolean), Cond.methodLink RL 38 yX6_canPlay, Cond.instanceMethod yX6_canPlay, Cond.selects RX6 yX6_canPlay yX6_canPlay, Cond.code yX6_canPlay cX6_canPlay 2 (some .boolean), Cond.methodLink RX6 171 yX6_isCard, Cond.static yX6_isCard, Cond.code yX6_isCard cX6_isCard 1 (some .boolean), Cond.methodLink RX6 222 yX6_playableNow, Cond.instanceMethod yX6_playableNow]
def wsL_isPlayed_r3 : List Cond := [Cond.selects RX6 yX6_playableNow yX6_playableNow, Cond.code yX6_playableNow cX6_playableNow 1 (some .long), Cond.fieldLink RX6 53 "TarockHall" "phase" "I", Cond.methodLink RX6 337 yX5_ledSuit, Cond.instanceMethod yX5_ledSuit, Cond.selects RX5 yX5_ledSuit yX5_ledSuit, Cond.initialized RX5, Cond.code yX5_ledSuit cX5_ledSuit 1 (some .int), Cond.fieldLink RX5 24 "TarockHall$Trick" "size" "I", Cond.fieldLink RX5 14 "TarockHall$Trick" "cards" "LTarockHall$Row;", Cond.methodLink RX5 31 yX2_at, Cond.instanceMethod yX2_at, Cond.selects RX2 yX2_at yX2_at, Cond.initialized RX2, Cond.code yX2_at cX2_at 2 (some .int), Cond.fieldLink RX2 15 "TarockHall$Row" "items" "[I", Cond.static yX6_suitOf, Cond.code yX6_suitOf cX6_suitOf 1 (some .int), Cond.methodLink RX6 340 yX6_playableOf, Cond.static yX6_playableOf, Cond.code yX6_playableOf cX6_playableOf 7 (some .long), Cond.methodLink RX6 359 yX6_cardsOfSuit, Cond.static yX6_cardsOfSuit, Cond.code yX6_cardsOfSuit cX6_cardsOfSuit 5 (some .long)]
def wsL_isPlayed_r4 : List Cond := [Cond.constantLong RX6 355 (-4294967296), Cond.constantLong RX6 357 (255), Cond.methodLink RX6 179 yX6_holds, Cond.static yX6_holds, Cond.code yX6_holds cX6_holds 3 (some .boolean), Cond.methodLink RL 48 yX6_trickAt, Cond.instanceMethod yX6_trickAt, Cond.selects RX6 yX6_trickAt yX6_trickAt, Cond.code yX6_trickAt cX6_trickAt 2 (some .int), Cond.methodLink RX6 253 yX5_cardAt, Cond.instanceMethod yX5_cardAt, Cond.selects RX5 yX5_cardAt yX5_cardAt, Cond.code yX5_cardAt cX5_cardAt 2 (some .int), Cond.methodLink RL 61 yX6_thirds, Cond.instanceMethod yX6_thirds, Cond.selects RX6 yX6_thirds yX6_thirds, Cond.code yX6_thirds cX6_thirds 2 (some .int), Cond.fieldLink RX6 46 "TarockHall" "piles" "LTarockHall$Sets;", Cond.methodLink RX6 257 yX6_isSide, Cond.static yX6_isSide, Cond.code yX6_isSide cX6_isSide 1 (some .boolean), Cond.methodLink RX6 262 yX6_thirdsOf, Cond.static yX6_thirdsOf, Cond.code yX6_thirdsOf cX6_thirdsOf 4 (some .int)]
def wsL_isPlayed_r5 : List Cond := [Cond.methodLink RX6 254 yX6_worth, Cond.static yX6_worth, Cond.code yX6_worth cX6_worth 2 (some .int), Cond.methodLink RX6 344 yX6_suitOf, Cond.methodLink RL 87 yL_plays, Cond.static yL_plays, Cond.codeWith yL_plays cL_plays 3 (some .int) [(0, 5, 6, 13)], Cond.classLink RL 13 "java/lang/IllegalStateException", Cond.methodLink RL 21 yX6_play, Cond.instanceMethod yX6_play, Cond.selects RX6 yX6_play yX6_play, Cond.code yX6_play cX6_play 2 (some .int), Cond.classLink RX6 79 "java/lang/IllegalStateException", Cond.initialized "java/lang/IllegalStateException", Cond.methodLink RX6 228 yX6_addToTrick, Cond.instanceMethod yX6_addToTrick, Cond.selects RX6 yX6_addToTrick yX6_addToTrick, Cond.code yX6_addToTrick cX6_addToTrick 3 (some .int), Cond.constantLong RX6 166 (-1), Cond.methodLink RX6 188 yX6_only, Cond.static yX6_only, Cond.code yX6_only cX6_only 1 (some .long), Cond.methodLink RX6 158 yX3_put, Cond.instanceMethod yX3_put]
def wsL_isPlayed_r6 : List Cond := [Cond.selects RX3 yX3_put yX3_put, Cond.code yX3_put cX3_put 4 none, Cond.methodLink RX6 297 yX5_add, Cond.instanceMethod yX5_add, Cond.selects RX5 yX5_add yX5_add, Cond.code yX5_add cX5_add 2 none, Cond.methodLink RX5 27 yX2_put, Cond.instanceMethod yX2_put, Cond.selects RX2 yX2_put yX2_put, Cond.code yX2_put cX2_put 3 none, Cond.methodLink RX6 84 yX6_behind, Cond.static yX6_behind, Cond.code yX6_behind cX6_behind 1 (some .int), Cond.methodLink RX6 300 yX5_winner, Cond.instanceMethod yX5_winner, Cond.selects RX5 yX5_winner yX5_winner, Cond.code yX5_winner cX5_winner 3 (some .int), Cond.methodLink RX5 45 yX5_beats, Cond.static yX5_beats, Cond.code yX5_beats cX5_beats 3 (some .boolean), Cond.methodLink RX5 42 yX5_playerAt, Cond.instanceMethod yX5_playerAt, Cond.selects RX5 yX5_playerAt yX5_playerAt, Cond.code yX5_playerAt cX5_playerAt 2 (some .int)]
def wsL_isPlayed_r7 : List Cond := [Cond.fieldLink RX5 20 "TarockHall$Trick" "leader" "I", Cond.methodLink RX6 303 yX6_endTrick, Cond.instanceMethod yX6_endTrick, Cond.selects RX6 yX6_endTrick yX6_endTrick, Cond.code yX6_endTrick cX6_endTrick 3 none, Cond.methodLink RX6 285 yX6_sideOf, Cond.instanceMethod yX6_sideOf, Cond.selects RX6 yX6_sideOf yX6_sideOf, Cond.code yX6_sideOf cX6_sideOf 2 (some .int), Cond.fieldLink RX6 59 "TarockHall" "declarer" "I", Cond.fieldLink RX6 68 "TarockHall" "partner" "I", Cond.methodLink RX6 306 yX5_cardSet, Cond.instanceMethod yX5_cardSet, Cond.selects RX5 yX5_cardSet yX5_cardSet, Cond.code yX5_cardSet cX5_cardSet 4 (some .long), Cond.methodLink RX6 309 yX6_enterResult, Cond.instanceMethod yX6_enterResult, Cond.selects RX6 yX6_enterResult yX6_enterResult, Cond.code yX6_enterResult cX6_enterResult 5 none, Cond.fieldLink RX6 19 "TarockHall" "bidding" "LTarockHall$Bidding;", Cond.fieldLink RX6 33 "TarockHall" "sheet" "LTarockHall$Sheet;", Cond.methodLink RX6 312 yX6_gamePoints, Cond.static yX6_gamePoints, Cond.code yX6_gamePoints cX6_gamePoints 3 (some .int)]
def wsL_isPlayed_r8 : List Cond := [Cond.methodLink RX6 350 Lib.Math.abs.name, Cond.static Lib.Math.abs.name, Cond.initialized "java/lang/Math", Cond.code Lib.Math.abs.name Lib.Math.abs.code 1 (some .int), Cond.methodLink RX6 347 yX6_basePoints, Cond.static yX6_basePoints, Cond.code yX6_basePoints cX6_basePoints 1 (some .int), Cond.methodLink RX6 322 yX6_isWon, Cond.static yX6_isWon, Cond.code yX6_isWon cX6_isWon 1 (some .boolean), Cond.methodLink RX6 316 yX6_pagatPoints, Cond.instanceMethod yX6_pagatPoints, Cond.selects RX6 yX6_pagatPoints yX6_pagatPoints, Cond.code yX6_pagatPoints cX6_pagatPoints 5 (some .int), Cond.methodLink RX6 331 yX5_playerOf, Cond.instanceMethod yX5_playerOf, Cond.selects RX5 yX5_playerOf yX5_playerOf, Cond.code yX5_playerOf cX5_playerOf 3 (some .int), Cond.methodLink RX6 207 yX6_isAnnounced, Cond.instanceMethod yX6_isAnnounced, Cond.selects RX6 yX6_isAnnounced yX6_isAnnounced, Cond.code yX6_isAnnounced cX6_isAnnounced 2 (some .boolean), Cond.fieldLink RX6 214 "TarockHall" "announced" "I", Cond.methodLink RX6 319 yX6_kingPoints]
def wsL_isPlayed_r9 : List Cond := [Cond.instanceMethod yX6_kingPoints, Cond.selects RX6 yX6_kingPoints yX6_kingPoints, Cond.code yX6_kingPoints cX6_kingPoints 4 (some .int), Cond.fieldLink RX6 62 "TarockHall" "called" "I", Cond.methodLink RX6 133 yX6_calledKing, Cond.instanceMethod yX6_calledKing, Cond.selects RX6 yX6_calledKing yX6_calledKing, Cond.code yX6_calledKing cX6_calledKing 1 (some .int), Cond.methodLink RX6 325 yX4_enter, Cond.instanceMethod yX4_enter, Cond.selects RX4 yX4_enter yX4_enter, Cond.initialized RX4, Cond.code yX4_enter cX4_enter 6 none, Cond.fieldLink RX4 20 "TarockHall$Sheet" "radli" "LTarockHall$Row;", Cond.fieldLink RX4 27 "TarockHall$Sheet" "latest" "I", Cond.methodLink RX4 23 yX2_at, Cond.methodLink RX4 31 yX2_put, Cond.methodLink RX4 35 yX4_addScore, Cond.instanceMethod yX4_addScore, Cond.selects RX4 yX4_addScore yX4_addScore, Cond.code yX4_addScore cX4_addScore 2 none, Cond.fieldLink RX4 14 "TarockHall$Sheet" "scores" "LTarockHall$Row;", Cond.methodLink RX6 328 yX4_giveRadli, Cond.instanceMethod yX4_giveRadli]
def wsL_isPlayed_r10 : List Cond := [Cond.selects RX4 yX4_giveRadli yX4_giveRadli, Cond.code yX4_giveRadli cX4_giveRadli 2 none, Cond.methodLink RX6 114 yX6_endDeal, Cond.instanceMethod yX6_endDeal, Cond.selects RX6 yX6_endDeal yX6_endDeal, Cond.code yX6_endDeal cX6_endDeal 1 none, Cond.methodLink RX6 291 yX5_begin, Cond.instanceMethod yX5_begin, Cond.selects RX5 yX5_begin yX5_begin, Cond.code yX5_begin cX5_begin 2 none, Cond.methodLink RL 91 yX6_valueOf, Cond.instanceMethod yX6_valueOf, Cond.selects RX6 yX6_valueOf yX6_valueOf, Cond.code yX6_valueOf cX6_valueOf 2 (some .int), Cond.methodLink RL 94 yL_wins, Cond.static yL_wins, Cond.code yL_wins cL_wins 9 (some .int), Cond.methodLink RL 51 yL_suit, Cond.static yL_suit, Cond.code yL_suit cL_suit 1 (some .int)]
def wsL_isPlayed : List Cond := .code yL_isPlayed cL_isPlayed 16 (some .boolean) :: ((wsL_isPlayed_r1 ++ (wsL_isPlayed_r2 ++ (wsL_isPlayed_r3 ++ (wsL_isPlayed_r4 ++ (wsL_isPlayed_r5 ++ (wsL_isPlayed_r6 ++ (wsL_isPlayed_r7 ++ (wsL_isPlayed_r8 ++ (wsL_isPlayed_r9 ++ wsL_isPlayed_r10))))))))) ++ wsX60 ++ wsX50 ++ wsX30 ++ wsX20 ++ wsX00 ++ wsX40 ++ (vx_atS RX6 130 "java/lang/IndexOutOfBoundsException" ["java/lang/RuntimeException", "java/lang/Exception"]).filter goodWord ++ (vx_atS RX6 83 "java/lang/IllegalStateException" ["java/lang/RuntimeException", "java/lang/Exception"]).filter goodWord)
def wsL_isScored_r1 : List Cond := [Cond.methodLink RL 98 yX6_result, Cond.instanceMethod yX6_result, Cond.selects RX6 yX6_result yX6_result, Cond.initialized RX6, Cond.code yX6_result cX6_result 1 (some .int), Cond.fieldLink RX6 33 "TarockHall" "sheet" "LTarockHall$Sheet;", Cond.methodLink RL 71 yX6_declarer, Cond.instanceMethod yX6_declarer, Cond.selects RX6 yX6_declarer yX6_declarer, Cond.code yX6_declarer cX6_declarer 1 (some .int), Cond.fieldLink RX6 59 "TarockHall" "declarer" "I", Cond.methodLink RL 74 yX6_partner, Cond.instanceMethod yX6_partner, Cond.selects RX6 yX6_partner yX6_partner, Cond.code yX6_partner cX6_partner 1 (some .int), Cond.fieldLink RX6 68 "TarockHall" "partner" "I", Cond.methodLink RL 101 yX6_score, Cond.instanceMethod yX6_score, Cond.selects RX6 yX6_score yX6_score, Cond.code yX6_score cX6_score 2 (some .int), Cond.classLink RX6 126 "java/lang/IndexOutOfBoundsException", Cond.initialized "java/lang/IndexOutOfBoundsException", Cond.methodLink RX6 239 yX6_isPlayer, Cond.static yX6_isPlayer]
def wsL_isScored_r2 : List Cond := [Cond.code yX6_isPlayer cX6_isPlayer 1 (some .boolean), Cond.methodLink RX6 272 yX2_at, Cond.instanceMethod yX2_at, Cond.selects RX2 yX2_at yX2_at, Cond.initialized RX2, Cond.code yX2_at cX2_at 2 (some .int), Cond.fieldLink RX2 15 "TarockHall$Row" "items" "[I", Cond.methodLink RL 61 yX6_thirds, Cond.instanceMethod yX6_thirds, Cond.selects RX6 yX6_thirds yX6_thirds, Cond.code yX6_thirds cX6_thirds 2 (some .int), Cond.fieldLink RX6 46 "TarockHall" "piles" "LTarockHall$Sets;", Cond.methodLink RX6 257 yX6_isSide, Cond.static yX6_isSide, Cond.code yX6_isSide cX6_isSide 1 (some .boolean), Cond.methodLink RX6 154 yX3_at, Cond.instanceMethod yX3_at, Cond.selects RX3 yX3_at yX3_at, Cond.initialized RX3, Cond.code yX3_at cX3_at 2 (some .long), Cond.fieldLink RX3 13 "TarockHall$Sets" "items" "[J", Cond.methodLink RX6 262 yX6_thirdsOf, Cond.static yX6_thirdsOf, Cond.code yX6_thirdsOf cX6_thirdsOf 4 (some .int)]
def wsL_isScored_r3 : List Cond := [Cond.methodLink RX6 179 yX6_holds, Cond.static yX6_holds, Cond.code yX6_holds cX6_holds 3 (some .boolean), Cond.methodLink RX6 254 yX6_worth, Cond.static yX6_worth, Cond.code yX6_worth cX6_worth 2 (some .int), Cond.methodLink RX6 344 yX6_suitOf, Cond.static yX6_suitOf, Cond.code yX6_suitOf cX6_suitOf 1 (some .int), Cond.methodLink RL 80 yX6_level, Cond.instanceMethod yX6_level, Cond.selects RX6 yX6_level yX6_level, Cond.code yX6_level cX6_level 1 (some .int), Cond.fieldLink RX6 19 "TarockHall" "bidding" "LTarockHall$Bidding;", Cond.methodLink RL 104 yX6_radli, Cond.instanceMethod yX6_radli, Cond.selects RX6 yX6_radli yX6_radli, Cond.code yX6_radli cX6_radli 2 (some .int)]
def wsL_isScored : List Cond := .code yL_isScored cL_isScored 12 (some .boolean) :: ((wsL_isScored_r1 ++ (wsL_isScored_r2 ++ wsL_isScored_r3)) ++ wsX60 ++ wsX40 ++ wsX20 ++ wsX30 ++ wsX00 ++ (vx_atS RX6 130 "java/lang/IndexOutOfBoundsException" ["java/lang/RuntimeException", "java/lang/Exception"]).filter goodWord)
def wsL_law0_r1 : List Cond := [Cond.classLink RL 8 RX6, Cond.instantiable RX6 18, Cond.initialized RX6, Cond.arrayClass .int, Cond.constant RL 115 (810013), Cond.constant RL 116 (268435455), Cond.constant RL 117 (65535), Cond.methodLink RL 107 yX6_init, Cond.instanceMethod yX6_init, Cond.code yX6_init cX6_init 1 none, Cond.methodLink RX6 3 objectInit, Cond.instanceMethod objectInit, Cond.code objectInit ⟨#[0xb1]⟩ 1 none, Cond.classLink RX6 9 RX1, Cond.instantiable RX1 1, Cond.initialized RX1, Cond.fieldLink RX6 12 "TarockHall" "deck" "LTarockHall$Deck;", Cond.classLink RX6 16 RX0, Cond.instantiable RX0 3, Cond.initialized RX0, Cond.fieldLink RX6 19 "TarockHall" "bidding" "LTarockHall$Bidding;", Cond.classLink RX6 23 RX5, Cond.instantiable RX5 3, Cond.initialized RX5]
def wsL_law0_r2 : List Cond := [Cond.fieldLink RX6 26 "TarockHall" "trick" "LTarockHall$Trick;", Cond.classLink RX6 30 RX4, Cond.instantiable RX4 3, Cond.initialized RX4, Cond.fieldLink RX6 33 "TarockHall" "sheet" "LTarockHall$Sheet;", Cond.classLink RX6 37 RX3, Cond.instantiable RX3 1, Cond.initialized RX3, Cond.fieldLink RX6 42 "TarockHall" "hands" "LTarockHall$Sets;", Cond.fieldLink RX6 46 "TarockHall" "piles" "LTarockHall$Sets;", Cond.fieldLink RX6 49 "TarockHall" "forehand" "I", Cond.fieldLink RX6 53 "TarockHall" "phase" "I", Cond.fieldLink RX6 56 "TarockHall" "turn" "I", Cond.fieldLink RX6 59 "TarockHall" "declarer" "I", Cond.fieldLink RX6 62 "TarockHall" "called" "I", Cond.fieldLink RX6 65 "TarockHall" "kingOwner" "I", Cond.fieldLink RX6 68 "TarockHall" "partner" "I", Cond.methodLink RX6 11 yX1_init, Cond.instanceMethod yX1_init, Cond.code yX1_init cX1_init 1 none, Cond.methodLink RX1 3 objectInit, Cond.classLink RX1 9 RX2, Cond.instantiable RX2 1, Cond.initialized RX2]
def wsL_law0_r3 : List Cond := [Cond.fieldLink RX1 14 "TarockHall$Deck" "row" "LTarockHall$Row;", Cond.methodLink RX1 11 yX2_init, Cond.instanceMethod yX2_init, Cond.code yX2_init cX2_init 2 none, Cond.methodLink RX2 3 objectInit, Cond.methodLink RX2 9 Lib.Math.max.name, Cond.static Lib.Math.max.name, Cond.initialized "java/lang/Math", Cond.code Lib.Math.max.name Lib.Math.max.code 2 (some .int), Cond.fieldLink RX2 15 "TarockHall$Row" "items" "[I", Cond.methodLink RX6 18 yX0_init, Cond.instanceMethod yX0_init, Cond.code yX0_init cX0_init 1 none, Cond.methodLink RX0 3 objectInit, Cond.fieldLink RX0 9 "TarockHall$Bidding" "bidder" "I", Cond.methodLink RX6 25 yX5_init, Cond.instanceMethod yX5_init, Cond.code yX5_init cX5_init 1 none, Cond.methodLink RX5 3 objectInit, Cond.classLink RX5 9 RX2, Cond.fieldLink RX5 14 "TarockHall$Trick" "cards" "LTarockHall$Row;", Cond.methodLink RX5 11 yX2_init, Cond.methodLink RX6 32 yX4_init, Cond.instanceMethod yX4_init]
def wsL_law0_r4 : List Cond := [Cond.code yX4_init cX4_init 1 none, Cond.methodLink RX4 3 objectInit, Cond.classLink RX4 9 RX2, Cond.fieldLink RX4 14 "TarockHall$Sheet" "scores" "LTarockHall$Row;", Cond.fieldLink RX4 20 "TarockHall$Sheet" "radli" "LTarockHall$Row;", Cond.methodLink RX4 11 yX2_init, Cond.methodLink RX6 39 yX3_init, Cond.instanceMethod yX3_init, Cond.code yX3_init cX3_init 2 none, Cond.methodLink RX3 1 objectInit, Cond.methodLink RX3 7 Lib.Math.max.name, Cond.arrayClass .long, Cond.fieldLink RX3 13 "TarockHall$Sets" "items" "[J", Cond.methodLink RL 108 yL_areHands, Cond.static yL_areHands, Cond.initialized RL, Cond.code yL_areHands cL_areHands 13 (some .boolean), Cond.methodLink RL 24 yX6_hand, Cond.instanceMethod yX6_hand, Cond.selects RX6 yX6_hand yX6_hand, Cond.code yX6_hand cX6_hand 2 (some .long), Cond.classLink RX6 126 "java/lang/IndexOutOfBoundsException", Cond.initialized "java/lang/IndexOutOfBoundsException", Cond.methodLink RX6 239 yX6_isPlayer]
def wsL_law0_r5 : List Cond := [Cond.static yX6_isPlayer, Cond.code yX6_isPlayer cX6_isPlayer 1 (some .boolean), Cond.methodLink RX6 154 yX3_at, Cond.instanceMethod yX3_at, Cond.selects RX3 yX3_at yX3_at, Cond.code yX3_at cX3_at 2 (some .long), Cond.methodLink RL 28 yL_bits, Cond.static yL_bits, Cond.code yL_bits cL_bits 4 (some .int), Cond.methodLink RL 34 yX6_phase, Cond.instanceMethod yX6_phase, Cond.selects RX6 yX6_phase yX6_phase, Cond.code yX6_phase cX6_phase 1 (some .int), Cond.methodLink RL 38 yX6_canPlay, Cond.instanceMethod yX6_canPlay, Cond.selects RX6 yX6_canPlay yX6_canPlay, Cond.code yX6_canPlay cX6_canPlay 2 (some .boolean), Cond.methodLink RX6 171 yX6_isCard, Cond.static yX6_isCard, Cond.code yX6_isCard cX6_isCard 1 (some .boolean), Cond.methodLink RX6 222 yX6_playableNow, Cond.instanceMethod yX6_playableNow, Cond.selects RX6 yX6_playableNow yX6_playableNow, Cond.code yX6_playableNow cX6_playableNow 1 (some .long)]
def wsL_law0_r6 : List Cond := [Cond.methodLink RX6 337 yX5_ledSuit, Cond.instanceMethod yX5_ledSuit, Cond.selects RX5 yX5_ledSuit yX5_ledSuit, Cond.code yX5_ledSuit cX5_ledSuit 1 (some .int), Cond.fieldLink RX5 24 "TarockHall$Trick" "size" "I", Cond.methodLink RX5 31 yX2_at, Cond.instanceMethod yX2_at, Cond.selects RX2 yX2_at yX2_at, Cond.code yX2_at cX2_at 2 (some .int), Cond.static yX6_suitOf, Cond.code yX6_suitOf cX6_suitOf 1 (some .int), Cond.methodLink RX6 340 yX6_playableOf, Cond.static yX6_playableOf, Cond.code yX6_playableOf cX6_playableOf 7 (some .long), Cond.methodLink RX6 359 yX6_cardsOfSuit, Cond.static yX6_cardsOfSuit, Cond.code yX6_cardsOfSuit cX6_cardsOfSuit 5 (some .long), Cond.constantLong RX6 355 (-4294967296), Cond.constantLong RX6 357 (255), Cond.methodLink RX6 179 yX6_holds, Cond.static yX6_holds, Cond.code yX6_holds cX6_holds 3 (some .boolean), Cond.methodLink RL 42 yX6_inTrick, Cond.instanceMethod yX6_inTrick]
def wsL_law0_r7 : List Cond := [Cond.selects RX6 yX6_inTrick yX6_inTrick, Cond.code yX6_inTrick cX6_inTrick 1 (some .int), Cond.methodLink RL 45 yX6_turn, Cond.instanceMethod yX6_turn, Cond.selects RX6 yX6_turn yX6_turn, Cond.code yX6_turn cX6_turn 1 (some .int), Cond.methodLink RL 48 yX6_trickAt, Cond.instanceMethod yX6_trickAt, Cond.selects RX6 yX6_trickAt yX6_trickAt, Cond.code yX6_trickAt cX6_trickAt 2 (some .int), Cond.methodLink RX6 253 yX5_cardAt, Cond.instanceMethod yX5_cardAt, Cond.selects RX5 yX5_cardAt yX5_cardAt, Cond.code yX5_cardAt cX5_cardAt 2 (some .int), Cond.methodLink RL 51 yL_suit, Cond.static yL_suit, Cond.code yL_suit cL_suit 1 (some .int), Cond.methodLink RL 54 yL_has, Cond.static yL_has, Cond.code yL_has cL_has 3 (some .boolean), Cond.methodLink RL 58 yX6_tricks, Cond.instanceMethod yX6_tricks, Cond.selects RX6 yX6_tricks yX6_tricks, Cond.code yX6_tricks cX6_tricks 1 (some .int)]
def wsL_law0_r8 : List Cond := [Cond.fieldLink RX6 199 "TarockHall" "tricks" "I", Cond.methodLink RL 112 yL_areSides, Cond.static yL_areSides, Cond.code yL_areSides cL_areSides 7 (some .boolean), Cond.methodLink RL 61 yX6_thirds, Cond.instanceMethod yX6_thirds, Cond.selects RX6 yX6_thirds yX6_thirds, Cond.code yX6_thirds cX6_thirds 2 (some .int), Cond.methodLink RX6 257 yX6_isSide, Cond.static yX6_isSide, Cond.code yX6_isSide cX6_isSide 1 (some .boolean), Cond.methodLink RX6 262 yX6_thirdsOf, Cond.static yX6_thirdsOf, Cond.code yX6_thirdsOf cX6_thirdsOf 4 (some .int), Cond.methodLink RX6 254 yX6_worth, Cond.static yX6_worth, Cond.code yX6_worth cX6_worth 2 (some .int), Cond.methodLink RX6 344 yX6_suitOf, Cond.methodLink RL 64 yX6_byPacks, Cond.instanceMethod yX6_byPacks, Cond.selects RX6 yX6_byPacks yX6_byPacks, Cond.code yX6_byPacks cX6_byPacks 2 (some .int), Cond.methodLink RX6 265 yX6_packPointsOf, Cond.static yX6_packPointsOf]
def wsL_law0_r9 : List Cond := [Cond.code yX6_packPointsOf cX6_packPointsOf 6 (some .int), Cond.methodLink RL 67 yX6_knows, Cond.instanceMethod yX6_knows, Cond.selects RX6 yX6_knows yX6_knows, Cond.code yX6_knows cX6_knows 4 (some .int), Cond.methodLink RX6 282 yX6_sidesAreOpen, Cond.instanceMethod yX6_sidesAreOpen, Cond.selects RX6 yX6_sidesAreOpen yX6_sidesAreOpen, Cond.code yX6_sidesAreOpen cX6_sidesAreOpen 1 (some .boolean), Cond.methodLink RX6 133 yX6_calledKing, Cond.instanceMethod yX6_calledKing, Cond.selects RX6 yX6_calledKing yX6_calledKing, Cond.code yX6_calledKing cX6_calledKing 1 (some .int), Cond.methodLink RX6 285 yX6_sideOf, Cond.instanceMethod yX6_sideOf, Cond.selects RX6 yX6_sideOf yX6_sideOf, Cond.code yX6_sideOf cX6_sideOf 2 (some .int), Cond.methodLink RL 71 yX6_declarer, Cond.instanceMethod yX6_declarer, Cond.selects RX6 yX6_declarer yX6_declarer, Cond.code yX6_declarer cX6_declarer 1 (some .int), Cond.methodLink RL 74 yX6_partner, Cond.instanceMethod yX6_partner, Cond.selects RX6 yX6_partner yX6_partner]
def wsL_law0_r10 : List Cond := [Cond.code yX6_partner cX6_partner 1 (some .int), Cond.methodLink RL 77 yX6_called, Cond.instanceMethod yX6_called, Cond.selects RX6 yX6_called yX6_called, Cond.code yX6_called cX6_called 1 (some .int), Cond.methodLink RL 80 yX6_level, Cond.instanceMethod yX6_level, Cond.selects RX6 yX6_level yX6_level, Cond.code yX6_level cX6_level 1 (some .int), Cond.methodLink RL 101 yX6_score, Cond.instanceMethod yX6_score, Cond.selects RX6 yX6_score yX6_score, Cond.code yX6_score cX6_score 2 (some .int), Cond.methodLink RX6 272 yX2_at, Cond.methodLink RL 104 yX6_radli, Cond.instanceMethod yX6_radli, Cond.selects RX6 yX6_radli yX6_radli, Cond.code yX6_radli cX6_radli 2 (some .int), Cond.methodLink RL 118 yX6_deal, Cond.instanceMethod yX6_deal, Cond.selects RX6 yX6_deal yX6_deal, Cond.code yX6_deal cX6_deal 2 (some .int), Cond.classLink RX6 72 "java/lang/IllegalArgumentException", Cond.initialized "java/lang/IllegalArgumentException"]
def wsL_law0_r11 : List Cond := [Cond.classLink RX6 79 "java/lang/IllegalStateException", Cond.initialized "java/lang/IllegalStateException", Cond.constant RX6 71 (65536), Cond.methodLink RX6 84 yX6_behind, Cond.static yX6_behind, Cond.code yX6_behind cX6_behind 1 (some .int), Cond.methodLink RX6 88 yX6_clearDeal, Cond.instanceMethod yX6_clearDeal, Cond.selects RX6 yX6_clearDeal yX6_clearDeal, Cond.code yX6_clearDeal cX6_clearDeal 1 none, Cond.fieldLink RX6 168 "TarockHall" "toLayAway" "I", Cond.fieldLink RX6 191 "TarockHall" "laidAway" "J", Cond.fieldLink RX6 214 "TarockHall" "announced" "I", Cond.methodLink RX6 288 yX0_clear, Cond.instanceMethod yX0_clear, Cond.selects RX0 yX0_clear yX0_clear, Cond.code yX0_clear cX0_clear 1 none, Cond.fieldLink RX0 15 "TarockHall$Bidding" "passed" "I", Cond.fieldLink RX0 18 "TarockHall$Bidding" "highest" "I", Cond.methodLink RX6 291 yX5_begin, Cond.instanceMethod yX5_begin, Cond.selects RX5 yX5_begin yX5_begin, Cond.code yX5_begin cX5_begin 2 none, Cond.fieldLink RX5 20 "TarockHall$Trick" "leader" "I"]
def wsL_law0_r12 : List Cond := [Cond.methodLink RX6 158 yX3_put, Cond.instanceMethod yX3_put, Cond.selects RX3 yX3_put yX3_put, Cond.code yX3_put cX3_put 4 none, Cond.methodLink RX6 91 yX1_shuffle, Cond.instanceMethod yX1_shuffle, Cond.selects RX1 yX1_shuffle yX1_shuffle, Cond.code yX1_shuffle cX1_shuffle 4 none, Cond.constant RX1 24 (65536), Cond.methodLink RX1 20 yX2_put, Cond.instanceMethod yX2_put, Cond.selects RX2 yX2_put yX2_put, Cond.code yX2_put cX2_put 3 none, Cond.methodLink RX1 25 yX1_swap, Cond.instanceMethod yX1_swap, Cond.selects RX1 yX1_swap yX1_swap, Cond.code yX1_swap cX1_swap 4 none, Cond.methodLink RX1 28 yX2_at, Cond.methodLink RX6 94 yX6_handOut, Cond.instanceMethod yX6_handOut, Cond.selects RX6 yX6_handOut yX6_handOut, Cond.code yX6_handOut cX6_handOut 3 none, Cond.fieldLink RX6 162 "TarockHall" "restOfTalon" "J", Cond.methodLink RX6 150 yX1_cardsFrom]
def wsL_law0_r13 : List Cond := [Cond.instanceMethod yX1_cardsFrom, Cond.selects RX1 yX1_cardsFrom yX1_cardsFrom, Cond.code yX1_cardsFrom cX1_cardsFrom 6 (some .long), Cond.static yX6_only, Cond.code yX6_only cX6_only 1 (some .long), Cond.methodLink RL 121 yX6_talonAt, Cond.instanceMethod yX6_talonAt, Cond.selects RX6 yX6_talonAt yX6_talonAt, Cond.code yX6_talonAt cX6_talonAt 2 (some .int), Cond.methodLink RX6 248 yX1_cardAt, Cond.instanceMethod yX1_cardAt, Cond.selects RX1 yX1_cardAt yX1_cardAt, Cond.code yX1_cardAt cX1_cardAt 2 (some .int), Cond.methodLink RL 124 yL_bids, Cond.static yL_bids, Cond.codeWith yL_bids cL_bids 3 (some .int) [(0, 5, 6, 13)], Cond.classLink RL 13 "java/lang/IllegalStateException", Cond.methodLink RL 7 yX6_bid, Cond.instanceMethod yX6_bid, Cond.selects RX6 yX6_bid yX6_bid, Cond.code yX6_bid cX6_bid 2 (some .int), Cond.methodLink RX6 106 yX0_enter, Cond.instanceMethod yX0_enter, Cond.selects RX0 yX0_enter yX0_enter]
def wsL_law0_r14 : List Cond := [Cond.code yX0_enter cX0_enter 3 none, Cond.methodLink RX6 110 yX0_allPassed, Cond.instanceMethod yX0_allPassed, Cond.selects RX0 yX0_allPassed yX0_allPassed, Cond.code yX0_allPassed cX0_allPassed 1 (some .boolean), Cond.methodLink RX0 21 yJ6_bitCount_0f7a4, Cond.static yJ6_bitCount_0f7a4, Cond.initialized RJ6, Cond.code yJ6_bitCount_0f7a4 cJ6_bitCount_0f7a4 1 (some .int), Cond.constant RJ6 265 (1431655765), Cond.constant RJ6 266 (858993459), Cond.constant RJ6 267 (252645135), Cond.methodLink RX6 114 yX6_endDeal, Cond.instanceMethod yX6_endDeal, Cond.selects RX6 yX6_endDeal yX6_endDeal, Cond.code yX6_endDeal cX6_endDeal 1 none, Cond.methodLink RX6 117 yX0_isSettled, Cond.instanceMethod yX0_isSettled, Cond.selects RX0 yX0_isSettled yX0_isSettled, Cond.code yX0_isSettled cX0_isSettled 1 (some .boolean), Cond.methodLink RX6 120 yX6_beginGame, Cond.instanceMethod yX6_beginGame, Cond.selects RX6 yX6_beginGame yX6_beginGame, Cond.code yX6_beginGame cX6_beginGame 1 none]
def wsL_law0_r15 : List Cond := [Cond.methodLink RX6 194 yX6_beginPlay, Cond.instanceMethod yX6_beginPlay, Cond.selects RX6 yX6_beginPlay yX6_beginPlay, Cond.code yX6_beginPlay cX6_beginPlay 1 none, Cond.methodLink RX6 123 yX0_nextBehind, Cond.instanceMethod yX0_nextBehind, Cond.selects RX0 yX0_nextBehind yX0_nextBehind, Cond.code yX0_nextBehind cX0_nextBehind 4 (some .int), Cond.methodLink RX0 30 yX0_hasPassed, Cond.instanceMethod yX0_hasPassed, Cond.selects RX0 yX0_hasPassed yX0_hasPassed, Cond.code yX0_hasPassed cX0_hasPassed 2 (some .boolean), Cond.methodLink RL 127 yX6_call, Cond.instanceMethod yX6_call, Cond.selects RX6 yX6_call yX6_call, Cond.code yX6_call cX6_call 2 (some .int), Cond.methodLink RX6 137 yX6_ownerOf, Cond.instanceMethod yX6_ownerOf, Cond.selects RX6 yX6_ownerOf yX6_ownerOf, Cond.code yX6_ownerOf cX6_ownerOf 3 (some .int), Cond.methodLink RL 130 yX6_take, Cond.instanceMethod yX6_take, Cond.selects RX6 yX6_take yX6_take, Cond.code yX6_take cX6_take 5 (some .int)]
def wsL_law0_r16 : List Cond := [Cond.constantLong RX6 166 (-1), Cond.methodLink RX6 140 yX6_groupsNow, Cond.instanceMethod yX6_groupsNow, Cond.selects RX6 yX6_groupsNow yX6_groupsNow, Cond.code yX6_groupsNow cX6_groupsNow 1 (some .int), Cond.methodLink RX6 334 yX6_groupsAt, Cond.static yX6_groupsAt, Cond.code yX6_groupsAt cX6_groupsAt 1 (some .int), Cond.methodLink RX6 147 yX6_groupSize, Cond.static yX6_groupSize, Cond.code yX6_groupSize cX6_groupSize 1 (some .int), Cond.methodLink RL 83 yL_drawn, Cond.static yL_drawn, Cond.code yL_drawn cL_drawn 5 (some .int), Cond.methodLink RL 133 yL_lays, Cond.static yL_lays, Cond.codeWith yL_lays cL_lays 3 (some .int) [(0, 5, 6, 13)], Cond.methodLink RL 15 yX6_discard, Cond.instanceMethod yX6_discard, Cond.selects RX6 yX6_discard yX6_discard, Cond.code yX6_discard cX6_discard 4 (some .int), Cond.methodLink RX6 183 yX6_canBeLaidAway, Cond.static yX6_canBeLaidAway, Cond.code yX6_canBeLaidAway cX6_canBeLaidAway 1 (some .boolean)]
def wsL_law0_r17 : List Cond := [Cond.methodLink RX6 188 yX6_only, Cond.methodLink RL 91 yX6_valueOf, Cond.instanceMethod yX6_valueOf, Cond.selects RX6 yX6_valueOf yX6_valueOf, Cond.code yX6_valueOf cX6_valueOf 2 (some .int), Cond.methodLink RL 136 yL_announces, Cond.static yL_announces, Cond.codeWith yL_announces cL_announces 3 (some .int) [(0, 5, 6, 13)], Cond.methodLink RL 18 yX6_announce, Cond.instanceMethod yX6_announce, Cond.selects RX6 yX6_announce yX6_announce, Cond.code yX6_announce cX6_announce 2 (some .int), Cond.methodLink RX6 207 yX6_isAnnounced, Cond.instanceMethod yX6_isAnnounced, Cond.selects RX6 yX6_isAnnounced yX6_isAnnounced, Cond.code yX6_isAnnounced cX6_isAnnounced 2 (some .boolean), Cond.methodLink RX6 217 yJ6_bitCount_0f7a4, Cond.methodLink RL 139 yX6_playLowest, Cond.instanceMethod yX6_playLowest, Cond.selects RX6 yX6_playLowest yX6_playLowest, Cond.code yX6_playLowest cX6_playLowest 4 (some .int), Cond.methodLink RX6 235 yX6_lowestOf, Cond.static yX6_lowestOf, Cond.code yX6_lowestOf cX6_lowestOf 3 (some .int)]
def wsL_law0_r18 : List Cond := [Cond.methodLink RX6 228 yX6_addToTrick, Cond.instanceMethod yX6_addToTrick, Cond.selects RX6 yX6_addToTrick yX6_addToTrick, Cond.code yX6_addToTrick cX6_addToTrick 3 (some .int), Cond.methodLink RX6 297 yX5_add, Cond.instanceMethod yX5_add, Cond.selects RX5 yX5_add yX5_add, Cond.code yX5_add cX5_add 2 none, Cond.methodLink RX5 27 yX2_put, Cond.methodLink RX6 300 yX5_winner, Cond.instanceMethod yX5_winner, Cond.selects RX5 yX5_winner yX5_winner, Cond.code yX5_winner cX5_winner 3 (some .int), Cond.methodLink RX5 45 yX5_beats, Cond.static yX5_beats, Cond.code yX5_beats cX5_beats 3 (some .boolean), Cond.methodLink RX5 42 yX5_playerAt, Cond.instanceMethod yX5_playerAt, Cond.selects RX5 yX5_playerAt yX5_playerAt, Cond.code yX5_playerAt cX5_playerAt 2 (some .int), Cond.methodLink RX6 303 yX6_endTrick, Cond.instanceMethod yX6_endTrick, Cond.selects RX6 yX6_endTrick yX6_endTrick, Cond.code yX6_endTrick cX6_endTrick 3 none]
def wsL_law0_r19 : List Cond := [Cond.methodLink RX6 306 yX5_cardSet, Cond.instanceMethod yX5_cardSet, Cond.selects RX5 yX5_cardSet yX5_cardSet, Cond.code yX5_cardSet cX5_cardSet 4 (some .long), Cond.methodLink RX6 309 yX6_enterResult, Cond.instanceMethod yX6_enterResult, Cond.selects RX6 yX6_enterResult yX6_enterResult, Cond.code yX6_enterResult cX6_enterResult 5 none, Cond.methodLink RX6 312 yX6_gamePoints, Cond.static yX6_gamePoints, Cond.code yX6_gamePoints cX6_gamePoints 3 (some .int), Cond.methodLink RX6 350 Lib.Math.abs.name, Cond.static Lib.Math.abs.name, Cond.code Lib.Math.abs.name Lib.Math.abs.code 1 (some .int), Cond.methodLink RX6 347 yX6_basePoints, Cond.static yX6_basePoints, Cond.code yX6_basePoints cX6_basePoints 1 (some .int), Cond.methodLink RX6 322 yX6_isWon, Cond.static yX6_isWon, Cond.code yX6_isWon cX6_isWon 1 (some .boolean), Cond.methodLink RX6 316 yX6_pagatPoints, Cond.instanceMethod yX6_pagatPoints, Cond.selects RX6 yX6_pagatPoints yX6_pagatPoints, Cond.code yX6_pagatPoints cX6_pagatPoints 5 (some .int)]
def wsL_law0_r20 : List Cond := [Cond.methodLink RX6 331 yX5_playerOf, Cond.instanceMethod yX5_playerOf, Cond.selects RX5 yX5_playerOf yX5_playerOf, Cond.code yX5_playerOf cX5_playerOf 3 (some .int), Cond.methodLink RX6 319 yX6_kingPoints, Cond.instanceMethod yX6_kingPoints, Cond.selects RX6 yX6_kingPoints yX6_kingPoints, Cond.code yX6_kingPoints cX6_kingPoints 4 (some .int), Cond.methodLink RX6 325 yX4_enter, Cond.instanceMethod yX4_enter, Cond.selects RX4 yX4_enter yX4_enter, Cond.code yX4_enter cX4_enter 6 none, Cond.fieldLink RX4 27 "TarockHall$Sheet" "latest" "I", Cond.methodLink RX4 23 yX2_at, Cond.methodLink RX4 31 yX2_put, Cond.methodLink RX4 35 yX4_addScore, Cond.instanceMethod yX4_addScore, Cond.selects RX4 yX4_addScore yX4_addScore, Cond.code yX4_addScore cX4_addScore 2 none, Cond.methodLink RX6 328 yX4_giveRadli, Cond.instanceMethod yX4_giveRadli, Cond.selects RX4 yX4_giveRadli yX4_giveRadli, Cond.code yX4_giveRadli cX4_giveRadli 2 none, Cond.methodLink RL 142 yL_isPlayed]
def wsL_law0_r21 : List Cond := [Cond.static yL_isPlayed, Cond.code yL_isPlayed cL_isPlayed 16 (some .boolean), Cond.methodLink RL 87 yL_plays, Cond.static yL_plays, Cond.codeWith yL_plays cL_plays 3 (some .int) [(0, 5, 6, 13)], Cond.methodLink RL 21 yX6_play, Cond.instanceMethod yX6_play, Cond.selects RX6 yX6_play yX6_play, Cond.code yX6_play cX6_play 2 (some .int), Cond.methodLink RL 94 yL_wins, Cond.static yL_wins, Cond.code yL_wins cL_wins 9 (some .int), Cond.methodLink RL 146 yL_isScored, Cond.static yL_isScored, Cond.code yL_isScored cL_isScored 12 (some .boolean), Cond.methodLink RL 98 yX6_result, Cond.instanceMethod yX6_result, Cond.selects RX6 yX6_result yX6_result, Cond.code yX6_result cX6_result 1 (some .int)]
def wsL_law0 : List Cond := (wsL_law0_r1 ++ (wsL_law0_r2 ++ (wsL_law0_r3 ++ (wsL_law0_r4 ++ (wsL_law0_r5 ++ (wsL_law0_r6 ++ (wsL_law0_r7 ++ (wsL_law0_r8 ++ (wsL_law0_r9 ++ (wsL_law0_r10 ++ (wsL_law0_r11 ++ (wsL_law0_r12 ++ (wsL_law0_r13 ++ (wsL_law0_r14 ++ (wsL_law0_r15 ++ (wsL_law0_r16 ++ (wsL_law0_r17 ++ (wsL_law0_r18 ++ (wsL_law0_r19 ++ (wsL_law0_r20 ++ wsL_law0_r21)))))))))))))))))))) ++ wsX60 ++ wsX10 ++ wsX00 ++ wsX50 ++ wsX40 ++ wsX30 ++ wsX20 ++ ([] : List Cond)
def wsL_law : List Cond := wsL_law0 ++ (vx_atS RX6 130 "java/lang/IndexOutOfBoundsException" ["java/lang/RuntimeException", "java/lang/Exception"]).filter goodWord ++ (vx_atS RX6 76 "java/lang/IllegalArgumentException" ["java/lang/RuntimeException", "java/lang/Exception"]).filter goodWord ++ (vx_atS RX6 83 "java/lang/IllegalStateException" ["java/lang/RuntimeException", "java/lang/Exception"]).filter goodWord
abbrev vwCl : List vw_C := [(RX0, TX0, 3), (RX1, TX1, 1), (RX2, TX2, 1), (RX3, TX3, 1), (RX4, TX4, 3), (RX5, TX5, 3), (RX6, TX6, 18)]
end
section
def tk_strs : List (Nat × String) := [(74, "no such number of a deal"), (81, "the latest deal is not over"), (97, "no such level"), (99, "nobody bids now"), (104, "the level is not above the highest one"), (128, "no such suit"), (131, "no king is called now"), (143, "no such group"), (145, "nothing is taken of the talon now"), (175, "no such card"), (177, "nothing is laid away now"), (186, "the declarer cannot lay the card away"), (197, "no such bird"), (205, "birds are announced ahead of the first trick"), (210, "the bird is announced"), (212, "no king is called at this level"), (226, "the card cannot be played now"), (231, "no such number of cards"), (233, "nobody plays now"), (242, "no such player"), (244, "no such place in the talon"), (246, "there was no deal"), (251, "no such card in the trick"), (260, "no such side")]
/-! what a state of either side is: int fields by their numbers, long fields, int arrays, long arrays -/
abbrev tk_ST : Type := (Nat → Int32) × (Nat → Int64) × (Nat → Nat → Int32) × (Nat → Nat → Int64)
def tk_up {α : Type} (f : Nat → α) (k : Nat) (v : α) : Nat → α := fun j => bif Nat.beq j k then v else f j
def tk_I (S : tk_ST) (k : Nat) (v : Int32) : tk_ST := (tk_up S.1 k v, S.2.1, S.2.2.1, S.2.2.2)
def tk_L (S : tk_ST) (k : Nat) (v : Int64) : tk_ST := (S.1, tk_up S.2.1 k v, S.2.2.1, S.2.2.2)
def tk_A (S : tk_ST) (k : Nat) (v : Nat → Int32) : tk_ST := (S.1, S.2.1, tk_up S.2.2.1 k v, S.2.2.2)
def tk_B (S : tk_ST) (k : Nat) (v : Nat → Int64) : tk_ST := (S.1, S.2.1, S.2.2.1, tk_up S.2.2.2 k v)
/-! Java's own words over numbers -/
def tk_rem (x y : Int32) : Int32 := x - x / y * y
def tk_z (x : Int32) : Prop := x = 0 ∨ x = 1
/-! results that may be wanting -/
def tk_b1 {α β : Type} (x : Option α) (k : α → Option β) : Option β := match x with
  | none => none
  | some a => k a
def tk_b2 {α σ β : Type} (x : Option (α × σ)) (k : α → σ → Option β) : Option β := match x with
  | none => none
  | some a => k a.1 a.2
def tk_b3 {α σ τ β : Type} (x : Option (α × σ × τ)) (k : α → σ → τ → Option β) : Option β := match x with
  | none => none
  | some a => k a.1 a.2.1 a.2.2
theorem tk_b1s {α β : Type} {x : Option α} {k : α → Option β} {b : β} (h : tk_b1 x k = some b) : ∃ a, x = some a ∧ k a = some b := by
  cases x with
  | none => cases h
  | some a => exact ⟨a, rfl, h⟩
theorem tk_b2s {α σ β : Type} {x : Option (α × σ)} {k : α → σ → Option β} {b : β} (h : tk_b2 x k = some b) : ∃ a s, x = some (a, s) ∧ k a s = some b := by
  cases x with
  | none => cases h
  | some a => exact ⟨a.1, a.2, rfl, h⟩
theorem tk_b3s {α σ τ β : Type} {x : Option (α × σ × τ)} {k : α → σ → τ → Option β} {b : β} (h : tk_b3 x k = some b) : ∃ a s t, x = some (a, s, t) ∧ k a s t = some b := by
  cases x with
  | none => cases h
  | some a => exact ⟨a.1, a.2.1, a.2.2, rfl, h⟩
theorem tk_nm {α β : Type} {v y : α} {k : α → Option β} {r : Option β} (h : tk_b1 (some v) k = r) (e : y = v) : k y = r := by subst e; exact h
theorem tk_pos {c : Prop} {hd : Decidable c} {α : Type} {a b r : α} (h : (@ite α c hd a b) = r) (hc : c) : a = r := by rw [if_pos hc] at h; exact h
theorem tk_neg {c : Prop} {hd : Decidable c} {α : Type} {a b r : α} (h : (@ite α c hd a b) = r) (hc : ¬ c) : b = r := by rw [if_neg hc] at h; exact h
theorem tk_ok {c : Prop} {hd : Decidable c} {α : Type} {b : Option α} {r : α} (h : (@ite (Option α) c hd none b) = some r) : ¬ c ∧ b = some r := by
  by_cases hc : c
  · rw [if_pos hc] at h; cases h
  · rw [if_neg hc] at h; exact ⟨hc, h⟩
theorem tk_yes {c : Prop} {hd : Decidable c} {α : Type} {b : Option α} {r : α} (h : (@ite (Option α) c hd b none) = some r) : c ∧ b = some r := by
  by_cases hc : c
  · rw [if_pos hc] at h; exact ⟨hc, h⟩
  · rw [if_neg hc] at h; cases h
theorem tk_znar {ty : FieldType} (hty : ty = .boolean) {v : Int32} (h : v = 0 ∨ v = 1) : narrow ty (.int v) = .int v := by
  subst hty
  rcases h with rfl | rfl <;> rfl
theorem tk_zfit {v : Int32} (h : v = 0 ∨ v = 1) : fits .boolean (.int v) = true := by
  rcases h with rfl | rfl <;> rfl
/-! the environment: what the tables say, kept while the machine warms -/
def tk_tys (c : ClassId × ClassId × ClassId) : List (ClassId × FieldType) := [(c.1, .int), (c.2.1, .long)]
abbrev tk_n1 : Cond := .fieldLinkNest RX6 101 "TarockHall$Bidding" "highest" "I" "TarockHall"
abbrev tk_n2 : Cond := .fieldLinkNest RX6 202 "TarockHall$Trick" "size" "I" "TarockHall"
abbrev tk_n3 : Cond := .fieldLinkNest RX6 268 "TarockHall$Sheet" "scores" "LTarockHall$Row;" "TarockHall"
abbrev tk_n4 : Cond := .fieldLinkNest RX6 276 "TarockHall$Sheet" "radli" "LTarockHall$Row;" "TarockHall"
abbrev tk_n5 : Cond := .fieldLinkNest RX6 279 "TarockHall$Sheet" "latest" "I" "TarockHall"
abbrev tk_n6 : Cond := .fieldLinkNest RX6 294 "TarockHall$Bidding" "bidder" "I" "TarockHall"
abbrev tk_n7 : Cond := .methodLinkNest RX0 27 yX6_behind "TarockHall"
abbrev tk_n8 : Cond := .methodLinkNest RX1 32 yX6_only "TarockHall"
abbrev tk_n9 : Cond := .methodLinkNest RX5 35 yX6_suitOf "TarockHall"
abbrev tk_n10 : Cond := .methodLinkNest RX5 38 yX6_only "TarockHall"
abbrev tk_n11 : Cond := .castable "java/lang/IllegalArgumentException" "java/lang/IllegalArgumentException"
abbrev tk_n12 : Cond := .castable "java/lang/IllegalStateException" "java/lang/IllegalStateException"
abbrev tk_n13 : Cond := .castable "java/lang/IndexOutOfBoundsException" "java/lang/IndexOutOfBoundsException"
abbrev tk_n14 : Cond := .declares (Bundle.initS "java/lang/RuntimeException")
abbrev tk_n15 : Cond := .declares (Bundle.initS "java/lang/Exception")
abbrev tk_n16 : Cond := .declares (Bundle.initS Bundle.tN)
def tk_N (U : State) : Prop := va_Nw tk_n1 U ∧ va_Nw tk_n2 U ∧ va_Nw tk_n3 U ∧ va_Nw tk_n4 U ∧ va_Nw tk_n5 U ∧ va_Nw tk_n6 U ∧ va_Nw tk_n7 U ∧ va_Nw tk_n8 U ∧ va_Nw tk_n9 U ∧ va_Nw tk_n10 U ∧ va_Nw tk_n11 U ∧ va_Nw tk_n12 U ∧ va_Nw tk_n13 U ∧ va_Nw tk_n14 U ∧ va_Nw tk_n15 U ∧ va_Nw tk_n16 U
def tk_T (U : State) : Prop := ∀ q ∈ tk_strs, ∃ a, vk_R RX6 q.1 q.2 a U
def tk_E (G : va_G) (c : ClassId × ClassId × ClassId) (U : State) : Prop := va_K G vwCl (tk_tys c) U ∧ tk_N U ∧ tk_T U
theorem tk_N.warm {s U : State} (hW : s.WarmedH U.vm) (h : tk_N s) : tk_N U := by
  obtain ⟨h1, h2, h3, h4, h5, h6, h7, h8, h9, h10, h11, h12, h13, h14, h15, h16⟩ := h
  exact ⟨h1.warmF hW, h2.warmF hW, h3.warmF hW, h4.warmF hW, h5.warmF hW, h6.warmF hW, h7.warmM hW, h8.warmM hW, h9.warmM hW, h10.warmM hW, h11.warmC hW, h12.warmC hW, h13.warmC hW, h14.warmD hW, h15.warmD hW, h16.warmD hW⟩
theorem tk_E.warm {G : va_G} {c : ClassId × ClassId × ClassId} {s U : State} (hW : s.WarmedH U.vm) (h : tk_E G c s) : tk_E G c U :=
  ⟨va_K.moved hW.alike h.1, h.2.1.warm hW, fun q hq => by obtain ⟨a, ha⟩ := h.2.2 q hq; exact ⟨a, vk_R.warm hW ha⟩⟩
theorem tk_E.calling {G : va_G} {c : ClassId × ClassId × ClassId} {U : State} {g : JFrame} {mk : MethodId} {a : Array Value} (h : tk_E G c U) : tk_E G c (U.calling g mk a) :=
  tk_E.warm (s := U) (U := U.calling g mk a) (State.WarmedH.refl U) h
/-- the two statics that a thrown exception reads -/
def tk_Z (A : Nat → Prop) (U : State) (H : Heap) : Prop := vx_Zq Bundle.tN "UNASSIGNED_STACK" Bundle.steD A U H ∧ vx_Zq Bundle.tN "SUPPRESSED_SENTINEL" Bundle.listD A U H
theorem tk_Z.moved {A : Nat → Prop} {u U : State} {H : Heap} (hvm : u.vm.Alike U.vm) (h : tk_Z A u H) : tk_Z A U H := ⟨h.1.moved hvm, h.2.moved hvm⟩
theorem tk_Z.kept {A : Nat → Prop} {U : State} {H H1 : Heap} (h : tk_Z A U H) (hq : ∀ a : Nat, a < H.size → ¬ A a → H1[a]? = H[a]?) : tk_Z A U H1 := ⟨h.1.kept hq, h.2.kept hq⟩
theorem tk_Z.narrow {A B : Nat → Prop} {U : State} {H : Heap} (h : tk_Z A U H) (hAB : ∀ q, B q → A q) : tk_Z B U H := ⟨h.1.narrow hAB, h.2.narrow hAB⟩
/-! contracts: over a world of cells ws, which becomes ws' -/
def tk_pre (G : va_G) (c : ClassId × ClassId × ClassId) (ws : va_W) (sz : Nat) (U : State) : Prop := U.heap.size = sz ∧ va_P G vwCl ws U.heap ∧ tk_E G c U ∧ va_D (fun _ => True) ws
def tk_preX (G : va_G) (c : ClassId × ClassId × ClassId) (ws : va_W) (sz : Nat) (U : State) : Prop := tk_pre G c ws sz U ∧ tk_Z (va_A ws sz) U U.heap
def tk_post (G : va_G) (A : Nat → Prop) (ws' : va_W) (_ : Unit) (t : State) : Prop := va_P G vwCl ws' t.heap ∧ va_D A ws'
def tk_ex (k : Int32) : String := if k = 1 then "java/lang/IllegalArgumentException" else if k = 2 then "java/lang/IllegalStateException" else "java/lang/IndexOutOfBoundsException"
def tk_Mi (l : Launch) (y : MethodName) (w : List Cond) (rm : Room) (G : va_G) (c : ClassId × ClassId × ClassId) (av : List Value) (ws ws' : va_W) (r : Int32) : Prop :=
  ∀ sz : Nat, Met l y w rm (va_Pc av (tk_pre G c ws sz)) (va_Qi (fun (r1 : Int32) (_ : Unit) => r1 = r) (tk_post G (va_A ws sz) ws') (va_A ws sz)) 0 0 (va_A ws sz)
def tk_Ml (l : Launch) (y : MethodName) (w : List Cond) (rm : Room) (G : va_G) (c : ClassId × ClassId × ClassId) (av : List Value) (ws ws' : va_W) (r : Int64) : Prop :=
  ∀ sz : Nat, Met l y w rm (va_Pc av (tk_pre G c ws sz)) (va_Ql (fun (r1 : Int64) (_ : Unit) => r1 = r) (tk_post G (va_A ws sz) ws') (va_A ws sz)) 0 0 (va_A ws sz)
def tk_Mv (l : Launch) (y : MethodName) (w : List Cond) (rm : Room) (G : va_G) (c : ClassId × ClassId × ClassId) (av : List Value) (ws ws' : va_W) : Prop :=
  ∀ sz : Nat, Met l y w rm (va_Pc av (tk_pre G c ws sz)) (va_Qv (fun (_ : Unit) => True) (tk_post G (va_A ws sz) ws') (va_A ws sz)) 0 0 (va_A ws sz)
def tk_XC (G : va_G) (A : Nat → Prop) (ws' : va_W) (k : Int32) : String → State → State → Prop := vx_X (fun (_ : Unit) => k ≠ 0) (fun E u t => E = tk_ex k ∧ tk_post G A ws' u t) A
def tk_Xi (l : Launch) (y : MethodName) (w : List Cond) (rm : Room) (G : va_G) (c : ClassId × ClassId × ClassId) (av : List Value) (ws ws' : va_W) (k r : Int32) : Prop :=
  ∀ sz : Nat, vx_Met l y w rm (va_Pc av (tk_preX G c ws sz)) (va_Qi (fun (r1 : Int32) (_ : Unit) => k = 0 ∧ r1 = r) (tk_post G (va_A ws sz) ws') (va_A ws sz)) (tk_XC G (va_A ws sz) ws' k) 1 6 (va_A ws sz)
def tk_Xl (l : Launch) (y : MethodName) (w : List Cond) (rm : Room) (G : va_G) (c : ClassId × ClassId × ClassId) (av : List Value) (ws ws' : va_W) (k : Int32) (r : Int64) : Prop :=
  ∀ sz : Nat, vx_Met l y w rm (va_Pc av (tk_preX G c ws sz)) (va_Ql (fun (r1 : Int64) (_ : Unit) => k = 0 ∧ r1 = r) (tk_post G (va_A ws sz) ws') (va_A ws sz)) (tk_XC G (va_A ws sz) ws' k) 1 6 (va_A ws sz)
theorem tk_out (lo hi : Int) (x : Int32) (h : ∀ j : Int, lo ≤ j → j ≤ hi → ¬ x = Int32.ofInt j) : x.toInt < lo ∨ hi < x.toInt := by
  by_cases h1 : x.toInt < lo
  · exact Or.inl h1
  · by_cases h2 : hi < x.toInt
    · exact Or.inr h2
    · exact absurd (Int32.ofInt_toInt x).symm (h x.toInt (by omega) (by omega))
section TKC
variable {p : Program} {l : Launch} {e : Env} {R : Room} {s : State} {m : MethodId} {args : Array Value} {below : List Frame} {meth : Method} {c : Code} {H : Heap} {locs : List Loc} {cells slots : Nat} {Q : State → Prop}
variable {cc : ByteArray} {pc : Nat} {ls : Array Slot} {rest st0 : List Value} {a : Array Value} {A : Nat → Prop} {H0 : Heap} {G : va_G} {c3 : ClassId × ClassId × ClassId} {ws ws' : va_W}
theorem tk_free (hD : va_D A ws) (hS : va_S A H0 H locs) (hA : ∀ q, H0.size ≤ q → A q) : ∀ q, va_A ws H.size q → A q := by
  intro q h
  rcases h with ⟨k, e9, h⟩ | h
  · exact hD.2 k (q, e9) h
  · exact hA q (Nat.le_trans hS.1 h)
theorem tk_pV {ci : Nat} {fs : List Value} {r : vw_C} {b : Nat} {As : List Value} (hE : tk_E G c3 s) (hP : va_P G vwCl ws H) (hD : va_D A ws) (q0 : Nat) (he : ws[q0]? = some (b, .inr (ci, fs))) (hc : vwCl[ci]? = some r) :
    PreV s H r.1 b (va_Pc (.ref b :: As) (tk_pre G c3 ws H.size)) As := by
  refine ⟨fun a U g mk q => ?_, va_recv hE.1 hP hc he, fun U hU hW => ⟨rfl, by rw [hU], by rw [hU]; exact hP, hE.warm hW, hD.weaken (fun _ _ _ _ => trivial)⟩⟩
  obtain ⟨q0, q1, qP, qE, qD⟩ := q
  exact ⟨q0, q1, qP, qE.calling, qD⟩
theorem tk_pS {As : List Value} (hE : tk_E G c3 s) (hP : va_P G vwCl ws H) (hD : va_D A ws) : PreS s H (va_Pc As (tk_pre G c3 ws H.size)) As := by
  refine ⟨fun a U g mk q => ?_, fun U hU hW => ⟨rfl, by rw [hU], by rw [hU]; exact hP, hE.warm hW, hD.weaken (fun _ _ _ _ => trivial)⟩⟩
  obtain ⟨q0, q1, qP, qE, qD⟩ := q
  exact ⟨q0, q1, qP, qE.calling, qD⟩
theorem tk_ci {r : Int32} (hr : va_Run p l e R s m args below meth c H locs cells slots 0 0 (F0 m pc ls st0) rest (va_Qi (fun (r1 : Int32) (_ : Unit) => r1 = r) (tk_post G (va_A ws H.size) ws') (va_A ws H.size) a) (va_A ws H.size))
    (hD : va_D A ws) (hS : va_S A H0 H locs) (hA : ∀ q, H0.size ≤ q → A q)
    (kk : ∀ (H1 : Heap) (locs1 : List Loc), va_P G vwCl ws' H1 → va_D A ws' → va_S A H0 H1 locs1 → W p l e R s m args below meth c H1 locs1 cells slots Q (F0 m (pc + 3) ls (.int r :: rest))) : W p l e R s m args below meth c H locs cells slots Q (F0 m pc ls st0) := by
  have hF := tk_free hD hS hA
  refine va_calli hr hS (fun q _ h => hF q h) hF (fun r1 u t H1 locs1 ht hvm hw hB hz1 hk1 hS1 => ?_)
  subst hw
  obtain ⟨hP1, hD1⟩ := hB
  rw [ht] at hP1
  exact kk H1 locs1 hP1 (hD1.weaken (fun _ q _ h => hF q.1 h)) hS1
theorem tk_cl {r : Int64} (hr : va_Run p l e R s m args below meth c H locs cells slots 0 0 (F0 m pc ls st0) rest (va_Ql (fun (r1 : Int64) (_ : Unit) => r1 = r) (tk_post G (va_A ws H.size) ws') (va_A ws H.size) a) (va_A ws H.size))
    (hD : va_D A ws) (hS : va_S A H0 H locs) (hA : ∀ q, H0.size ≤ q → A q)
    (kk : ∀ (H1 : Heap) (locs1 : List Loc), va_P G vwCl ws' H1 → va_D A ws' → va_S A H0 H1 locs1 → W p l e R s m args below meth c H1 locs1 cells slots Q (F0 m (pc + 3) ls (.long r :: rest))) : W p l e R s m args below meth c H locs cells slots Q (F0 m pc ls st0) := by
  have hF := tk_free hD hS hA
  refine va_calll hr hS (fun q _ h => hF q h) hF (fun r1 u t H1 locs1 ht hvm hw hB hz1 hk1 hS1 => ?_)
  subst hw
  obtain ⟨hP1, hD1⟩ := hB
  rw [ht] at hP1
  exact kk H1 locs1 hP1 (hD1.weaken (fun _ q _ h => hF q.1 h)) hS1
theorem tk_cv (hr : va_Run p l e R s m args below meth c H locs cells slots 0 0 (F0 m pc ls st0) rest (va_Qv (fun (_ : Unit) => True) (tk_post G (va_A ws H.size) ws') (va_A ws H.size) a) (va_A ws H.size))
    (hD : va_D A ws) (hS : va_S A H0 H locs) (hA : ∀ q, H0.size ≤ q → A q)
    (kk : ∀ (H1 : Heap) (locs1 : List Loc), va_P G vwCl ws' H1 → va_D A ws' → va_S A H0 H1 locs1 → W p l e R s m args below meth c H1 locs1 cells slots Q (F0 m (pc + 3) ls rest)) : W p l e R s m args below meth c H locs cells slots Q (F0 m pc ls st0) := by
  have hF := tk_free hD hS hA
  refine va_callv hr hS (fun q _ h => hF q h) hF (fun u t H1 locs1 ht hvm hw hB hz1 hk1 hS1 => ?_)
  obtain ⟨hP1, hD1⟩ := hB
  rw [ht] at hP1
  exact kk H1 locs1 hP1 (hD1.weaken (fun _ q _ h => hF q.1 h)) hS1
/-! ends -/
theorem tk_ri {r r0 : Int32} {wr : va_W} (hQ : Q = MQ below (va_Qi (fun (r1 : Int32) (_ : Unit) => r1 = r0) (tk_post G A ws') A) args s 0 0 A) (e1 : r = r0) (e2 : wr = ws')
    (hx : p.tables.exec = Jvm.exec) (hb : c.code = cc) (hr : meth.sig.returnType = some .int) (hlocks : meth.locks = false) (hP : va_P G vwCl wr H) (hD : va_D A wr) (hS : va_S A s.heap H locs) (d : decode cc pc = .ok (.ireturn, 1)) :
    W p l e R s m args below meth c H locs 0 0 Q (F0 m pc ls [.int r]) := by
  subst hQ; subst e1; subst e2
  exact W.iret (v := r) hx hb hr (fun t ht hW => ⟨⟨r, (), rfl, rfl, by rw [ht]; exact hP, hD⟩, hS.F ht⟩) hS.2.2 d
theorem tk_rz {r r0 : Int32} {wr : va_W} (hQ : Q = MQ below (va_Qi (fun (r1 : Int32) (_ : Unit) => r1 = r0) (tk_post G A ws') A) args s 0 0 A) (e1 : r = r0) (e2 : wr = ws') (hz : r = 0 ∨ r = 1)
    (hx : p.tables.exec = Jvm.exec) (hb : c.code = cc) (hr : meth.sig.returnType = some .boolean) (hlocks : meth.locks = false) (hP : va_P G vwCl wr H) (hD : va_D A wr) (hS : va_S A s.heap H locs) (d : decode cc pc = .ok (.ireturn, 1)) :
    W p l e R s m args below meth c H locs 0 0 Q (F0 m pc ls [.int r]) := by
  subst hQ; subst e1; subst e2
  exact W.zret (v := r) hx hb hr (tk_znar rfl hz) (fun t ht hW => ⟨⟨r, (), rfl, rfl, by rw [ht]; exact hP, hD⟩, hS.F ht⟩) hS.2.2 d
theorem tk_rl {r r0 : Int64} {wr : va_W} (hQ : Q = MQ below (va_Ql (fun (r1 : Int64) (_ : Unit) => r1 = r0) (tk_post G A ws') A) args s 0 0 A) (e1 : r = r0) (e2 : wr = ws')
    (hx : p.tables.exec = Jvm.exec) (hb : c.code = cc) (hr : meth.sig.returnType = some .long) (hlocks : meth.locks = false) (hP : va_P G vwCl wr H) (hD : va_D A wr) (hS : va_S A s.heap H locs) (d : decode cc pc = .ok (.lreturn, 1)) :
    W p l e R s m args below meth c H locs 0 0 Q (F0 m pc ls [.long r]) := by
  subst hQ; subst e1; subst e2
  exact W.lret (v := r) hx hb hr (fun t ht hW => ⟨⟨r, (), rfl, rfl, by rw [ht]; exact hP, hD⟩, hS.F ht⟩) hS.2.2 d
theorem tk_rv {wr : va_W} (hQ : Q = MQ below (va_Qv (fun (_ : Unit) => True) (tk_post G A ws') A) args s 0 0 A) (e2 : wr = ws')
    (hx : p.tables.exec = Jvm.exec) (hb : c.code = cc) (hr : meth.sig.returnType = none) (hlocks : meth.locks = false) (hP : va_P G vwCl wr H) (hD : va_D A wr) (hS : va_S A s.heap H locs) (d : decode cc pc = .ok (.return_, 1)) :
    W p l e R s m args below meth c H locs 0 0 Q (F0 m pc ls []) := by
  subst hQ; subst e2
  exact W.vret hx hb hr (fun t ht hW => ⟨⟨(), rfl, trivial, by rw [ht]; exact hP, hD⟩, hS.F ht⟩) hS.2.2 d
/-! ends of methods that may throw -/
theorem tk_xri {r r0 k0 : Int32} {wr : va_W} (hQ : Q = vx_MQ below (va_Qi (fun (r1 : Int32) (_ : Unit) => k0 = 0 ∧ r1 = r0) (tk_post G A ws') A) (tk_XC G A ws' k0) args s 1 6 A) (e0 : 0 = k0) (e1 : r = r0) (e2 : wr = ws')
    (hx : p.tables.exec = Jvm.exec) (hb : c.code = cc) (hr : meth.sig.returnType = some .int) (hlocks : meth.locks = false) (hP : va_P G vwCl wr H) (hD : va_D A wr) (hS : va_S A s.heap H locs) (d : decode cc pc = .ok (.ireturn, 1)) :
    W p l e R s m args below meth c H locs 0 0 Q (F0 m pc ls [.int r]) := by
  subst hQ; subst e1; subst e2; subst e0
  refine vx_ret (W.widen (k := 1) (n := 6) (by decide) (by decide) ?_)
  exact W.iret (v := r) hx hb hr (fun t ht hW => ⟨⟨r, (), rfl, ⟨rfl, rfl⟩, by rw [ht]; exact hP, hD⟩, hS.F ht⟩) hS.2.2 d
theorem tk_xrz {r r0 k0 : Int32} {wr : va_W} (hQ : Q = vx_MQ below (va_Qi (fun (r1 : Int32) (_ : Unit) => k0 = 0 ∧ r1 = r0) (tk_post G A ws') A) (tk_XC G A ws' k0) args s 1 6 A) (e0 : 0 = k0) (e1 : r = r0) (e2 : wr = ws') (hz : r = 0 ∨ r = 1)
    (hx : p.tables.exec = Jvm.exec) (hb : c.code = cc) (hr : meth.sig.returnType = some .boolean) (hlocks : meth.locks = false) (hP : va_P G vwCl wr H) (hD : va_D A wr) (hS : va_S A s.heap H locs) (d : decode cc pc = .ok (.ireturn, 1)) :
    W p l e R s m args below meth c H locs 0 0 Q (F0 m pc ls [.int r]) := by
  subst hQ; subst e1; subst e2; subst e0
  refine vx_ret (W.widen (k := 1) (n := 6) (by decide) (by decide) ?_)
  exact W.zret (v := r) hx hb hr (tk_znar rfl hz) (fun t ht hW => ⟨⟨r, (), rfl, ⟨rfl, rfl⟩, by rw [ht]; exact hP, hD⟩, hS.F ht⟩) hS.2.2 d
theorem tk_xrl {k0 : Int32} {r r0 : Int64} {wr : va_W} (hQ : Q = vx_MQ below (va_Ql (fun (r1 : Int64) (_ : Unit) => k0 = 0 ∧ r1 = r0) (tk_post G A ws') A) (tk_XC G A ws' k0) args s 1 6 A) (e0 : 0 = k0) (e1 : r = r0) (e2 : wr = ws')
    (hx : p.tables.exec = Jvm.exec) (hb : c.code = cc) (hr : meth.sig.returnType = some .long) (hlocks : meth.locks = false) (hP : va_P G vwCl wr H) (hD : va_D A wr) (hS : va_S A s.heap H locs) (d : decode cc pc = .ok (.lreturn, 1)) :
    W p l e R s m args below meth c H locs 0 0 Q (F0 m pc ls [.long r]) := by
  subst hQ; subst e1; subst e2; subst e0
  refine vx_ret (W.widen (k := 1) (n := 6) (by decide) (by decide) ?_)
  exact W.lret (v := r) hx hb hr (fun t ht hW => ⟨⟨r, (), rfl, ⟨rfl, rfl⟩, by rw [ht]; exact hP, hD⟩, hS.F ht⟩) hS.2.2 d
/-- 'throw new E("text")' in a method of the hall, nothing made before -/
theorem tk_throw {Qc : Array Value → State → Outcome → State → Prop} {k0 kk0 : Int32} {wr : va_W} {cls text : String} {ik is ic : Nat} (hQ : Q = vx_MQ below Qc (tk_XC G A ws' k0) args s 1 6 A) (e0 : kk0 = k0) (hk0 : kk0 ≠ 0) (hcls0 : cls = tk_ex kk0) (e2 : wr = ws')
    (hl : l.stackTraces = false) (hx : p.tables.exec = Jvm.exec) (hb : c.code = cc) (hown : s.vm.findClass RX6 = some m.cls)
    (hfit : Bundle.fit cls = true) (hk : (Cond.classLink RX6 ik cls).before args s = true) (hini : (Cond.initialized cls).before args s = true) (hE : tk_E G c3 s) (hst : (is, text) ∈ tk_strs)
    (hat : ∀ w ∈ (vx_atS RX6 ic cls ["java/lang/RuntimeException", "java/lang/Exception"]).filter goodWord, w.before args s = true)
    (hng : ∀ w ∈ (vx_atS RX6 ic cls ["java/lang/RuntimeException", "java/lang/Exception"]).filter (fun w => !goodWord w), w ∈ [tk_n14, tk_n15, tk_n16, .castable cls cls]) (hca : va_Nw (.castable cls cls) s)
    (hgood : ∀ w ∈ Cond.classLink RX6 ik cls :: Cond.initialized cls :: vx_atS RX6 ic cls ["java/lang/RuntimeException", "java/lang/Exception"], vx_ot w = true)
    (hZ : tk_Z A s s.heap) (hP : va_P G vwCl wr H) (hD : va_D A wr) (hS : va_S A s.heap H locs) (hsize : ls.size = c.maxLocals)
    (d0 : decode cc pc = .ok (.new ik, 3)) (d3 : decode cc (pc + 3) = .ok (.dup, 1)) (d4 : decode cc (pc + 4) = .ok (.ldc is, 2)) (d6 : decode cc (pc + 6) = .ok (.invokespecial ic, 3)) (d9 : decode cc (pc + 9) = .ok (.athrow, 1))
    (hout : ∀ x ∈ c.exceptionTable.toList, False) (hRf : 5 < R.frames) (hRl : 90 ≤ R.locals) (hRc : 1 ≤ R.cells) (hRs : 6 ≤ R.slots) (hlocks : meth.locks = false) :
    W p l e R s m args below meth c H locs 0 0 Q (F0 m pc ls []) := by
  subst hQ; subst e2; subst e0
  obtain ⟨sa, hstr⟩ := hE.2.2 _ hst
  refine vx_throwS (names := ["java/lang/RuntimeException", "java/lang/Exception"]) (text := text) (sa := sa) hx hb hl hown hfit (by decide +kernel) hk hini hstr
    (vx_hat hat (B := [tk_n14, tk_n15, tk_n16, .castable cls cls]) hng (vx_c (va_Nw.use rfl hE.2.1.2.2.2.2.2.2.2.2.2.2.2.2.2.1) (vx_c (va_Nw.use rfl hE.2.1.2.2.2.2.2.2.2.2.2.2.2.2.2.2.1) (vx_c (va_Nw.use rfl hE.2.1.2.2.2.2.2.2.2.2.2.2.2.2.2.2.2) (vx_c (va_Nw.use rfl hca) vx_n))))) hgood hZ.1 hZ.2 hS hsize d0 d3 d4 d6 d9 (fun x hx => (hout x hx).elim)
    (by simpa using hRf) (by simpa using (Nat.le_trans (by decide) hRl)) (by simpa using hRc) (by simpa using hRs) hlocks (fun t hvm hz hq => ?_) hS.2.2 (by decide) (by decide)
  have hlt : ∀ (k : Nat) (q : Nat × va_E), wr[k]? = some q → q.1 < H.size := fun k q hq => (hP k q hq).lt
  refine ⟨(), hk0, ⟨hcls0, hP.kept (fun k q hk => hq q.1 (hlt k q hk)), hD⟩, Nat.le_trans hS.1 hz, fun q h1 h2 => ?_⟩
  rw [hq q (Nat.lt_of_lt_of_le h1 hS.1)]
  exact hS.2.1 q h1 h2
/-- 'throw new E("text")' in a method of the hall, the text by a wide index -/
theorem tk_throwW {Qc : Array Value → State → Outcome → State → Prop} {k0 kk0 : Int32} {wr : va_W} {cls text : String} {ik is ic : Nat} (hQ : Q = vx_MQ below Qc (tk_XC G A ws' k0) args s 1 6 A) (e0 : kk0 = k0) (hk0 : kk0 ≠ 0) (hcls0 : cls = tk_ex kk0) (e2 : wr = ws')
    (hl : l.stackTraces = false) (hx : p.tables.exec = Jvm.exec) (hb : c.code = cc) (hown : s.vm.findClass RX6 = some m.cls)
    (hfit : Bundle.fit cls = true) (hk : (Cond.classLink RX6 ik cls).before args s = true) (hini : (Cond.initialized cls).before args s = true) (hE : tk_E G c3 s) (hst : (is, text) ∈ tk_strs)
    (hat : ∀ w ∈ (vx_atS RX6 ic cls ["java/lang/RuntimeException", "java/lang/Exception"]).filter goodWord, w.before args s = true)
    (hng : ∀ w ∈ (vx_atS RX6 ic cls ["java/lang/RuntimeException", "java/lang/Exception"]).filter (fun w => !goodWord w), w ∈ [tk_n14, tk_n15, tk_n16, .castable cls cls]) (hca : va_Nw (.castable cls cls) s)
    (hgood : ∀ w ∈ Cond.classLink RX6 ik cls :: Cond.initialized cls :: vx_atS RX6 ic cls ["java/lang/RuntimeException", "java/lang/Exception"], vx_ot w = true)
    (hZ : tk_Z A s s.heap) (hP : va_P G vwCl wr H) (hD : va_D A wr) (hS : va_S A s.heap H locs) (hsize : ls.size = c.maxLocals)
    (d0 : decode cc pc = .ok (.new ik, 3)) (d3 : decode cc (pc + 3) = .ok (.dup, 1)) (d4 : decode cc (pc + 4) = .ok (.ldc_w is, 3)) (d6 : decode cc (pc + 7) = .ok (.invokespecial ic, 3)) (d9 : decode cc (pc + 10) = .ok (.athrow, 1))
    (hout : ∀ x ∈ c.exceptionTable.toList, False) (hRf : 5 < R.frames) (hRl : 90 ≤ R.locals) (hRc : 1 ≤ R.cells) (hRs : 6 ≤ R.slots) (hlocks : meth.locks = false) :
    W p l e R s m args below meth c H locs 0 0 Q (F0 m pc ls []) := by
  subst hQ; subst e2; subst e0
  obtain ⟨sa, hstr⟩ := hE.2.2 _ hst
  refine vx_throwSW (names := ["java/lang/RuntimeException", "java/lang/Exception"]) (text := text) (sa := sa) hx hb hl hown hfit (by decide +kernel) hk hini hstr
    (vx_hat hat (B := [tk_n14, tk_n15, tk_n16, .castable cls cls]) hng (vx_c (va_Nw.use rfl hE.2.1.2.2.2.2.2.2.2.2.2.2.2.2.2.1) (vx_c (va_Nw.use rfl hE.2.1.2.2.2.2.2.2.2.2.2.2.2.2.2.2.1) (vx_c (va_Nw.use rfl hE.2.1.2.2.2.2.2.2.2.2.2.2.2.2.2.2.2) (vx_c (va_Nw.use rfl hca) vx_n))))) hgood hZ.1 hZ.2 hS hsize d0 d3 d4 d6 d9 (fun x hx => (hout x hx).elim)
    (by simpa using hRf) (by simpa using (Nat.le_trans (by decide) hRl)) (by simpa using hRc) (by simpa using hRs) hlocks (fun t hvm hz hq => ?_) hS.2.2 (by decide) (by decide)
  have hlt : ∀ (k : Nat) (q : Nat × va_E), wr[k]? = some q → q.1 < H.size := fun k q hq => (hP k q hq).lt
  refine ⟨(), hk0, ⟨hcls0, hP.kept (fun k q hk => hq q.1 (hlt k q hk)), hD⟩, Nat.le_trans hS.1 hz, fun q h1 h2 => ?_⟩
  rw [hq q (Nat.lt_of_lt_of_le h1 hS.1)]
  exact hS.2.1 q h1 h2
theorem tk_irem (hx : p.tables.exec = Jvm.exec) (hb : c.code = cc) {x y : Int32} (hdg : decode cc pc = .ok (.irem, 1)) (hne : ¬ y = 0)
    (k : W p l e R s m args below meth c H locs cells slots Q (F0 m (pc + 1) ls (.int (tk_rem x y) :: rest))) : W p l e R s m args below meth c H locs cells slots Q (F0 m pc ls (.int y :: .int x :: rest)) := lv_irem hx hb hdg hne k
theorem tk_zast {D : va_G} {cl : List vw_C} {tys : List (ClassId × FieldType)} {b : Nat} (hexec : p.tables.exec = Jvm.exec) (hb : c.code = cc) (hK : va_K D cl tys s) (hP : va_P D cl ws H) (hD : va_D A ws) (hS : va_S A H0 H locs) (q0 t0 : Nat) {cA : ClassId} {n : Nat} {f : Nat → Int32} (ha : ws[q0]? = some (b, .inl (cA, n, .inl f))) (ht : tys[t0]? = some (cA, .boolean)) {i : Int32} {x v : Int32} (hv : vp_nar .boolean x = v) (hin : vp_in i n) (hdg : decode cc pc = .ok (.bastore, 1))
    (kk : ∀ (H1 : Heap) (locs1 : List Loc), va_P D cl (ws.set q0 (b, .inl (cA, n, .inl (upd f i.toNatClampNeg v)))) H1 → va_D A (ws.set q0 (b, .inl (cA, n, .inl (upd f i.toNatClampNeg v)))) → va_S A H0 H1 locs1 → W p l e R s m args below meth c H1 locs1 cells slots Q (F0 m (pc + 1) ls rest)) : W p l e R s m args below meth c H locs cells slots Q (F0 m pc ls (.int x :: .int i :: .ref b :: rest)) := by
  subst hv
  exact va_zast hexec hb hK hP hD hS q0 t0 ha ht hin hdg kk
end TKC
theorem tk_s1 {α : Type} {a b : α} (h : some a = some b) : a = b := Option.some.inj h
theorem tk_s2 {α β : Type} {a c : α} {b d : β} (h : some (a, b) = some (c, d)) : a = c ∧ b = d := by cases h; exact ⟨rfl, rfl⟩
theorem tk_s3 {α β γ : Type} {a c : α} {b d : β} {x y : γ} (h : some (a, b, x) = some (c, d, y)) : a = c ∧ b = d ∧ x = y := by cases h; exact ⟨rfl, rfl, rfl⟩
section TKO
variable {l : Launch} {y : MethodName} {ws ws' : List Cond} {rm : Room} {G : va_G} {c3 : ClassId × ClassId × ClassId} {av : List Value} {w0 w1 : va_W} {cc : ByteArray} {maxL : Nat} {ret : Option FieldType}
/-- what a body has at its start -/
abbrev tk_B0 (l : Launch) (ws : List Cond) (rm : Room) (y : MethodName) (G : va_G) (c3 : ClassId × ClassId × ClassId) (av : List Value) (w0 : va_W) (cc : ByteArray) (maxL : Nat) (ret : Option FieldType) (E : (c : Code) → (A : Nat → Prop) → (s : State) → Prop) (MQf : List Frame → State → (Nat → Prop) → State → Prop) : Prop :=
  ∀ (p : Program) (e : Env) (s : State) (m : MethodId) (below : List Frame) (meth : Method) (c : Code) (A : Nat → Prop) (Q : State → Prop) (ls : Array Slot) (H : Heap) (locs : List Loc), p.tables.exec = Jvm.exec → c.code = cc → c.maxLocals = maxL → meth.sig.returnType = ret → (∀ w ∈ ws, w.before av.toArray s = true) → s.vm.findClass y.cls = some m.cls → meth.locks = false → tk_E G c3 s → (∀ q : Nat, s.heap.size ≤ q → A q) → va_P G vwCl w0 H → va_D A w0 → va_S A s.heap H locs → E c A s → Q = MQf below s A → lv_has ls maxL (lv_args 0 av) → W p l e rm s m av.toArray below meth c H locs 0 0 Q (F0 m 0 ls [])
theorem tk_ofi {r0 : Int32} (hy : plainName y.cls = true) (hw : ws = Cond.code y cc maxL ret :: ws') (hn : (lg_sl av).length ≤ maxL)
    (body : tk_B0 l ws rm y G c3 av w0 cc maxL ret (fun _ _ _ => True) (fun below s A => MQ below (va_Qi (fun (r1 : Int32) (_ : Unit) => r1 = r0) (tk_post G A w1) A) av.toArray s 0 0 A)) : tk_Mi l y ws rm G c3 av w0 w1 r0 := by
  intro sz
  refine Met.ofW (cc := cc) (maxL := maxL) (ret := ret) hy hw ?_
  intro p e s m args below meth c s₁ B hml hv
  obtain ⟨rfl, hsz, hP, hE, hD0⟩ := hv
  subst hsz
  have hD := hD0.self (sz := s.heap.size)
  have hl := lv_entry av (n := maxL) hn
  rw [lg_entry_eq]
  exact body p e s m below meth c _ _ _ _ _ B.exec B.bytes hml B.returns (atoms_spec (ws := ws) B.pre) (findClass_of_methodNamed B.named) B.notSynchronized hE (fun q h => Or.inr h) hP hD va_S.rf trivial rfl hl
theorem tk_ofl {r0 : Int64} (hy : plainName y.cls = true) (hw : ws = Cond.code y cc maxL ret :: ws') (hn : (lg_sl av).length ≤ maxL)
    (body : tk_B0 l ws rm y G c3 av w0 cc maxL ret (fun _ _ _ => True) (fun below s A => MQ below (va_Ql (fun (r1 : Int64) (_ : Unit) => r1 = r0) (tk_post G A w1) A) av.toArray s 0 0 A)) : tk_Ml l y ws rm G c3 av w0 w1 r0 := by
  intro sz
  refine Met.ofW (cc := cc) (maxL := maxL) (ret := ret) hy hw ?_
  intro p e s m args below meth c s₁ B hml hv
  obtain ⟨rfl, hsz, hP, hE, hD0⟩ := hv
  subst hsz
  have hD := hD0.self (sz := s.heap.size)
  have hl := lv_entry av (n := maxL) hn
  rw [lg_entry_eq]
  exact body p e s m below meth c _ _ _ _ _ B.exec B.bytes hml B.returns (atoms_spec (ws := ws) B.pre) (findClass_of_methodNamed B.named) B.notSynchronized hE (fun q h => Or.inr h) hP hD va_S.rf trivial rfl hl
theorem tk_ofv (hy : plainName y.cls = true) (hw : ws = Cond.code y cc maxL ret :: ws') (hn : (lg_sl av).length ≤ maxL)
    (body : tk_B0 l ws rm y G c3 av w0 cc maxL ret (fun _ _ _ => True) (fun below s A => MQ below (va_Qv (fun (_ : Unit) => True) (tk_post G A w1) A) av.toArray s 0 0 A)) : tk_Mv l y ws rm G c3 av w0 w1 := by
  intro sz
  refine Met.ofW (cc := cc) (maxL := maxL) (ret := ret) hy hw ?_
  intro p e s m args below meth c s₁ B hml hv
  obtain ⟨rfl, hsz, hP, hE, hD0⟩ := hv
  subst hsz
  have hD := hD0.self (sz := s.heap.size)
  have hl := lv_entry av (n := maxL) hn
  rw [lg_entry_eq]
  exact body p e s m below meth c _ _ _ _ _ B.exec B.bytes hml B.returns (atoms_spec (ws := ws) B.pre) (findClass_of_methodNamed B.named) B.notSynchronized hE (fun q h => Or.inr h) hP hD va_S.rf trivial rfl hl
abbrev tk_EX (c : Code) (A : Nat → Prop) (s : State) : Prop := tk_Z A s s.heap ∧ ∀ x ∈ c.exceptionTable.toList, False
theorem tk_ofXi {k0 r0 : Int32} (hy : plainName y.cls = true) (hw : ws = Cond.code y cc maxL ret :: ws') (hn : (lg_sl av).length ≤ maxL)
    (body : tk_B0 l ws rm y G c3 av w0 cc maxL ret tk_EX (fun below s A => vx_MQ below (va_Qi (fun (r1 : Int32) (_ : Unit) => k0 = 0 ∧ r1 = r0) (tk_post G A w1) A) (tk_XC G A w1 k0) av.toArray s 1 6 A)) : tk_Xi l y ws rm G c3 av w0 w1 k0 r0 := by
  intro sz
  refine vx_ofW (cc := cc) (maxL := maxL) (ret := ret) hy hw ?_
  intro p e s m args below meth c s₁ B hml hout hv
  obtain ⟨rfl, ⟨hsz, hP, hE, hD0⟩, hZ⟩ := hv
  subst hsz
  have hD := hD0.self (sz := s.heap.size)
  have hl := lv_entry av (n := maxL) hn
  rw [lg_entry_eq]
  exact body p e s m below meth c _ _ _ _ _ B.exec B.bytes hml B.returns (atoms_spec (ws := ws) B.pre) (findClass_of_methodNamed B.named) B.notSynchronized hE (fun q h => Or.inr h) hP hD va_S.rf ⟨hZ, hout⟩ rfl hl
theorem tk_ofXl {k0 : Int32} {r0 : Int64} (hy : plainName y.cls = true) (hw : ws = Cond.code y cc maxL ret :: ws') (hn : (lg_sl av).length ≤ maxL)
    (body : tk_B0 l ws rm y G c3 av w0 cc maxL ret tk_EX (fun below s A => vx_MQ below (va_Ql (fun (r1 : Int64) (_ : Unit) => k0 = 0 ∧ r1 = r0) (tk_post G A w1) A) (tk_XC G A w1 k0) av.toArray s 1 6 A)) : tk_Xl l y ws rm G c3 av w0 w1 k0 r0 := by
  intro sz
  refine vx_ofW (cc := cc) (maxL := maxL) (ret := ret) hy hw ?_
  intro p e s m args below meth c s₁ B hml hout hv
  obtain ⟨rfl, ⟨hsz, hP, hE, hD0⟩, hZ⟩ := hv
  subst hsz
  have hD := hD0.self (sz := s.heap.size)
  have hl := lv_entry av (n := maxL) hn
  rw [lg_entry_eq]
  exact body p e s m below meth c _ _ _ _ _ B.exec B.bytes hml B.returns (atoms_spec (ws := ws) B.pre) (findClass_of_methodNamed B.named) B.notSynchronized hE (fun q h => Or.inr h) hP hD va_S.rf ⟨hZ, hout⟩ rfl hl
end TKO
end
section
def f_X6_behind (p0 : Int32) : Option Int32 := some (tk_rem (p0 + (1 : Int32)) (4 : Int32))
def f_X0_clear (S : tk_ST) : Option tk_ST := some (tk_I (tk_I (tk_I S 10 (0 : Int32)) 11 (0 : Int32)) 12 (-1 : Int32))
def f_X5_begin (p0 : Int32) (S : tk_ST) : Option tk_ST := some (tk_I (tk_I S 13 p0) 14 (0 : Int32))
def f_X3_put_p15 (p0 : Int32) (p1 : Int64) (S : tk_ST) : Option tk_ST := (if p0 < 0 then some S else (if (2 : Int32) ≤ p0 then some S else (if p0 < 0 ∨ 2 ≤ p0.toNatClampNeg then none else (tk_b1 (some (tk_B S 1 (vp_updL (S.2.2.2 1) p0.toNatClampNeg p1))) fun S4 => some S4))))
def f_X6_clearDeal (S : tk_ST) : Option tk_ST := (tk_b1 (f_X0_clear S) fun S3 => (tk_b1 (f_X5_begin (S3.1 0) S3) fun S6 => (tk_b1 (some (tk_I (tk_I (tk_I (tk_I (tk_I S6 3 (-1 : Int32)) 4 (-1 : Int32)) 5 (-1 : Int32)) 6 (-1 : Int32)) 7 (0 : Int32))) fun S7 => (tk_b1 (f_X3_put_p15 (0 : Int32) (0 : Int64) (tk_I (tk_I (tk_L S7 0 (0 : Int64)) 8 (0 : Int32)) 9 (0 : Int32))) fun S10 => (tk_b1 (f_X3_put_p15 (1 : Int32) (0 : Int64) S10) fun S13 => some S13)))))
def f_X2_put_p2 (p0 : Int32) (p1 : Int32) (S : tk_ST) : Option tk_ST := (if p0 < 0 then some S else (if (54 : Int32) ≤ p0 then some S else (if p0 < 0 ∨ 54 ≤ p0.toNatClampNeg then none else (tk_b1 (some (tk_A S 0 (upd (S.2.2.1 0) p0.toNatClampNeg p1))) fun S4 => some S4))))
def f_X2_at_p2 (p0 : Int32) (S : tk_ST) : Option Int32 := (if p0 < 0 then some (-1 : Int32) else (if (54 : Int32) ≤ p0 then some (-1 : Int32) else (if p0 < 0 ∨ 54 ≤ p0.toNatClampNeg then none else some ((S.2.2.1 0) p0.toNatClampNeg))))
def f_X1_swap (p0 : Int32) (p1 : Int32) (S : tk_ST) : Option tk_ST := (tk_b1 (f_X2_at_p2 p0 S) fun r1 => (tk_b1 (f_X2_at_p2 p1 S) fun r4 => (tk_b1 (f_X2_put_p2 p0 r4 S) fun S9 => (tk_b1 (f_X2_put_p2 p1 r1 S9) fun S12 => some S12))))
def f_X1_shuffle_28 : Nat → Int32 → Int32 → tk_ST → Option tk_ST
  | 0 => fun _ _ _ => none
  | n_28 + 1 => fun x2_28 x3_28 S_28 => (if x3_28 < (1 : Int32) then some S_28 else (tk_b1 (some (tk_rem (((25173 : Int32) * x2_28) + (13849 : Int32)) (65536 : Int32))) fun y2 => (if (x3_28 + (1 : Int32)) = 0 then none else (tk_b1 (f_X1_swap x3_28 (tk_rem y2 (x3_28 + (1 : Int32))) S_28) fun S6 => (f_X1_shuffle_28 n_28) y2 (x3_28 + (-1 : Int32)) S6))))
theorem f_X1_shuffle_28_s (n_28 : Nat) (x2_28 : Int32) (x3_28 : Int32) (S_28 : tk_ST) : f_X1_shuffle_28 (n_28 + 1) x2_28 x3_28 S_28 = (if x3_28 < (1 : Int32) then some S_28 else (tk_b1 (some (tk_rem (((25173 : Int32) * x2_28) + (13849 : Int32)) (65536 : Int32))) fun y2 => (if (x3_28 + (1 : Int32)) = 0 then none else (tk_b1 (f_X1_swap x3_28 (tk_rem y2 (x3_28 + (1 : Int32))) S_28) fun S6 => (f_X1_shuffle_28 n_28) y2 (x3_28 + (-1 : Int32)) S6)))) := rfl
def f_X1_shuffle_2 : Nat → Int32 → Int32 → tk_ST → Option tk_ST
  | 0 => fun _ _ _ => none
  | n_2 + 1 => fun x1_2 x2_2 S_2 => (if (54 : Int32) ≤ x2_2 then f_X1_shuffle_28 64 x1_2 (53 : Int32) S_2 else (tk_b1 (f_X2_put_p2 x2_2 x2_2 S_2) fun S10 => (f_X1_shuffle_2 n_2) x1_2 (x2_2 + (1 : Int32)) S10))
theorem f_X1_shuffle_2_s (n_2 : Nat) (x1_2 : Int32) (x2_2 : Int32) (S_2 : tk_ST) : f_X1_shuffle_2 (n_2 + 1) x1_2 x2_2 S_2 = (if (54 : Int32) ≤ x2_2 then f_X1_shuffle_28 64 x1_2 (53 : Int32) S_2 else (tk_b1 (f_X2_put_p2 x2_2 x2_2 S_2) fun S10 => (f_X1_shuffle_2 n_2) x1_2 (x2_2 + (1 : Int32)) S10)) := rfl
def f_X1_shuffle (p0 : Int32) (S : tk_ST) : Option tk_ST := f_X1_shuffle_2 64 p0 (0 : Int32) S
def f_X6_only (p0 : Int32) : Option Int64 := some ((1 : Int64) <<< (p0.toInt64 &&& 63))
def f_X1_cardsFrom_5 : Nat → Int32 → Int32 → Int64 → Int32 → tk_ST → Option Int64
  | 0 => fun _ _ _ _ _ => none
  | n_5 + 1 => fun x1_5 x2_5 x3_5 x5_5 S => (if x2_5 ≤ x5_5 then some x3_5 else (tk_b1 (f_X2_at_p2 (x1_5 + x5_5) S) fun r2 => (tk_b1 (f_X6_only r2) fun r5 => (f_X1_cardsFrom_5 n_5) x1_5 x2_5 (x3_5 ||| r5) (x5_5 + (1 : Int32)) S)))
theorem f_X1_cardsFrom_5_s (n_5 : Nat) (x1_5 : Int32) (x2_5 : Int32) (x3_5 : Int64) (x5_5 : Int32) (S : tk_ST) : f_X1_cardsFrom_5 (n_5 + 1) x1_5 x2_5 x3_5 x5_5 S = (if x2_5 ≤ x5_5 then some x3_5 else (tk_b1 (f_X2_at_p2 (x1_5 + x5_5) S) fun r2 => (tk_b1 (f_X6_only r2) fun r5 => (f_X1_cardsFrom_5 n_5) x1_5 x2_5 (x3_5 ||| r5) (x5_5 + (1 : Int32)) S))) := rfl
def f_X1_cardsFrom (p0 : Int32) (p1 : Int32) (S : tk_ST) : Option Int64 := f_X1_cardsFrom_5 64 p0 p1 (0 : Int64) (0 : Int32) S
def f_X3_put_p13 (p0 : Int32) (p1 : Int64) (S : tk_ST) : Option tk_ST := (if p0 < 0 then some S else (if (4 : Int32) ≤ p0 then some S else (if p0 < 0 ∨ 4 ≤ p0.toNatClampNeg then none else (tk_b1 (some (tk_B S 0 (vp_updL (S.2.2.2 0) p0.toNatClampNeg p1))) fun S4 => some S4))))
def f_X6_handOut_7 : Nat → Int32 → Int32 → tk_ST → Option tk_ST
  | 0 => fun _ _ _ => none
  | n_7 + 1 => fun x1_7 x2_7 S_7 => (if (4 : Int32) ≤ x2_7 then (tk_b1 (f_X1_cardsFrom (48 : Int32) (6 : Int32) S_7) fun r2 => some (tk_L S_7 1 r2)) else (tk_b1 (f_X1_cardsFrom (x2_7 * (12 : Int32)) (12 : Int32) S_7) fun r5 => (tk_b1 (f_X3_put_p13 x1_7 r5 S_7) fun S10 => (tk_b1 (f_X6_behind x1_7) fun r11 => (f_X6_handOut_7 n_7) r11 (x2_7 + (1 : Int32)) S10))))
theorem f_X6_handOut_7_s (n_7 : Nat) (x1_7 : Int32) (x2_7 : Int32) (S_7 : tk_ST) : f_X6_handOut_7 (n_7 + 1) x1_7 x2_7 S_7 = (if (4 : Int32) ≤ x2_7 then (tk_b1 (f_X1_cardsFrom (48 : Int32) (6 : Int32) S_7) fun r2 => some (tk_L S_7 1 r2)) else (tk_b1 (f_X1_cardsFrom (x2_7 * (12 : Int32)) (12 : Int32) S_7) fun r5 => (tk_b1 (f_X3_put_p13 x1_7 r5 S_7) fun S10 => (tk_b1 (f_X6_behind x1_7) fun r11 => (f_X6_handOut_7 n_7) r11 (x2_7 + (1 : Int32)) S10)))) := rfl
def f_X6_handOut (S : tk_ST) : Option tk_ST := f_X6_handOut_7 64 (S.1 0) (0 : Int32) S
def f_X6_deal_10 (S_10 : tk_ST) : Option (Int32 × Int32 × tk_ST) := some ((1 : Int32), (0 : Int32), S_10)
def f_X6_deal (p0 : Int32) (S : tk_ST) : Option (Int32 × Int32 × tk_ST) := (if p0 < 0 then f_X6_deal_10 S else (if p0 < (65536 : Int32) then (if (S.1 1) = 0 then (tk_b1 (f_X6_behind (S.1 0)) fun r4 => (tk_b1 (f_X6_clearDeal (tk_I S 0 r4)) fun S9 => (tk_b1 (f_X1_shuffle p0 S9) fun S12 => (tk_b1 (f_X6_handOut S12) fun S15 => some ((0 : Int32), (S15.1 0), (tk_I (tk_I S15 1 (1 : Int32)) 2 (S15.1 0))))))) else some ((2 : Int32), (0 : Int32), S)) else f_X6_deal_10 S))
def f_X0_enter (p0 : Int32) (p1 : Int32) (S : tk_ST) : Option tk_ST := (if p1 = 0 then some (tk_I S 10 ((S.1 10) ||| ((1 : Int32) <<< (p0 &&& 31)))) else some (tk_I (tk_I S 11 p1) 12 p0))
def f_J6_bitCount_0f7a4 (p0 : Int32) : Option Int32 := (tk_b1 (some (((p0 - ((((p0).toUInt32 >>> (((1 : Int32)).toUInt32 &&& Int32.toUInt32 31)).toInt32) &&& (1431655765 : Int32))) &&& (858993459 : Int32)) + (((((p0 - ((((p0).toUInt32 >>> (((1 : Int32)).toUInt32 &&& Int32.toUInt32 31)).toInt32) &&& (1431655765 : Int32)))).toUInt32 >>> (((2 : Int32)).toUInt32 &&& Int32.toUInt32 31)).toInt32) &&& (858993459 : Int32)))) fun y1 => (tk_b1 (some (((y1 + (((y1).toUInt32 >>> (((4 : Int32)).toUInt32 &&& Int32.toUInt32 31)).toInt32)) &&& (252645135 : Int32)) + (((((y1 + (((y1).toUInt32 >>> (((4 : Int32)).toUInt32 &&& Int32.toUInt32 31)).toInt32)) &&& (252645135 : Int32))).toUInt32 >>> (((8 : Int32)).toUInt32 &&& Int32.toUInt32 31)).toInt32))) fun y2 => some ((y2 + (((y2).toUInt32 >>> (((16 : Int32)).toUInt32 &&& Int32.toUInt32 31)).toInt32)) &&& (63 : Int32))))
def f_X0_allPassed (S : tk_ST) : Option Int32 := (tk_b1 (f_J6_bitCount_0f7a4 (S.1 10)) fun r1 => (if r1 = (4 : Int32) then some (1 : Int32) else some (0 : Int32)))
def f_X6_endDeal (S : tk_ST) : Option tk_ST := some (tk_I (tk_I S 1 (0 : Int32)) 2 (-1 : Int32))
def f_X0_isSettled (S : tk_ST) : Option Int32 := (if (S.1 12) = (-1 : Int32) then some (0 : Int32) else (tk_b1 (f_J6_bitCount_0f7a4 (S.1 10)) fun r2 => (if r2 = (3 : Int32) then some (1 : Int32) else some (0 : Int32))))
def f_X6_beginPlay (S : tk_ST) : Option tk_ST := (tk_b1 (f_X3_put_p15 (0 : Int32) (S.2.1 0) S) fun S3 => (tk_b1 (f_X3_put_p15 (1 : Int32) (S3.2.1 1) S3) fun S6 => some (tk_I (tk_I S6 1 (5 : Int32)) 2 (S6.1 0))))
def f_X6_beginGame (S : tk_ST) : Option tk_ST := (if (3 : Int32) < (S.1 11) then (if (4 : Int32) < (S.1 11) then (tk_b1 (f_X6_beginPlay (tk_I (tk_I S 3 (S.1 12)) 2 (S.1 12))) fun S5 => some S5) else some (tk_I (tk_I (tk_I S 3 (S.1 12)) 2 (S.1 12)) 1 (3 : Int32))) else some (tk_I (tk_I (tk_I S 3 (S.1 12)) 2 (S.1 12)) 1 (2 : Int32)))
def f_X0_hasPassed (p0 : Int32) (S : tk_ST) : Option Int32 := (if (((S.1 10) >>> (p0 &&& 31)) &&& (1 : Int32)) = (1 : Int32) then some (1 : Int32) else some (0 : Int32))
def f_X0_nextBehind_7 : Nat → Int32 → Int32 → tk_ST → Option Int32
  | 0 => fun _ _ _ => none
  | n_7 + 1 => fun x2_7 x3_7 S => (if (4 : Int32) ≤ x3_7 then some x2_7 else (tk_b1 (f_X0_hasPassed x2_7 S) fun r2 => (if r2 = 0 then some x2_7 else (tk_b1 (f_X6_behind x2_7) fun r6 => (f_X0_nextBehind_7 n_7) r6 (x3_7 + (1 : Int32)) S))))
theorem f_X0_nextBehind_7_s (n_7 : Nat) (x2_7 : Int32) (x3_7 : Int32) (S : tk_ST) : f_X0_nextBehind_7 (n_7 + 1) x2_7 x3_7 S = (if (4 : Int32) ≤ x3_7 then some x2_7 else (tk_b1 (f_X0_hasPassed x2_7 S) fun r2 => (if r2 = 0 then some x2_7 else (tk_b1 (f_X6_behind x2_7) fun r6 => (f_X0_nextBehind_7 n_7) r6 (x3_7 + (1 : Int32)) S)))) := rfl
def f_X0_nextBehind (p0 : Int32) (S : tk_ST) : Option Int32 := (tk_b1 (f_X6_behind p0) fun r9 => f_X0_nextBehind_7 64 r9 (1 : Int32) S)
def f_X6_bid_9 (S_9 : tk_ST) : Option (Int32 × Int32 × tk_ST) := some ((1 : Int32), (0 : Int32), S_9)
def f_X6_bid_62 (x1_62 : Int32) (S_62 : tk_ST) : Option (Int32 × Int32 × tk_ST) := (tk_b1 (f_X0_enter (S_62.1 2) x1_62 S_62) fun S3 => (tk_b1 (f_X0_allPassed S3) fun r4 => (if r4 = 0 then (tk_b1 (f_X0_isSettled S3) fun r8 => (if r8 = 0 then (tk_b1 (f_X0_nextBehind (S3.1 2) S3) fun r12 => some ((0 : Int32), (S3.1 1), (tk_I S3 2 r12))) else (tk_b1 (f_X6_beginGame S3) fun S17 => some ((0 : Int32), (S17.1 1), S17)))) else (tk_b1 (f_X6_endDeal S3) fun S20 => some ((0 : Int32), (S20.1 1), S20)))))
def f_X6_bid (p0 : Int32) (S : tk_ST) : Option (Int32 × Int32 × tk_ST) := (if p0 < 0 then f_X6_bid_9 S else (if p0 ≤ (5 : Int32) then (if (S.1 1) = (1 : Int32) then (if p0 ≤ 0 then f_X6_bid_62 p0 S else (if (S.1 11) < p0 then f_X6_bid_62 p0 S else some ((2 : Int32), (0 : Int32), S))) else some ((2 : Int32), (0 : Int32), S)) else f_X6_bid_9 S))
def f_X6_calledKing (S : tk_ST) : Option Int32 := some (((8 : Int32) * (S.1 4)) + (7 : Int32))
def f_X3_at_p13 (p0 : Int32) (S : tk_ST) : Option Int64 := (if p0 < 0 then some (0 : Int64) else (if (4 : Int32) ≤ p0 then some (0 : Int64) else (if p0 < 0 ∨ 4 ≤ p0.toNatClampNeg then none else some ((S.2.2.2 0) p0.toNatClampNeg))))
def f_X6_holds (p0 : Int64) (p1 : Int32) : Option Int32 := (if (lg_cmp ((p0 >>> (p1.toInt64 &&& 63)) &&& (1 : Int64)) (1 : Int64)) = 0 then some (1 : Int32) else some (0 : Int32))
def f_X6_ownerOf_2 : Nat → Int32 → Int32 → tk_ST → Option Int32
  | 0 => fun _ _ _ => none
  | n_2 + 1 => fun x1_2 x2_2 S => (if (4 : Int32) ≤ x2_2 then some (-1 : Int32) else (tk_b1 (f_X3_at_p13 x2_2 S) fun r2 => (tk_b1 (f_X6_holds r2 x1_2) fun r5 => (if r5 = 0 then (f_X6_ownerOf_2 n_2) x1_2 (x2_2 + (1 : Int32)) S else some x2_2))))
theorem f_X6_ownerOf_2_s (n_2 : Nat) (x1_2 : Int32) (x2_2 : Int32) (S : tk_ST) : f_X6_ownerOf_2 (n_2 + 1) x1_2 x2_2 S = (if (4 : Int32) ≤ x2_2 then some (-1 : Int32) else (tk_b1 (f_X3_at_p13 x2_2 S) fun r2 => (tk_b1 (f_X6_holds r2 x1_2) fun r5 => (if r5 = 0 then (f_X6_ownerOf_2 n_2) x1_2 (x2_2 + (1 : Int32)) S else some x2_2)))) := rfl
def f_X6_ownerOf (p0 : Int32) (S : tk_ST) : Option Int32 := f_X6_ownerOf_2 64 p0 (0 : Int32) S
def f_X6_call_9 (S_9 : tk_ST) : Option (Int32 × Int32 × tk_ST) := some ((3 : Int32), (0 : Int32), S_9)
def f_X6_call_74 (k1_74 : Int32) (S_74 : tk_ST) : Option (Int32 × Int32 × tk_ST) := some ((0 : Int32), (3 : Int32), (tk_I (tk_I S_74 6 k1_74) 1 (3 : Int32)))
def f_X6_call (p0 : Int32) (S : tk_ST) : Option (Int32 × Int32 × tk_ST) := (if p0 < 0 then f_X6_call_9 S else (if p0 < (4 : Int32) then (if (S.1 1) = (2 : Int32) then (tk_b1 (f_X6_calledKing (tk_I S 4 p0)) fun r4 => (tk_b1 (f_X6_ownerOf r4 (tk_I S 4 p0)) fun r7 => (if r7 = (S.1 3) then f_X6_call_74 (-1 : Int32) (tk_I (tk_I S 4 p0) 5 r7) else f_X6_call_74 r7 (tk_I (tk_I S 4 p0) 5 r7)))) else some ((2 : Int32), (0 : Int32), S)) else f_X6_call_9 S))
def f_X6_groupsAt (p0 : Int32) : Option Int32 := (if (3 : Int32) ≤ p0 then some (6 : Int32) else some (p0 + (1 : Int32)))
def f_X6_groupsNow (S : tk_ST) : Option Int32 := (if (S.1 1) = (3 : Int32) then (tk_b1 (f_X6_groupsAt (S.1 11)) fun r2 => some r2) else some (6 : Int32))
def f_X6_groupSize (p0 : Int32) : Option Int32 := (if (3 : Int32) ≤ p0 then some (1 : Int32) else some ((4 : Int32) - p0))
def f_X6_take_12 (S_12 : tk_ST) : Option (Int32 × Int32 × tk_ST) := some ((3 : Int32), (0 : Int32), S_12)
def f_X6_take (p0 : Int32) (S : tk_ST) : Option (Int32 × Int32 × tk_ST) := (if p0 < 0 then f_X6_take_12 S else (tk_b1 (f_X6_groupsNow S) fun r2 => (if p0 < r2 then (if (S.1 1) = (3 : Int32) then (tk_b1 (f_X6_groupSize (S.1 11)) fun r7 => (tk_b1 (f_X1_cardsFrom ((48 : Int32) + (p0 * r7)) r7 S) fun r10 => (tk_b1 (f_X3_at_p13 (S.1 3) S) fun r13 => (tk_b1 (f_X3_put_p13 (S.1 3) (r13 ||| r10) S) fun S18 => some ((0 : Int32), r7, (tk_I (tk_I (tk_L S18 1 ((S18.2.1 1) &&& (r10 ^^^ (-1 : Int64)))) 7 r7) 1 (4 : Int32))))))) else some ((2 : Int32), (0 : Int32), S)) else f_X6_take_12 S)))
def f_X6_isCard (p0 : Int32) : Option Int32 := (if p0 < 0 then some (0 : Int32) else (if (54 : Int32) ≤ p0 then some (0 : Int32) else some (1 : Int32)))
def f_X6_suitOf (p0 : Int32) : Option Int32 := (if (32 : Int32) ≤ p0 then some (4 : Int32) else some (p0 / (8 : Int32)))
def f_X6_worth_20 : Option Int32 := some (5 : Int32)
def f_X6_worth (p0 : Int32) : Option Int32 := (tk_b1 (f_X6_suitOf p0) fun r1 => (if r1 = (4 : Int32) then (if p0 = (32 : Int32) then f_X6_worth_20 else (if p0 < (52 : Int32) then some (1 : Int32) else f_X6_worth_20)) else (if (tk_rem p0 (8 : Int32)) ≤ (3 : Int32) then some (1 : Int32) else some ((tk_rem p0 (8 : Int32)) - (2 : Int32)))))
def f_X6_canBeLaidAway (p0 : Int32) : Option Int32 := (tk_b1 (f_X6_worth p0) fun r1 => (if (5 : Int32) ≤ r1 then some (0 : Int32) else some (1 : Int32)))
def f_X6_discard_62 (S_62 : tk_ST) : Option (Int32 × Int32 × tk_ST) := some ((2 : Int32), (0 : Int32), S_62)
def f_X6_discard (p0 : Int32) (S : tk_ST) : Option (Int32 × Int32 × tk_ST) := (tk_b1 (f_X6_isCard p0) fun r1 => (if r1 = 0 then some ((3 : Int32), (0 : Int32), S) else (if (S.1 1) = (4 : Int32) then (tk_b1 (f_X3_at_p13 (S.1 3) S) fun r6 => (tk_b1 (f_X6_holds r6 p0) fun r9 => (if r9 = 0 then f_X6_discard_62 S else (tk_b1 (f_X6_canBeLaidAway p0) fun r13 => (if r13 = 0 then f_X6_discard_62 S else (tk_b1 (f_X6_only p0) fun r17 => (tk_b1 (f_X3_put_p13 (S.1 3) (r6 &&& (r17 ^^^ (-1 : Int64))) S) fun S22 => (tk_b1 (f_X6_only p0) fun r23 => (if ((S22.1 7) - (1 : Int32)) = 0 then (tk_b1 (f_X6_beginPlay (tk_I (tk_L S22 0 ((S22.2.1 0) ||| r23)) 7 ((S22.1 7) - (1 : Int32)))) fun S29 => some ((0 : Int32), (S29.1 7), S29)) else some ((0 : Int32), ((S22.1 7) - (1 : Int32)), (tk_I (tk_L S22 0 ((S22.2.1 0) ||| r23)) 7 ((S22.1 7) - (1 : Int32))))))))))))) else some ((2 : Int32), (0 : Int32), S))))
def f_X6_isAnnounced (p0 : Int32) (S : tk_ST) : Option Int32 := (if (((S.1 8) >>> (p0 &&& 31)) &&& (1 : Int32)) = (1 : Int32) then some (1 : Int32) else some (0 : Int32))
def f_X6_announce_9 (S_9 : tk_ST) : Option (Int32 × Int32 × tk_ST) := some ((3 : Int32), (0 : Int32), S_9)
def f_X6_announce_44 (S_44 : tk_ST) : Option (Int32 × Int32 × tk_ST) := some ((2 : Int32), (0 : Int32), S_44)
def f_X6_announce_98 (x1_98 : Int32) (S_98 : tk_ST) : Option (Int32 × Int32 × tk_ST) := (tk_b1 (f_J6_bitCount_0f7a4 ((S_98.1 8) ||| ((1 : Int32) <<< (x1_98 &&& 31)))) fun r1 => some ((0 : Int32), r1, (tk_I S_98 8 ((S_98.1 8) ||| ((1 : Int32) <<< (x1_98 &&& 31))))))
def f_X6_announce (p0 : Int32) (S : tk_ST) : Option (Int32 × Int32 × tk_ST) := (if p0 < 0 then f_X6_announce_9 S else (if p0 < (2 : Int32) then (if (S.1 1) = (5 : Int32) then (if 0 < (S.1 9) then f_X6_announce_44 S else (if (S.1 14) ≤ 0 then (tk_b1 (f_X6_isAnnounced p0 S) fun r9 => (if r9 = 0 then (if p0 = (1 : Int32) then (if (S.1 11) ≤ (3 : Int32) then f_X6_announce_98 p0 S else some ((2 : Int32), (0 : Int32), S)) else f_X6_announce_98 p0 S) else some ((2 : Int32), (0 : Int32), S))) else f_X6_announce_44 S)) else f_X6_announce_44 S) else f_X6_announce_9 S))
def f_X2_at_p6 (p0 : Int32) (S : tk_ST) : Option Int32 := (if p0 < 0 then some (-1 : Int32) else (if (4 : Int32) ≤ p0 then some (-1 : Int32) else (if p0 < 0 ∨ 4 ≤ p0.toNatClampNeg then none else some ((S.2.2.1 1) p0.toNatClampNeg))))
def f_X5_ledSuit (S : tk_ST) : Option Int32 := (if (S.1 14) ≤ 0 then some (-1 : Int32) else (tk_b1 (f_X2_at_p6 (0 : Int32) S) fun r2 => (tk_b1 (f_X6_suitOf r2) fun r5 => some r5)))
def f_X6_cardsOfSuit_19 (x0_19 : Int64) (k0_19 : Int64) : Option Int64 := some (x0_19 &&& k0_19)
def f_X6_cardsOfSuit (p0 : Int64) (p1 : Int32) : Option Int64 := (if p1 = (4 : Int32) then f_X6_cardsOfSuit_19 p0 (-4294967296 : Int64) else f_X6_cardsOfSuit_19 p0 ((255 : Int64) <<< (((8 : Int32) * p1).toInt64 &&& 63)))
def f_X6_playableOf (p0 : Int64) (p1 : Int32) : Option Int64 := (if p1 = (-1 : Int32) then some p0 else (tk_b1 (f_X6_cardsOfSuit p0 p1) fun r2 => (if (lg_cmp r2 (0 : Int64)) = 0 then (tk_b1 (f_X6_cardsOfSuit p0 (4 : Int32)) fun r6 => (if (lg_cmp r6 (0 : Int64)) = 0 then some p0 else some r6)) else some r2)))
def f_X6_playableNow (S : tk_ST) : Option Int64 := (if (S.1 1) = (5 : Int32) then (tk_b1 (f_X3_at_p13 (S.1 2) S) fun r2 => (tk_b1 (f_X5_ledSuit S) fun r5 => (tk_b1 (f_X6_playableOf r2 r5) fun r8 => some r8))) else some (0 : Int64))
def f_X2_put_p6 (p0 : Int32) (p1 : Int32) (S : tk_ST) : Option tk_ST := (if p0 < 0 then some S else (if (4 : Int32) ≤ p0 then some S else (if p0 < 0 ∨ 4 ≤ p0.toNatClampNeg then none else (tk_b1 (some (tk_A S 1 (upd (S.2.2.1 1) p0.toNatClampNeg p1))) fun S4 => some S4))))
def f_X5_add (p0 : Int32) (S : tk_ST) : Option tk_ST := (tk_b1 (f_X2_put_p6 (S.1 14) p0 S) fun S3 => some (tk_I S3 14 ((S3.1 14) + (1 : Int32))))
def f_X5_beats_16 (x0_16 : Int32) (x1_16 : Int32) (k0_16 : Int32) : Option Int32 := (if k0_16 = 0 then (tk_b1 (f_X6_suitOf x0_16) fun r2 => (if r2 = (4 : Int32) then some (1 : Int32) else some (0 : Int32))) else (if x0_16 ≤ x1_16 then some (0 : Int32) else some (1 : Int32)))
def f_X5_beats (p0 : Int32) (p1 : Int32) : Option Int32 := (tk_b1 (f_X6_suitOf p0) fun r7 => (tk_b1 (f_X6_suitOf p1) fun r10 => (if r7 = r10 then f_X5_beats_16 p0 p1 (1 : Int32) else f_X5_beats_16 p0 p1 (0 : Int32))))
def f_X5_playerAt (p0 : Int32) (S : tk_ST) : Option Int32 := some (tk_rem ((S.1 13) + p0) (4 : Int32))
def f_X5_winner_36 (k_4 : Int32 → Int32 → tk_ST → Option Int32) (x1_36 : Int32) (x2_36 : Int32) (S : tk_ST) : Option Int32 := k_4 x1_36 (x2_36 + (1 : Int32)) S
def f_X5_winner_4 : Nat → Int32 → Int32 → tk_ST → Option Int32
  | 0 => fun _ _ _ => none
  | n_4 + 1 => fun x1_4 x2_4 S => (if (S.1 14) ≤ x2_4 then (tk_b1 (f_X5_playerAt x1_4 S) fun r2 => some r2) else (tk_b1 (f_X2_at_p6 x2_4 S) fun r5 => (tk_b1 (f_X2_at_p6 x1_4 S) fun r8 => (tk_b1 (f_X5_beats r5 r8) fun r11 => (if r11 = 0 then f_X5_winner_36 (f_X5_winner_4 n_4) x1_4 x2_4 S else f_X5_winner_36 (f_X5_winner_4 n_4) x2_4 x2_4 S)))))
theorem f_X5_winner_4_s (n_4 : Nat) (x1_4 : Int32) (x2_4 : Int32) (S : tk_ST) : f_X5_winner_4 (n_4 + 1) x1_4 x2_4 S = (if (S.1 14) ≤ x2_4 then (tk_b1 (f_X5_playerAt x1_4 S) fun r2 => some r2) else (tk_b1 (f_X2_at_p6 x2_4 S) fun r5 => (tk_b1 (f_X2_at_p6 x1_4 S) fun r8 => (tk_b1 (f_X5_beats r5 r8) fun r11 => (if r11 = 0 then f_X5_winner_36 (f_X5_winner_4 n_4) x1_4 x2_4 S else f_X5_winner_36 (f_X5_winner_4 n_4) x2_4 x2_4 S))))) := rfl
def f_X5_winner (S : tk_ST) : Option Int32 := f_X5_winner_4 64 (0 : Int32) (1 : Int32) S
def f_X6_sideOf_16 (S : tk_ST) : Option Int32 := some (0 : Int32)
def f_X6_sideOf (p0 : Int32) (S : tk_ST) : Option Int32 := (if p0 = (S.1 3) then f_X6_sideOf_16 S else (if p0 = (S.1 6) then f_X6_sideOf_16 S else some (1 : Int32)))
def f_X3_at_p15 (p0 : Int32) (S : tk_ST) : Option Int64 := (if p0 < 0 then some (0 : Int64) else (if (2 : Int32) ≤ p0 then some (0 : Int64) else (if p0 < 0 ∨ 2 ≤ p0.toNatClampNeg then none else some ((S.2.2.2 1) p0.toNatClampNeg))))
def f_X5_cardSet_4 : Nat → Int64 → Int32 → tk_ST → Option Int64
  | 0 => fun _ _ _ => none
  | n_4 + 1 => fun x1_4 x3_4 S => (if (S.1 14) ≤ x3_4 then some x1_4 else (tk_b1 (f_X2_at_p6 x3_4 S) fun r2 => (tk_b1 (f_X6_only r2) fun r5 => (f_X5_cardSet_4 n_4) (x1_4 ||| r5) (x3_4 + (1 : Int32)) S)))
theorem f_X5_cardSet_4_s (n_4 : Nat) (x1_4 : Int64) (x3_4 : Int32) (S : tk_ST) : f_X5_cardSet_4 (n_4 + 1) x1_4 x3_4 S = (if (S.1 14) ≤ x3_4 then some x1_4 else (tk_b1 (f_X2_at_p6 x3_4 S) fun r2 => (tk_b1 (f_X6_only r2) fun r5 => (f_X5_cardSet_4 n_4) (x1_4 ||| r5) (x3_4 + (1 : Int32)) S))) := rfl
def f_X5_cardSet (S : tk_ST) : Option Int64 := f_X5_cardSet_4 64 (0 : Int64) (0 : Int32) S
def f_X6_thirdsOf_29 (k_4 : Int64 → Int32 → Int32 → Option Int32) (x0_29 : Int64) (x2_29 : Int32) (x3_29 : Int32) : Option Int32 := k_4 x0_29 x2_29 (x3_29 + (1 : Int32))
def f_X6_thirdsOf_4 : Nat → Int64 → Int32 → Int32 → Option Int32
  | 0 => fun _ _ _ => none
  | n_4 + 1 => fun x0_4 x2_4 x3_4 => (if (54 : Int32) ≤ x3_4 then some x2_4 else (tk_b1 (f_X6_holds x0_4 x3_4) fun r2 => (if r2 = 0 then f_X6_thirdsOf_29 (f_X6_thirdsOf_4 n_4) x0_4 x2_4 x3_4 else (tk_b1 (f_X6_worth x3_4) fun r6 => f_X6_thirdsOf_29 (f_X6_thirdsOf_4 n_4) x0_4 (x2_4 + (((3 : Int32) * r6) - (2 : Int32))) x3_4))))
theorem f_X6_thirdsOf_4_s (n_4 : Nat) (x0_4 : Int64) (x2_4 : Int32) (x3_4 : Int32) : f_X6_thirdsOf_4 (n_4 + 1) x0_4 x2_4 x3_4 = (if (54 : Int32) ≤ x3_4 then some x2_4 else (tk_b1 (f_X6_holds x0_4 x3_4) fun r2 => (if r2 = 0 then f_X6_thirdsOf_29 (f_X6_thirdsOf_4 n_4) x0_4 x2_4 x3_4 else (tk_b1 (f_X6_worth x3_4) fun r6 => f_X6_thirdsOf_29 (f_X6_thirdsOf_4 n_4) x0_4 (x2_4 + (((3 : Int32) * r6) - (2 : Int32))) x3_4)))) := rfl
def f_X6_thirdsOf (p0 : Int64) : Option Int32 := f_X6_thirdsOf_4 64 p0 (0 : Int32) (0 : Int32)
def f_X6_basePoints (p0 : Int32) : Option Int32 := (if p0 = (1 : Int32) then some (10 : Int32) else (if p0 = (2 : Int32) then some (20 : Int32) else (if p0 = (3 : Int32) then some (30 : Int32) else (if p0 = (4 : Int32) then some (50 : Int32) else some (80 : Int32)))))
def f_X6_isWon (p0 : Int32) : Option Int32 := (if p0 ≤ (105 : Int32) then some (0 : Int32) else some (1 : Int32))
def f_X6_gamePoints_22 (x1_22 : Int32) (x2_22 : Int32) : Option Int32 := (tk_b1 (f_X6_isWon x1_22) fun r1 => (if r1 = 0 then some (-x2_22) else some x2_22))
def f_X6_gamePoints (p0 : Int32) (p1 : Int32) : Option Int32 := (tk_b1 (f_X6_basePoints p0) fun r5 => (if (4 : Int32) < p0 then f_X6_gamePoints_22 p1 r5 else f_X6_gamePoints_22 p1 (r5 + ((if 0 ≤ (p1 - (105 : Int32)) then (p1 - (105 : Int32)) else 0 - (p1 - (105 : Int32))) / (3 : Int32)))))
def f_X5_playerOf_2 : Nat → Int32 → Int32 → tk_ST → Option Int32
  | 0 => fun _ _ _ => none
  | n_2 + 1 => fun x1_2 x2_2 S => (if (S.1 14) ≤ x2_2 then some (-1 : Int32) else (tk_b1 (f_X2_at_p6 x2_2 S) fun r2 => (if r2 = x1_2 then (tk_b1 (f_X5_playerAt x2_2 S) fun r6 => some r6) else (f_X5_playerOf_2 n_2) x1_2 (x2_2 + (1 : Int32)) S)))
theorem f_X5_playerOf_2_s (n_2 : Nat) (x1_2 : Int32) (x2_2 : Int32) (S : tk_ST) : f_X5_playerOf_2 (n_2 + 1) x1_2 x2_2 S = (if (S.1 14) ≤ x2_2 then some (-1 : Int32) else (tk_b1 (f_X2_at_p6 x2_2 S) fun r2 => (if r2 = x1_2 then (tk_b1 (f_X5_playerAt x2_2 S) fun r6 => some r6) else (f_X5_playerOf_2 n_2) x1_2 (x2_2 + (1 : Int32)) S))) := rfl
def f_X5_playerOf (p0 : Int32) (S : tk_ST) : Option Int32 := f_X5_playerOf_2 64 p0 (0 : Int32) S
def f_X6_pagatPoints_39 (x2_39 : Int32) (x3_39 : Int32) (k0_39 : Int32) (S : tk_ST) : Option Int32 := (tk_b1 (f_X6_isAnnounced (0 : Int32) S) fun r1 => (if r1 = 0 then (if x2_39 = (-1 : Int32) then some (0 : Int32) else (if x3_39 = k0_39 then some (25 : Int32) else some (-25 : Int32))) else (if x3_39 = 0 then some (-50 : Int32) else (if k0_39 = 0 then some (-50 : Int32) else some (50 : Int32)))))
def f_X6_pagatPoints_38 (x2_38 : Int32) (x3_38 : Int32) (S : tk_ST) : Option Int32 := f_X6_pagatPoints_39 x2_38 x3_38 (0 : Int32) S
def f_X6_pagatPoints_20 (x2_20 : Int32) (k0_20 : Int32) (S : tk_ST) : Option Int32 := (if x2_20 = (-1 : Int32) then f_X6_pagatPoints_38 x2_20 k0_20 S else (tk_b1 (f_X6_sideOf x2_20 S) fun r10 => (if r10 = 0 then f_X6_pagatPoints_39 x2_20 k0_20 (1 : Int32) S else f_X6_pagatPoints_38 x2_20 k0_20 S)))
def f_X6_pagatPoints (p0 : Int32) (S : tk_ST) : Option Int32 := (tk_b1 (f_X5_playerOf (32 : Int32) S) fun r14 => (if r14 = p0 then f_X6_pagatPoints_20 r14 (1 : Int32) S else f_X6_pagatPoints_20 r14 (0 : Int32) S))
def f_X6_kingPoints_46 (x2_46 : Int32) (k0_46 : Int32) (S : tk_ST) : Option Int32 := (tk_b1 (f_X6_isAnnounced (1 : Int32) S) fun r1 => (if r1 = 0 then (if x2_46 = 0 then some (0 : Int32) else (if k0_46 = 0 then some (-10 : Int32) else some (10 : Int32))) else (if k0_46 = 0 then some (-20 : Int32) else some (20 : Int32))))
def f_X6_kingPoints_45 (x2_45 : Int32) (S : tk_ST) : Option Int32 := f_X6_kingPoints_46 x2_45 (0 : Int32) S
def f_X6_kingPoints_28 (x1_28 : Int32) (k0_28 : Int32) (S : tk_ST) : Option Int32 := (if k0_28 = 0 then f_X6_kingPoints_45 k0_28 S else (tk_b1 (f_X6_sideOf x1_28 S) fun r9 => (if r9 = 0 then f_X6_kingPoints_46 k0_28 (1 : Int32) S else f_X6_kingPoints_45 k0_28 S)))
def f_X6_kingPoints_27 (x1_27 : Int32) (S : tk_ST) : Option Int32 := f_X6_kingPoints_28 x1_27 (0 : Int32) S
def f_X6_kingPoints (p0 : Int32) (S : tk_ST) : Option Int32 := (if (S.1 4) = (-1 : Int32) then f_X6_kingPoints_27 p0 S else (tk_b1 (f_X6_calledKing S) fun r14 => (tk_b1 (f_X5_playerOf r14 S) fun r17 => (if r17 = (-1 : Int32) then f_X6_kingPoints_27 p0 S else f_X6_kingPoints_28 p0 (1 : Int32) S))))
def f_X2_at_p11 (p0 : Int32) (S : tk_ST) : Option Int32 := (if p0 < 0 then some (-1 : Int32) else (if (4 : Int32) ≤ p0 then some (-1 : Int32) else (if p0 < 0 ∨ 4 ≤ p0.toNatClampNeg then none else some ((S.2.2.1 3) p0.toNatClampNeg))))
def f_X2_put_p11 (p0 : Int32) (p1 : Int32) (S : tk_ST) : Option tk_ST := (if p0 < 0 then some S else (if (4 : Int32) ≤ p0 then some S else (if p0 < 0 ∨ 4 ≤ p0.toNatClampNeg then none else (tk_b1 (some (tk_A S 3 (upd (S.2.2.1 3) p0.toNatClampNeg p1))) fun S4 => some S4))))
def f_X2_at_p9 (p0 : Int32) (S : tk_ST) : Option Int32 := (if p0 < 0 then some (-1 : Int32) else (if (4 : Int32) ≤ p0 then some (-1 : Int32) else (if p0 < 0 ∨ 4 ≤ p0.toNatClampNeg then none else some ((S.2.2.1 2) p0.toNatClampNeg))))
def f_X2_put_p9 (p0 : Int32) (p1 : Int32) (S : tk_ST) : Option tk_ST := (if p0 < 0 then some S else (if (4 : Int32) ≤ p0 then some S else (if p0 < 0 ∨ 4 ≤ p0.toNatClampNeg then none else (tk_b1 (some (tk_A S 2 (upd (S.2.2.1 2) p0.toNatClampNeg p1))) fun S4 => some S4))))
def f_X4_addScore (p0 : Int32) (S : tk_ST) : Option tk_ST := (tk_b1 (f_X2_at_p9 p0 S) fun r1 => (tk_b1 (f_X2_put_p9 p0 (r1 + (S.1 15)) S) fun S6 => some S6))
def f_X4_enter_62 (x1_62 : Int32) (x2_62 : Int32) (S_62 : tk_ST) : Option tk_ST := (tk_b1 (f_X4_addScore x1_62 S_62) fun S3 => (if x2_62 = (-1 : Int32) then some S3 else (tk_b1 (f_X4_addScore x2_62 S3) fun S7 => some S7)))
def f_X4_enter_31 (x1_31 : Int32) (x2_31 : Int32) (x4_31 : Int32) (x5_31 : Int32) (k1_31 : Int32) (S_31 : tk_ST) : Option tk_ST := (if x5_31 = 0 then f_X4_enter_62 x1_31 x2_31 (tk_I S_31 15 k1_31) else (if x4_31 = 0 then f_X4_enter_62 x1_31 x2_31 (tk_I S_31 15 k1_31) else (tk_b1 (f_X2_at_p11 x1_31 (tk_I S_31 15 k1_31)) fun r10 => (tk_b1 (f_X2_put_p11 x1_31 (r10 - (1 : Int32)) (tk_I S_31 15 k1_31)) fun S15 => f_X4_enter_62 x1_31 x2_31 S15))))
def f_X4_enter_16 (x1_16 : Int32) (x2_16 : Int32) (x3_16 : Int32) (x4_16 : Int32) (k0_16 : Int32) (S_16 : tk_ST) : Option tk_ST := (if k0_16 = 0 then f_X4_enter_31 x1_16 x2_16 x4_16 k0_16 x3_16 S_16 else f_X4_enter_31 x1_16 x2_16 x4_16 k0_16 ((2 : Int32) * x3_16) S_16)
def f_X4_enter (p0 : Int32) (p1 : Int32) (p2 : Int32) (p3 : Int32) (S : tk_ST) : Option tk_ST := (tk_b1 (f_X2_at_p11 p0 S) fun r17 => (if r17 ≤ 0 then f_X4_enter_16 p0 p1 p2 p3 (0 : Int32) S else f_X4_enter_16 p0 p1 p2 p3 (1 : Int32) S))
def f_X4_giveRadli_2 : Nat → Int32 → tk_ST → Option tk_ST
  | 0 => fun _ _ => none
  | n_2 + 1 => fun x1_2 S_2 => (if (4 : Int32) ≤ x1_2 then some S_2 else (tk_b1 (f_X2_at_p11 x1_2 S_2) fun r2 => (tk_b1 (f_X2_put_p11 x1_2 (r2 + (1 : Int32)) S_2) fun S7 => (f_X4_giveRadli_2 n_2) (x1_2 + (1 : Int32)) S7)))
theorem f_X4_giveRadli_2_s (n_2 : Nat) (x1_2 : Int32) (S_2 : tk_ST) : f_X4_giveRadli_2 (n_2 + 1) x1_2 S_2 = (if (4 : Int32) ≤ x1_2 then some S_2 else (tk_b1 (f_X2_at_p11 x1_2 S_2) fun r2 => (tk_b1 (f_X2_put_p11 x1_2 (r2 + (1 : Int32)) S_2) fun S7 => (f_X4_giveRadli_2 n_2) (x1_2 + (1 : Int32)) S7))) := rfl
def f_X4_giveRadli (S : tk_ST) : Option tk_ST := f_X4_giveRadli_2 64 (0 : Int32) S
def f_X6_enterResult (p0 : Int32) (S : tk_ST) : Option tk_ST := (tk_b1 (f_X3_at_p15 (0 : Int32) S) fun r1 => (tk_b1 (f_X6_thirdsOf r1) fun r4 => (tk_b1 (f_X6_gamePoints (S.1 11) r4) fun r7 => (tk_b1 (f_X6_pagatPoints p0 S) fun r10 => (tk_b1 (f_X6_kingPoints p0 S) fun r13 => (tk_b1 (f_X6_isWon r4) fun r16 => (tk_b1 (f_X4_enter (S.1 3) (S.1 6) ((r7 + r10) + r13) r16 S) fun S21 => (if (S.1 11) ≤ (3 : Int32) then some S21 else (tk_b1 (f_X4_giveRadli S21) fun S25 => some S25)))))))))
def f_X6_endTrick_63 (x1_63 : Int32) (S_63 : tk_ST) : Option tk_ST := (tk_b1 (f_X5_begin x1_63 S_63) fun S3 => some S3)
def f_X6_endTrick (p0 : Int32) (S : tk_ST) : Option tk_ST := (tk_b1 (f_X6_sideOf p0 S) fun r4 => (tk_b1 (f_X3_at_p15 r4 S) fun r7 => (tk_b1 (f_X5_cardSet S) fun r10 => (tk_b1 (f_X3_put_p15 r4 (r7 ||| r10) S) fun S15 => (if ((S15.1 9) + (1 : Int32)) = (12 : Int32) then (tk_b1 (f_X6_enterResult p0 (tk_I (tk_I S15 9 ((S15.1 9) + (1 : Int32))) 2 p0)) fun S19 => (tk_b1 (f_X6_endDeal S19) fun S22 => f_X6_endTrick_63 p0 S22)) else f_X6_endTrick_63 p0 (tk_I (tk_I S15 9 ((S15.1 9) + (1 : Int32))) 2 p0))))))
def f_X6_addToTrick (p0 : Int32) (S : tk_ST) : Option (Int32 × tk_ST) := (tk_b1 (f_X3_at_p13 (S.1 2) S) fun r1 => (tk_b1 (f_X6_only p0) fun r4 => (tk_b1 (f_X3_put_p13 (S.1 2) (r1 &&& (r4 ^^^ (-1 : Int64))) S) fun S9 => (tk_b1 (f_X5_add p0 S9) fun S12 => (if (4 : Int32) ≤ (S12.1 14) then (tk_b1 (f_X5_winner S12) fun r14 => (tk_b1 (f_X6_endTrick r14 S12) fun S19 => some (r14, S19))) else (tk_b1 (f_X6_behind (S12.1 2)) fun r20 => some ((-1 : Int32), (tk_I S12 2 r20))))))))
def f_X6_play (p0 : Int32) (S : tk_ST) : Option (Int32 × Int32 × tk_ST) := (tk_b1 (f_X6_isCard p0) fun r1 => (if r1 = 0 then some ((3 : Int32), (0 : Int32), S) else (tk_b1 (f_X6_playableNow S) fun r5 => (tk_b1 (f_X6_holds r5 p0) fun r8 => (if r8 = 0 then some ((2 : Int32), (0 : Int32), S) else (tk_b2 (f_X6_addToTrick p0 S) fun r12 S14 => some ((0 : Int32), r12, S14)))))))
def f_X6_lowestOf_2 : Nat → Int64 → Int32 → Option Int32
  | 0 => fun _ _ => none
  | n_2 + 1 => fun x0_2 x2_2 => (if (54 : Int32) ≤ x2_2 then some (-1 : Int32) else (tk_b1 (f_X6_holds x0_2 x2_2) fun r2 => (if r2 = 0 then (f_X6_lowestOf_2 n_2) x0_2 (x2_2 + (1 : Int32)) else some x2_2)))
theorem f_X6_lowestOf_2_s (n_2 : Nat) (x0_2 : Int64) (x2_2 : Int32) : f_X6_lowestOf_2 (n_2 + 1) x0_2 x2_2 = (if (54 : Int32) ≤ x2_2 then some (-1 : Int32) else (tk_b1 (f_X6_holds x0_2 x2_2) fun r2 => (if r2 = 0 then (f_X6_lowestOf_2 n_2) x0_2 (x2_2 + (1 : Int32)) else some x2_2))) := rfl
def f_X6_lowestOf (p0 : Int64) : Option Int32 := f_X6_lowestOf_2 64 p0 (0 : Int32)
def f_X6_playLowest_11 (S_11 : tk_ST) : Option (Int32 × Int32 × tk_ST) := some ((1 : Int32), (0 : Int32), S_11)
def f_X6_playLowest_43 : Nat → Int32 → Int32 → Int32 → tk_ST → Option (Int32 × Int32 × tk_ST)
  | 0 => fun _ _ _ _ => none
  | n_43 + 1 => fun x1_43 x2_43 x3_43 S_43 => (if x1_43 ≤ x3_43 then some ((0 : Int32), x2_43, S_43) else (if (S_43.1 1) = (5 : Int32) then (tk_b1 (f_X6_playableNow S_43) fun r3 => (tk_b1 (f_X6_lowestOf r3) fun r6 => (tk_b2 (f_X6_addToTrick r6 S_43) fun r9 S11 => (f_X6_playLowest_43 n_43) x1_43 (x2_43 + (1 : Int32)) (x3_43 + (1 : Int32)) S11))) else some ((0 : Int32), x2_43, S_43)))
theorem f_X6_playLowest_43_s (n_43 : Nat) (x1_43 : Int32) (x2_43 : Int32) (x3_43 : Int32) (S_43 : tk_ST) : f_X6_playLowest_43 (n_43 + 1) x1_43 x2_43 x3_43 S_43 = (if x1_43 ≤ x3_43 then some ((0 : Int32), x2_43, S_43) else (if (S_43.1 1) = (5 : Int32) then (tk_b1 (f_X6_playableNow S_43) fun r3 => (tk_b1 (f_X6_lowestOf r3) fun r6 => (tk_b2 (f_X6_addToTrick r6 S_43) fun r9 S11 => (f_X6_playLowest_43 n_43) x1_43 (x2_43 + (1 : Int32)) (x3_43 + (1 : Int32)) S11))) else some ((0 : Int32), x2_43, S_43))) := rfl
def f_X6_playLowest (p0 : Int32) (S : tk_ST) : Option (Int32 × Int32 × tk_ST) := (if p0 < (1 : Int32) then f_X6_playLowest_11 S else (if p0 ≤ (48 : Int32) then (if (S.1 1) = (5 : Int32) then f_X6_playLowest_43 64 p0 (0 : Int32) (0 : Int32) S else some ((2 : Int32), (0 : Int32), S)) else f_X6_playLowest_11 S))
def f_X6_phase (S : tk_ST) : Option Int32 := some (S.1 1)
def f_X6_turn (S : tk_ST) : Option Int32 := some (S.1 2)
def f_X6_declarer (S : tk_ST) : Option Int32 := some (S.1 3)
def f_X6_level (S : tk_ST) : Option Int32 := some (S.1 11)
def f_X6_called (S : tk_ST) : Option Int32 := some (S.1 4)
def f_X6_partner (S : tk_ST) : Option Int32 := some (S.1 6)
def f_X6_isPlayer (p0 : Int32) : Option Int32 := (if p0 < 0 then some (0 : Int32) else (if (4 : Int32) ≤ p0 then some (0 : Int32) else some (1 : Int32)))
def f_X6_hand (p0 : Int32) (S : tk_ST) : Option (Int32 × Int64) := (tk_b1 (f_X6_isPlayer p0) fun r1 => (if r1 = 0 then some ((3 : Int32), (0 : Int64)) else (tk_b1 (f_X3_at_p13 p0 S) fun r5 => some ((0 : Int32), r5))))
def f_X1_cardAt (p0 : Int32) (S : tk_ST) : Option Int32 := (tk_b1 (f_X2_at_p2 p0 S) fun r1 => some r1)
def f_X6_talonAt_10 (S : tk_ST) : Option (Int32 × Int32) := some ((3 : Int32), (0 : Int32))
def f_X6_talonAt (p0 : Int32) (S : tk_ST) : Option (Int32 × Int32) := (if p0 < 0 then f_X6_talonAt_10 S else (if p0 < (6 : Int32) then (if (S.1 0) = (-1 : Int32) then some ((2 : Int32), (0 : Int32)) else (tk_b1 (f_X1_cardAt ((48 : Int32) + p0) S) fun r4 => some ((0 : Int32), r4))) else f_X6_talonAt_10 S))
def f_X6_inTrick (S : tk_ST) : Option Int32 := some (S.1 14)
def f_X5_cardAt (p0 : Int32) (S : tk_ST) : Option Int32 := (tk_b1 (f_X2_at_p6 p0 S) fun r1 => some r1)
def f_X6_trickAt_15 (S : tk_ST) : Option (Int32 × Int32) := some ((3 : Int32), (0 : Int32))
def f_X6_trickAt (p0 : Int32) (S : tk_ST) : Option (Int32 × Int32) := (if p0 < 0 then f_X6_trickAt_15 S else (if p0 < (S.1 14) then (tk_b1 (f_X5_cardAt p0 S) fun r3 => some ((0 : Int32), r3)) else f_X6_trickAt_15 S))
def f_X6_canPlay (p0 : Int32) (S : tk_ST) : Option (Int32 × Int32) := (tk_b1 (f_X6_isCard p0) fun r1 => (if r1 = 0 then some ((3 : Int32), (0 : Int32)) else (tk_b1 (f_X6_playableNow S) fun r5 => (tk_b1 (f_X6_holds r5 p0) fun r8 => (if r8 = 0 ∨ r8 = 1 then some ((0 : Int32), r8) else none)))))
def f_X6_tricks (S : tk_ST) : Option Int32 := some (S.1 9)
def f_X6_valueOf (p0 : Int32) (S : tk_ST) : Option (Int32 × Int32) := (tk_b1 (f_X6_isCard p0) fun r1 => (if r1 = 0 then some ((3 : Int32), (0 : Int32)) else (tk_b1 (f_X6_worth p0) fun r5 => some ((0 : Int32), r5))))
def f_X6_isSide (p0 : Int32) : Option Int32 := (if p0 < 0 then some (0 : Int32) else (if (2 : Int32) ≤ p0 then some (0 : Int32) else some (1 : Int32)))
def f_X6_thirds (p0 : Int32) (S : tk_ST) : Option (Int32 × Int32) := (tk_b1 (f_X6_isSide p0) fun r1 => (if r1 = 0 then some ((3 : Int32), (0 : Int32)) else (tk_b1 (f_X3_at_p15 p0 S) fun r5 => (tk_b1 (f_X6_thirdsOf r5) fun r8 => some ((0 : Int32), r8)))))
def f_X6_packPointsOf_56 (k_10 : Int64 → Int32 → Int32 → Int32 → Int32 → Option Int32) (x0_56 : Int64) (x2_56 : Int32) (x3_56 : Int32) (x4_56 : Int32) (x5_56 : Int32) : Option Int32 := k_10 x0_56 x2_56 x3_56 x4_56 (x5_56 + (1 : Int32))
def f_X6_packPointsOf_39 (k_10 : Int64 → Int32 → Int32 → Int32 → Int32 → Option Int32) (x0_39 : Int64) (x2_39 : Int32) (x3_39 : Int32) (x4_39 : Int32) (x5_39 : Int32) : Option Int32 := (if x3_39 = (3 : Int32) then f_X6_packPointsOf_56 k_10 x0_39 (x2_39 + (x4_39 - (2 : Int32))) (0 : Int32) (0 : Int32) x5_39 else f_X6_packPointsOf_56 k_10 x0_39 x2_39 x3_39 x4_39 x5_39)
def f_X6_packPointsOf_10 : Nat → Int64 → Int32 → Int32 → Int32 → Int32 → Option Int32
  | 0 => fun _ _ _ _ _ => none
  | n_10 + 1 => fun x0_10 x2_10 x3_10 x4_10 x5_10 => (if (54 : Int32) ≤ x5_10 then some x2_10 else (tk_b1 (f_X6_holds x0_10 x5_10) fun r3 => (if r3 = 0 then f_X6_packPointsOf_39 (f_X6_packPointsOf_10 n_10) x0_10 x2_10 x3_10 x4_10 x5_10 else (tk_b1 (f_X6_worth x5_10) fun r7 => f_X6_packPointsOf_39 (f_X6_packPointsOf_10 n_10) x0_10 x2_10 (x3_10 + (1 : Int32)) (x4_10 + r7) x5_10))))
theorem f_X6_packPointsOf_10_s (n_10 : Nat) (x0_10 : Int64) (x2_10 : Int32) (x3_10 : Int32) (x4_10 : Int32) (x5_10 : Int32) : f_X6_packPointsOf_10 (n_10 + 1) x0_10 x2_10 x3_10 x4_10 x5_10 = (if (54 : Int32) ≤ x5_10 then some x2_10 else (tk_b1 (f_X6_holds x0_10 x5_10) fun r3 => (if r3 = 0 then f_X6_packPointsOf_39 (f_X6_packPointsOf_10 n_10) x0_10 x2_10 x3_10 x4_10 x5_10 else (tk_b1 (f_X6_worth x5_10) fun r7 => f_X6_packPointsOf_39 (f_X6_packPointsOf_10 n_10) x0_10 x2_10 (x3_10 + (1 : Int32)) (x4_10 + r7) x5_10)))) := rfl
def f_X6_packPointsOf (p0 : Int64) : Option Int32 := f_X6_packPointsOf_10 64 p0 (0 : Int32) (0 : Int32) (0 : Int32) (0 : Int32)
def f_X6_byPacks (p0 : Int32) (S : tk_ST) : Option (Int32 × Int32) := (tk_b1 (f_X6_isSide p0) fun r1 => (if r1 = 0 then some ((3 : Int32), (0 : Int32)) else (tk_b1 (f_X3_at_p15 p0 S) fun r5 => (tk_b1 (f_X6_packPointsOf r5) fun r8 => some ((0 : Int32), r8)))))
def f_X6_score (p0 : Int32) (S : tk_ST) : Option (Int32 × Int32) := (tk_b1 (f_X6_isPlayer p0) fun r1 => (if r1 = 0 then some ((3 : Int32), (0 : Int32)) else (tk_b1 (f_X2_at_p9 p0 S) fun r5 => some ((0 : Int32), r5))))
def f_X6_radli (p0 : Int32) (S : tk_ST) : Option (Int32 × Int32) := (tk_b1 (f_X6_isPlayer p0) fun r1 => (if r1 = 0 then some ((3 : Int32), (0 : Int32)) else (tk_b1 (f_X2_at_p11 p0 S) fun r5 => some ((0 : Int32), r5))))
def f_X6_result (S : tk_ST) : Option Int32 := some (S.1 15)
def f_X6_sidesAreOpen_37 (S : tk_ST) : Option Int32 := some (1 : Int32)
def f_X6_sidesAreOpen (S : tk_ST) : Option Int32 := (if (S.1 4) = (-1 : Int32) then f_X6_sidesAreOpen_37 S else (if (S.1 5) = (-1 : Int32) then f_X6_sidesAreOpen_37 S else (tk_b1 (f_X3_at_p13 (S.1 5) S) fun r3 => (tk_b1 (f_X6_calledKing S) fun r6 => (tk_b1 (f_X6_holds r3 r6) fun r9 => (if r9 = 0 then f_X6_sidesAreOpen_37 S else some (0 : Int32)))))))
def f_X6_knows_14 (S : tk_ST) : Option (Int32 × Int32) := some ((3 : Int32), (0 : Int32))
def f_X6_knows_75 (x2_75 : Int32) (k0_75 : Int32) (S : tk_ST) : Option (Int32 × Int32) := (if k0_75 = 0 then some ((0 : Int32), (-1 : Int32)) else (tk_b1 (f_X6_sideOf x2_75 S) fun r2 => some ((0 : Int32), r2)))
def f_X6_knows_70 (x2_70 : Int32) (S : tk_ST) : Option (Int32 × Int32) := f_X6_knows_75 x2_70 (1 : Int32) S
def f_X6_knows (p0 : Int32) (p1 : Int32) (S : tk_ST) : Option (Int32 × Int32) := (tk_b1 (f_X6_isPlayer p0) fun r5 => (if r5 = 0 then f_X6_knows_14 S else (tk_b1 (f_X6_isPlayer p1) fun r9 => (if r9 = 0 then f_X6_knows_14 S else (if (S.1 3) = (-1 : Int32) then some ((0 : Int32), (-1 : Int32)) else (if (S.1 1) = (2 : Int32) then some ((0 : Int32), (-1 : Int32)) else (if p1 = (S.1 3) then f_X6_knows_70 p1 S else (if p1 = p0 then f_X6_knows_70 p1 S else (if p0 = (S.1 5) then f_X6_knows_70 p1 S else (tk_b1 (f_X6_sidesAreOpen S) fun r18 => (if r18 = 0 then f_X6_knows_75 p1 (0 : Int32) S else f_X6_knows_70 p1 S)))))))))))
end
section
def f0_X6_hand (p0 : Int32) (S : tk_ST) : Option Int64 := tk_b2 (f_X6_hand p0 S) fun k r => if k = 0 then some r else none
def f0_X6_canPlay (p0 : Int32) (S : tk_ST) : Option Int32 := tk_b2 (f_X6_canPlay p0 S) fun k r => if k = 0 then some r else none
def f0_X6_trickAt (p0 : Int32) (S : tk_ST) : Option Int32 := tk_b2 (f_X6_trickAt p0 S) fun k r => if k = 0 then some r else none
def f0_X6_thirds (p0 : Int32) (S : tk_ST) : Option Int32 := tk_b2 (f_X6_thirds p0 S) fun k r => if k = 0 then some r else none
def f0_X6_byPacks (p0 : Int32) (S : tk_ST) : Option Int32 := tk_b2 (f_X6_byPacks p0 S) fun k r => if k = 0 then some r else none
def f0_X6_knows (p0 : Int32) (p1 : Int32) (S : tk_ST) : Option Int32 := tk_b2 (f_X6_knows p0 p1 S) fun k r => if k = 0 then some r else none
def f0_X6_valueOf (p0 : Int32) (S : tk_ST) : Option Int32 := tk_b2 (f_X6_valueOf p0 S) fun k r => if k = 0 then some r else none
def f0_X6_score (p0 : Int32) (S : tk_ST) : Option Int32 := tk_b2 (f_X6_score p0 S) fun k r => if k = 0 then some r else none
def f0_X6_radli (p0 : Int32) (S : tk_ST) : Option Int32 := tk_b2 (f_X6_radli p0 S) fun k r => if k = 0 then some r else none
def f0_X6_deal (p0 : Int32) (S : tk_ST) : Option (Int32 × tk_ST) := tk_b3 (f_X6_deal p0 S) fun k r S1 => if k = 0 then some (r, S1) else none
def f0_X6_talonAt (p0 : Int32) (S : tk_ST) : Option Int32 := tk_b2 (f_X6_talonAt p0 S) fun k r => if k = 0 then some r else none
def f0_X6_call (p0 : Int32) (S : tk_ST) : Option (Int32 × tk_ST) := tk_b3 (f_X6_call p0 S) fun k r S1 => if k = 0 then some (r, S1) else none
def f0_X6_take (p0 : Int32) (S : tk_ST) : Option (Int32 × tk_ST) := tk_b3 (f_X6_take p0 S) fun k r S1 => if k = 0 then some (r, S1) else none
def f0_X6_playLowest (p0 : Int32) (S : tk_ST) : Option (Int32 × tk_ST) := tk_b3 (f_X6_playLowest p0 S) fun k r S1 => if k = 0 then some (r, S1) else none
def f_L_bids (p1 : Int32) (S : tk_ST) : Option (Int32 × tk_ST) := tk_b3 (f_X6_bid p1 S) fun k r S1 => (if k = 0 then some (r, S1) else (if k = (2 : Int32) then some ((-3 : Int32), S1) else none))
def f_L_lays (p1 : Int32) (S : tk_ST) : Option (Int32 × tk_ST) := tk_b3 (f_X6_discard p1 S) fun k r S1 => (if k = 0 then some (r, S1) else (if k = (2 : Int32) then some ((-3 : Int32), S1) else none))
def f_L_announces (p1 : Int32) (S : tk_ST) : Option (Int32 × tk_ST) := tk_b3 (f_X6_announce p1 S) fun k r S1 => (if k = 0 then some (r, S1) else (if k = (2 : Int32) then some ((-3 : Int32), S1) else none))
def f_L_plays (p1 : Int32) (S : tk_ST) : Option (Int32 × tk_ST) := tk_b3 (f_X6_play p1 S) fun k r S1 => (if k = 0 then some (r, S1) else (if k = (2 : Int32) then some ((-9 : Int32), S1) else none))
def f_L_bits_26 (k_4 : Int64 → Int32 → Int32 → Option Int32) (x0_26 : Int64) (x3_26 : Int32) (k0_26 : Int32) (k1_26 : Int32) : Option Int32 := k_4 x0_26 (k0_26 + k1_26) (x3_26 + (1 : Int32))
def f_L_bits_4 : Nat → Int64 → Int32 → Int32 → Option Int32
  | 0 => fun _ _ _ => none
  | n_4 + 1 => fun x0_4 x2_4 x3_4 => (if (54 : Int32) ≤ x3_4 then some x2_4 else (if (lg_cmp ((x0_4 >>> (x3_4.toInt64 &&& 63)) &&& (1 : Int64)) (1 : Int64)) = 0 then f_L_bits_26 (f_L_bits_4 n_4) x0_4 x3_4 x2_4 (1 : Int32) else f_L_bits_26 (f_L_bits_4 n_4) x0_4 x3_4 x2_4 (0 : Int32)))
theorem f_L_bits_4_s (n_4 : Nat) (x0_4 : Int64) (x2_4 : Int32) (x3_4 : Int32) : f_L_bits_4 (n_4 + 1) x0_4 x2_4 x3_4 = (if (54 : Int32) ≤ x3_4 then some x2_4 else (if (lg_cmp ((x0_4 >>> (x3_4.toInt64 &&& 63)) &&& (1 : Int64)) (1 : Int64)) = 0 then f_L_bits_26 (f_L_bits_4 n_4) x0_4 x3_4 x2_4 (1 : Int32) else f_L_bits_26 (f_L_bits_4 n_4) x0_4 x3_4 x2_4 (0 : Int32))) := rfl
def f_L_bits (p0 : Int64) : Option Int32 := f_L_bits_4 64 p0 (0 : Int32) (0 : Int32)
def f_L_has (p0 : Int64) (p1 : Int32) : Option Int32 := (if (lg_cmp ((p0 >>> (p1.toInt64 &&& 63)) &&& (1 : Int64)) (1 : Int64)) = 0 then some (1 : Int32) else some (0 : Int32))
def f_L_suit (p0 : Int32) : Option Int32 := (if p0 ≤ (31 : Int32) then some (p0 / (8 : Int32)) else some (4 : Int32))
def f_L_areHands_92 (k_66 : Int32 → Int32 → tk_ST → Option Int32) (x5_92 : Int32) (k0_92 : Int32) (S : tk_ST) : Option Int32 := k_66 k0_92 (x5_92 + (1 : Int32)) S
def f_L_areHands_91 (k_66 : Int32 → Int32 → tk_ST → Option Int32) (x5_91 : Int32) (S : tk_ST) : Option Int32 := f_L_areHands_92 k_66 x5_91 (0 : Int32) S
def f_L_areHands_66 : Nat → Int32 → Int32 → tk_ST → Option Int32
  | 0 => fun _ _ _ => none
  | n_66 + 1 => fun x4_66 x5_66 S => (if (54 : Int32) ≤ x5_66 then (if x4_66 = 0 then some (0 : Int32) else (tk_b1 (f_X6_inTrick S) fun r3 => (if r3 = 0 then some (1 : Int32) else some (0 : Int32)))) else (if x4_66 = 0 then f_L_areHands_91 (f_L_areHands_66 n_66) x5_66 S else (tk_b1 (f0_X6_canPlay x5_66 S) fun r8 => (if r8 = 0 then f_L_areHands_92 (f_L_areHands_66 n_66) x5_66 (1 : Int32) S else f_L_areHands_91 (f_L_areHands_66 n_66) x5_66 S))))
theorem f_L_areHands_66_s (n_66 : Nat) (x4_66 : Int32) (x5_66 : Int32) (S : tk_ST) : f_L_areHands_66 (n_66 + 1) x4_66 x5_66 S = (if (54 : Int32) ≤ x5_66 then (if x4_66 = 0 then some (0 : Int32) else (tk_b1 (f_X6_inTrick S) fun r3 => (if r3 = 0 then some (1 : Int32) else some (0 : Int32)))) else (if x4_66 = 0 then f_L_areHands_91 (f_L_areHands_66 n_66) x5_66 S else (tk_b1 (f0_X6_canPlay x5_66 S) fun r8 => (if r8 = 0 then f_L_areHands_92 (f_L_areHands_66 n_66) x5_66 (1 : Int32) S else f_L_areHands_91 (f_L_areHands_66 n_66) x5_66 S)))) := rfl
def f_L_areHands_321 (x3_321 : Int32) (S : tk_ST) : Option Int32 := (tk_b1 (f_X6_tricks S) fun r12 => (tk_b1 (f_X6_inTrick S) fun r15 => (if x3_321 = (((48 : Int32) - ((4 : Int32) * r12)) - r15) then some (1 : Int32) else some (0 : Int32))))
def f_L_areHands_275 (k_161 : Int32 → Int32 → Int64 → Int32 → Int32 → Int32 → Int32 → Int32 → tk_ST → Option Int32) (x3_275 : Int32) (x4_275 : Int32) (x5_275 : Int64) (x7_275 : Int32) (x8_275 : Int32) (x9_275 : Int32) (x11_275 : Int32) (k0_275 : Int32) (S : tk_ST) : Option Int32 := k_161 x3_275 x4_275 x5_275 x7_275 x8_275 x9_275 k0_275 (x11_275 + (1 : Int32)) S
def f_L_areHands_270 (k_161 : Int32 → Int32 → Int64 → Int32 → Int32 → Int32 → Int32 → Int32 → tk_ST → Option Int32) (x3_270 : Int32) (x4_270 : Int32) (x5_270 : Int64) (x7_270 : Int32) (x8_270 : Int32) (x9_270 : Int32) (x11_270 : Int32) (S : tk_ST) : Option Int32 := f_L_areHands_275 k_161 x3_270 x4_270 x5_270 x7_270 x8_270 x9_270 x11_270 (1 : Int32) S
def f_L_areHands_274 (k_161 : Int32 → Int32 → Int64 → Int32 → Int32 → Int32 → Int32 → Int32 → tk_ST → Option Int32) (x3_274 : Int32) (x4_274 : Int32) (x5_274 : Int64) (x7_274 : Int32) (x8_274 : Int32) (x9_274 : Int32) (x11_274 : Int32) (S : tk_ST) : Option Int32 := f_L_areHands_275 k_161 x3_274 x4_274 x5_274 x7_274 x8_274 x9_274 x11_274 (0 : Int32) S
def f_L_areHands_248 (k_161 : Int32 → Int32 → Int64 → Int32 → Int32 → Int32 → Int32 → Int32 → tk_ST → Option Int32) (x3_248 : Int32) (x4_248 : Int32) (x5_248 : Int64) (x7_248 : Int32) (x8_248 : Int32) (x10_248 : Int32) (x11_248 : Int32) (x12_248 : Int32) (k0_248 : Int32) (S : tk_ST) : Option Int32 := (if x10_248 = 0 then (if x12_248 = 0 then f_L_areHands_274 k_161 x3_248 x4_248 x5_248 x7_248 x8_248 k0_248 x11_248 S else (tk_b1 (f_L_suit x11_248) fun r21 => (if r21 = x7_248 then f_L_areHands_274 k_161 x3_248 x4_248 x5_248 x7_248 x8_248 k0_248 x11_248 S else f_L_areHands_270 k_161 x3_248 x4_248 x5_248 x7_248 x8_248 k0_248 x11_248 S))) else f_L_areHands_270 k_161 x3_248 x4_248 x5_248 x7_248 x8_248 k0_248 x11_248 S)
def f_L_areHands_243 (k_161 : Int32 → Int32 → Int64 → Int32 → Int32 → Int32 → Int32 → Int32 → tk_ST → Option Int32) (x3_243 : Int32) (x4_243 : Int32) (x5_243 : Int64) (x7_243 : Int32) (x8_243 : Int32) (x10_243 : Int32) (x11_243 : Int32) (x12_243 : Int32) (S : tk_ST) : Option Int32 := f_L_areHands_248 k_161 x3_243 x4_243 x5_243 x7_243 x8_243 x10_243 x11_243 x12_243 (1 : Int32) S
def f_L_areHands_247 (k_161 : Int32 → Int32 → Int64 → Int32 → Int32 → Int32 → Int32 → Int32 → tk_ST → Option Int32) (x3_247 : Int32) (x4_247 : Int32) (x5_247 : Int64) (x7_247 : Int32) (x8_247 : Int32) (x10_247 : Int32) (x11_247 : Int32) (x12_247 : Int32) (S : tk_ST) : Option Int32 := f_L_areHands_248 k_161 x3_247 x4_247 x5_247 x7_247 x8_247 x10_247 x11_247 x12_247 (0 : Int32) S
def f_L_areHands_216 (k_161 : Int32 → Int32 → Int64 → Int32 → Int32 → Int32 → Int32 → Int32 → tk_ST → Option Int32) (x3_216 : Int32) (x5_216 : Int64) (x7_216 : Int32) (x8_216 : Int32) (x9_216 : Int32) (x10_216 : Int32) (x11_216 : Int32) (x12_216 : Int32) (k0_216 : Int32) (S : tk_ST) : Option Int32 := (if x9_216 = 0 then (tk_b1 (f_L_has x5_216 x11_216) fun r26 => (if r26 = 0 then f_L_areHands_247 k_161 x3_216 k0_216 x5_216 x7_216 x8_216 x10_216 x11_216 x12_216 S else (tk_b1 (f_L_suit x11_216) fun r30 => (if r30 = x7_216 then f_L_areHands_243 k_161 x3_216 k0_216 x5_216 x7_216 x8_216 x10_216 x11_216 x12_216 S else f_L_areHands_247 k_161 x3_216 k0_216 x5_216 x7_216 x8_216 x10_216 x11_216 x12_216 S)))) else f_L_areHands_243 k_161 x3_216 k0_216 x5_216 x7_216 x8_216 x10_216 x11_216 x12_216 S)
def f_L_areHands_211 (k_161 : Int32 → Int32 → Int64 → Int32 → Int32 → Int32 → Int32 → Int32 → tk_ST → Option Int32) (x3_211 : Int32) (x5_211 : Int64) (x7_211 : Int32) (x8_211 : Int32) (x9_211 : Int32) (x10_211 : Int32) (x11_211 : Int32) (x12_211 : Int32) (S : tk_ST) : Option Int32 := f_L_areHands_216 k_161 x3_211 x5_211 x7_211 x8_211 x9_211 x10_211 x11_211 x12_211 (1 : Int32) S
def f_L_areHands_215 (k_161 : Int32 → Int32 → Int64 → Int32 → Int32 → Int32 → Int32 → Int32 → tk_ST → Option Int32) (x3_215 : Int32) (x5_215 : Int64) (x7_215 : Int32) (x8_215 : Int32) (x9_215 : Int32) (x10_215 : Int32) (x11_215 : Int32) (x12_215 : Int32) (S : tk_ST) : Option Int32 := f_L_areHands_216 k_161 x3_215 x5_215 x7_215 x8_215 x9_215 x10_215 x11_215 x12_215 (0 : Int32) S
def f_L_areHands_188 (k_161 : Int32 → Int32 → Int64 → Int32 → Int32 → Int32 → Int32 → Int32 → tk_ST → Option Int32) (x3_188 : Int32) (x4_188 : Int32) (x5_188 : Int64) (x7_188 : Int32) (x9_188 : Int32) (x10_188 : Int32) (x11_188 : Int32) (x12_188 : Int32) (k0_188 : Int32) (k1_188 : Int32) (S : tk_ST) : Option Int32 := (if x4_188 = 0 then f_L_areHands_215 k_161 x3_188 x5_188 x7_188 (k0_188 + k1_188) x9_188 x10_188 x11_188 x12_188 S else (if x12_188 = 0 then f_L_areHands_211 k_161 x3_188 x5_188 x7_188 (k0_188 + k1_188) x9_188 x10_188 x11_188 x12_188 S else (tk_b1 (f_L_has x5_188 x11_188) fun r36 => (if r36 = 0 then f_L_areHands_215 k_161 x3_188 x5_188 x7_188 (k0_188 + k1_188) x9_188 x10_188 x11_188 x12_188 S else f_L_areHands_211 k_161 x3_188 x5_188 x7_188 (k0_188 + k1_188) x9_188 x10_188 x11_188 x12_188 S))))
def f_L_areHands_161 : Nat → Int32 → Int32 → Int64 → Int32 → Int32 → Int32 → Int32 → Int32 → tk_ST → Option Int32
  | 0 => fun _ _ _ _ _ _ _ _ _ => none
  | n_161 + 1 => fun x3_161 x4_161 x5_161 x7_161 x8_161 x9_161 x10_161 x11_161 S => (if (54 : Int32) ≤ x11_161 then (if x4_161 = 0 then some (0 : Int32) else (if x8_161 ≤ 0 then some (0 : Int32) else (if 0 ≤ x7_161 then (if x9_161 = 0 then f_L_areHands_321 x3_161 S else (if x10_161 = 0 then f_L_areHands_321 x3_161 S else some (0 : Int32))) else (tk_b1 (f_L_bits x5_161) fun r46 => (if x8_161 = r46 then f_L_areHands_321 x3_161 S else some (0 : Int32)))))) else (tk_b1 (f0_X6_canPlay x11_161 S) fun r50 => (if r50 = 0 then f_L_areHands_188 (f_L_areHands_161 n_161) x3_161 x4_161 x5_161 x7_161 x9_161 x10_161 x11_161 r50 x8_161 (0 : Int32) S else f_L_areHands_188 (f_L_areHands_161 n_161) x3_161 x4_161 x5_161 x7_161 x9_161 x10_161 x11_161 r50 x8_161 (1 : Int32) S)))
theorem f_L_areHands_161_s (n_161 : Nat) (x3_161 : Int32) (x4_161 : Int32) (x5_161 : Int64) (x7_161 : Int32) (x8_161 : Int32) (x9_161 : Int32) (x10_161 : Int32) (x11_161 : Int32) (S : tk_ST) : f_L_areHands_161 (n_161 + 1) x3_161 x4_161 x5_161 x7_161 x8_161 x9_161 x10_161 x11_161 S = (if (54 : Int32) ≤ x11_161 then (if x4_161 = 0 then some (0 : Int32) else (if x8_161 ≤ 0 then some (0 : Int32) else (if 0 ≤ x7_161 then (if x9_161 = 0 then f_L_areHands_321 x3_161 S else (if x10_161 = 0 then f_L_areHands_321 x3_161 S else some (0 : Int32))) else (tk_b1 (f_L_bits x5_161) fun r46 => (if x8_161 = r46 then f_L_areHands_321 x3_161 S else some (0 : Int32)))))) else (tk_b1 (f0_X6_canPlay x11_161 S) fun r50 => (if r50 = 0 then f_L_areHands_188 (f_L_areHands_161 n_161) x3_161 x4_161 x5_161 x7_161 x9_161 x10_161 x11_161 r50 x8_161 (0 : Int32) S else f_L_areHands_188 (f_L_areHands_161 n_161) x3_161 x4_161 x5_161 x7_161 x9_161 x10_161 x11_161 r50 x8_161 (1 : Int32) S))) := rfl
def f_L_areHands_147 (x3_147 : Int32) (x4_147 : Int32) (x5_147 : Int64) (k0_147 : Int32) (S : tk_ST) : Option Int32 := f_L_areHands_161 64 x3_147 x4_147 x5_147 k0_147 (0 : Int32) (0 : Int32) (0 : Int32) (0 : Int32) S
def f_L_areHands_53 (x3_53 : Int32) (k0_53 : Int32) (S : tk_ST) : Option Int32 := (tk_b1 (f_X6_phase S) fun r54 => (if r54 = (5 : Int32) then (tk_b1 (f_X6_turn S) fun r58 => (tk_b1 (f0_X6_hand r58 S) fun r61 => (tk_b1 (f_X6_inTrick S) fun r64 => (if r64 = 0 then f_L_areHands_147 x3_53 k0_53 r61 (-1 : Int32) S else (tk_b1 (f0_X6_trickAt (0 : Int32) S) fun r68 => (tk_b1 (f_L_suit r68) fun r71 => f_L_areHands_147 x3_53 k0_53 r61 r71 S)))))) else f_L_areHands_66 64 k0_53 (0 : Int32) S))
def f_L_areHands_7 : Nat → Int64 → Int32 → Int32 → tk_ST → Option Int32
  | 0 => fun _ _ _ _ => none
  | n_7 + 1 => fun x1_7 x3_7 x4_7 S => (if (4 : Int32) ≤ x4_7 then (tk_b1 (f_L_bits x1_7) fun r75 => (if r75 = x3_7 then f_L_areHands_53 x3_7 (1 : Int32) S else f_L_areHands_53 x3_7 (0 : Int32) S)) else (tk_b1 (f0_X6_hand x4_7 S) fun r79 => (tk_b1 (f0_X6_hand x4_7 S) fun r82 => (tk_b1 (f_L_bits r82) fun r85 => (f_L_areHands_7 n_7) (x1_7 ||| r79) (x3_7 + r85) (x4_7 + (1 : Int32)) S))))
theorem f_L_areHands_7_s (n_7 : Nat) (x1_7 : Int64) (x3_7 : Int32) (x4_7 : Int32) (S : tk_ST) : f_L_areHands_7 (n_7 + 1) x1_7 x3_7 x4_7 S = (if (4 : Int32) ≤ x4_7 then (tk_b1 (f_L_bits x1_7) fun r75 => (if r75 = x3_7 then f_L_areHands_53 x3_7 (1 : Int32) S else f_L_areHands_53 x3_7 (0 : Int32) S)) else (tk_b1 (f0_X6_hand x4_7 S) fun r79 => (tk_b1 (f0_X6_hand x4_7 S) fun r82 => (tk_b1 (f_L_bits r82) fun r85 => (f_L_areHands_7 n_7) (x1_7 ||| r79) (x3_7 + r85) (x4_7 + (1 : Int32)) S)))) := rfl
def f_L_areHands (S : tk_ST) : Option Int32 := f_L_areHands_7 64 (0 : Int64) (0 : Int32) (0 : Int32) S
def f_L_areSides_268 (S : tk_ST) : Option Int32 := some (1 : Int32)
def f_L_areSides_253 (S : tk_ST) : Option Int32 := (tk_b1 (f_X6_called S) fun r1 => (if r1 < 0 then f_L_areSides_268 S else (tk_b1 (f_X6_level S) fun r5 => (if (4 : Int32) ≤ r5 then some (0 : Int32) else f_L_areSides_268 S))))
def f_L_areSides_239 (S : tk_ST) : Option Int32 := (tk_b1 (f_X6_declarer S) fun r9 => (if r9 < 0 then f_L_areSides_253 S else (tk_b1 (f_X6_level S) fun r13 => (if r13 ≤ 0 then some (0 : Int32) else f_L_areSides_253 S))))
def f_L_areSides_210 (x2_210 : Int32) (S : tk_ST) : Option Int32 := (if x2_210 = 0 then some (0 : Int32) else (tk_b1 (f_X6_partner S) fun r18 => (if r18 < 0 then f_L_areSides_239 S else (tk_b1 (f_X6_called S) fun r22 => (if r22 < 0 then some (0 : Int32) else (tk_b1 (f_X6_partner S) fun r26 => (tk_b1 (f_X6_declarer S) fun r29 => (if r26 = r29 then some (0 : Int32) else f_L_areSides_239 S))))))))
def f_L_areSides_204 (k_81 : Int32 → Int32 → tk_ST → Option Int32) (x2_204 : Int32) (x4_204 : Int32) (S : tk_ST) : Option Int32 := k_81 x2_204 (x4_204 + (1 : Int32)) S
def f_L_areSides_197 (k_81 : Int32 → Int32 → tk_ST → Option Int32) (k_153 : Int32 → Int32 → Int32 → tk_ST → Option Int32) (x4_197 : Int32) (x5_197 : Int32) (k0_197 : Int32) (S : tk_ST) : Option Int32 := k_153 k0_197 x4_197 (x5_197 + (1 : Int32)) S
def f_L_areSides_192 (k_81 : Int32 → Int32 → tk_ST → Option Int32) (k_153 : Int32 → Int32 → Int32 → tk_ST → Option Int32) (x4_192 : Int32) (x5_192 : Int32) (S : tk_ST) : Option Int32 := f_L_areSides_197 k_81 k_153 x4_192 x5_192 (1 : Int32) S
def f_L_areSides_153 (k_81 : Int32 → Int32 → tk_ST → Option Int32) : Nat → Int32 → Int32 → Int32 → tk_ST → Option Int32
  | 0 => fun _ _ _ _ => none
  | n_153 + 1 => fun x2_153 x4_153 x5_153 S => (if (4 : Int32) ≤ x5_153 then f_L_areSides_204 k_81 x2_153 x4_153 S else (if x2_153 = 0 then f_L_areSides_204 k_81 x2_153 x4_153 S else (tk_b1 (f0_X6_knows x4_153 x5_153 S) fun r35 => (if r35 = (-1 : Int32) then f_L_areSides_192 k_81 (f_L_areSides_153 k_81 n_153) x4_153 x5_153 S else (tk_b1 (f0_X6_knows x5_153 x5_153 S) fun r39 => (if r35 = r39 then f_L_areSides_192 k_81 (f_L_areSides_153 k_81 n_153) x4_153 x5_153 S else f_L_areSides_197 k_81 (f_L_areSides_153 k_81 n_153) x4_153 x5_153 (0 : Int32) S))))))
theorem f_L_areSides_153_s (k_81 : Int32 → Int32 → tk_ST → Option Int32) (n_153 : Nat) (x2_153 : Int32) (x4_153 : Int32) (x5_153 : Int32) (S : tk_ST) : f_L_areSides_153 k_81 (n_153 + 1) x2_153 x4_153 x5_153 S = (if (4 : Int32) ≤ x5_153 then f_L_areSides_204 k_81 x2_153 x4_153 S else (if x2_153 = 0 then f_L_areSides_204 k_81 x2_153 x4_153 S else (tk_b1 (f0_X6_knows x4_153 x5_153 S) fun r35 => (if r35 = (-1 : Int32) then f_L_areSides_192 k_81 (f_L_areSides_153 k_81 n_153) x4_153 x5_153 S else (tk_b1 (f0_X6_knows x5_153 x5_153 S) fun r39 => (if r35 = r39 then f_L_areSides_192 k_81 (f_L_areSides_153 k_81 n_153) x4_153 x5_153 S else f_L_areSides_197 k_81 (f_L_areSides_153 k_81 n_153) x4_153 x5_153 (0 : Int32) S)))))) := rfl
def f_L_areSides_149 (k_81 : Int32 → Int32 → tk_ST → Option Int32) (x4_149 : Int32) (k0_149 : Int32) (S : tk_ST) : Option Int32 := f_L_areSides_153 k_81 64 k0_149 x4_149 (0 : Int32) S
def f_L_areSides_141 (k_81 : Int32 → Int32 → tk_ST → Option Int32) (x4_141 : Int32) (k0_141 : Int32) (k1_141 : Int32) (S : tk_ST) : Option Int32 := (if k0_141 = k1_141 then f_L_areSides_149 k_81 x4_141 (1 : Int32) S else f_L_areSides_149 k_81 x4_141 (0 : Int32) S)
def f_L_areSides_114 (k_81 : Int32 → Int32 → tk_ST → Option Int32) (x4_114 : Int32) (k0_114 : Int32) (S : tk_ST) : Option Int32 := f_L_areSides_141 k_81 x4_114 k0_114 (-1 : Int32) S
def f_L_areSides_136 (k_81 : Int32 → Int32 → tk_ST → Option Int32) (x4_136 : Int32) (k0_136 : Int32) (S : tk_ST) : Option Int32 := f_L_areSides_141 k_81 x4_136 k0_136 (0 : Int32) S
def f_L_areSides_81 : Nat → Int32 → Int32 → tk_ST → Option Int32
  | 0 => fun _ _ _ => none
  | n_81 + 1 => fun x2_81 x4_81 S => (if (4 : Int32) ≤ x4_81 then f_L_areSides_210 x2_81 S else (if x2_81 = 0 then f_L_areSides_210 x2_81 S else (tk_b1 (f0_X6_knows x4_81 x4_81 S) fun r46 => (tk_b1 (f_X6_declarer S) fun r49 => (if r49 < 0 then f_L_areSides_114 (f_L_areSides_81 n_81) x4_81 r46 S else (tk_b1 (f_X6_phase S) fun r53 => (if r53 = (2 : Int32) then f_L_areSides_114 (f_L_areSides_81 n_81) x4_81 r46 S else (tk_b1 (f_X6_declarer S) fun r57 => (if x4_81 = r57 then f_L_areSides_136 (f_L_areSides_81 n_81) x4_81 r46 S else (tk_b1 (f_X6_partner S) fun r61 => (if x4_81 = r61 then f_L_areSides_136 (f_L_areSides_81 n_81) x4_81 r46 S else f_L_areSides_141 (f_L_areSides_81 n_81) x4_81 r46 (1 : Int32) S)))))))))))
theorem f_L_areSides_81_s (n_81 : Nat) (x2_81 : Int32) (x4_81 : Int32) (S : tk_ST) : f_L_areSides_81 (n_81 + 1) x2_81 x4_81 S = (if (4 : Int32) ≤ x4_81 then f_L_areSides_210 x2_81 S else (if x2_81 = 0 then f_L_areSides_210 x2_81 S else (tk_b1 (f0_X6_knows x4_81 x4_81 S) fun r46 => (tk_b1 (f_X6_declarer S) fun r49 => (if r49 < 0 then f_L_areSides_114 (f_L_areSides_81 n_81) x4_81 r46 S else (tk_b1 (f_X6_phase S) fun r53 => (if r53 = (2 : Int32) then f_L_areSides_114 (f_L_areSides_81 n_81) x4_81 r46 S else (tk_b1 (f_X6_declarer S) fun r57 => (if x4_81 = r57 then f_L_areSides_136 (f_L_areSides_81 n_81) x4_81 r46 S else (tk_b1 (f_X6_partner S) fun r61 => (if x4_81 = r61 then f_L_areSides_136 (f_L_areSides_81 n_81) x4_81 r46 S else f_L_areSides_141 (f_L_areSides_81 n_81) x4_81 r46 (1 : Int32) S))))))))))) := rfl
def f_L_areSides_77 (k0_77 : Int32) (S : tk_ST) : Option Int32 := f_L_areSides_81 64 k0_77 (0 : Int32) S
def f_L_areSides_76 (S : tk_ST) : Option Int32 := f_L_areSides_77 (0 : Int32) S
def f_L_areSides_44 (x1_44 : Int32) (k0_44 : Int32) (S : tk_ST) : Option Int32 := (tk_b1 (f0_X6_byPacks (0 : Int32) S) fun r65 => (tk_b1 (f0_X6_byPacks (1 : Int32) S) fun r68 => (if k0_44 = 0 then f_L_areSides_76 S else (if (r65 + r68) < 0 then f_L_areSides_76 S else (if x1_44 < ((3 : Int32) * (r65 + r68)) then f_L_areSides_76 S else f_L_areSides_77 (1 : Int32) S)))))
def f_L_areSides_39 (x1_39 : Int32) (S : tk_ST) : Option Int32 := f_L_areSides_44 x1_39 (1 : Int32) S
def f_L_areSides_43 (x1_43 : Int32) (S : tk_ST) : Option Int32 := f_L_areSides_44 x1_43 (0 : Int32) S
def f_L_areSides (S : tk_ST) : Option Int32 := (tk_b1 (f0_X6_thirds (0 : Int32) S) fun r74 => (tk_b1 (f0_X6_thirds (1 : Int32) S) fun r77 => (if (r74 + r77) < 0 then f_L_areSides_43 (r74 + r77) S else (if (210 : Int32) < (r74 + r77) then f_L_areSides_43 (r74 + r77) S else (tk_b1 (f_X6_tricks S) fun r82 => (if r82 < (12 : Int32) then f_L_areSides_39 (r74 + r77) S else (if (r74 + r77) = (210 : Int32) then f_L_areSides_39 (r74 + r77) S else f_L_areSides_43 (r74 + r77) S)))))))
def f_L_wins_108 (k_9 : Int32 → Int32 → Int32 → Int32 → Int32 → Int32 → Option Int32) (x1_108 : Int32) (x2_108 : Int32) (x3_108 : Int32) (x5_108 : Int32) (x6_108 : Int32) (k0_108 : Int32) : Option Int32 := k_9 x1_108 x2_108 x3_108 k0_108 x5_108 (x6_108 + (1 : Int32))
def f_L_wins_94 (k_9 : Int32 → Int32 → Int32 → Int32 → Int32 → Int32 → Option Int32) (x1_94 : Int32) (x2_94 : Int32) (x3_94 : Int32) (x4_94 : Int32) (x6_94 : Int32) (x7_94 : Int32) (x8_94 : Int32) (k0_94 : Int32) : Option Int32 := (if x8_94 = 0 then f_L_wins_108 k_9 x1_94 x2_94 x3_94 k0_94 x6_94 x4_94 else f_L_wins_108 k_9 x1_94 x2_94 x3_94 k0_94 x6_94 x7_94)
def f_L_wins_80 (k_9 : Int32 → Int32 → Int32 → Int32 → Int32 → Int32 → Option Int32) (x1_80 : Int32) (x2_80 : Int32) (x3_80 : Int32) (x4_80 : Int32) (x5_80 : Int32) (x6_80 : Int32) (x7_80 : Int32) (k0_80 : Int32) : Option Int32 := (if k0_80 = 0 then f_L_wins_94 k_9 x1_80 x2_80 x3_80 x4_80 x6_80 x7_80 k0_80 x5_80 else f_L_wins_94 k_9 x1_80 x2_80 x3_80 x4_80 x6_80 x7_80 k0_80 x6_80)
def f_L_wins_36 (k_9 : Int32 → Int32 → Int32 → Int32 → Int32 → Int32 → Option Int32) (x1_36 : Int32) (x2_36 : Int32) (x3_36 : Int32) (x4_36 : Int32) (x5_36 : Int32) (x6_36 : Int32) (k0_36 : Int32) : Option Int32 := (tk_b1 (f_L_suit k0_36) fun r3 => (tk_b1 (f_L_suit x4_36) fun r6 => (if r3 = r6 then (if k0_36 ≤ x4_36 then f_L_wins_80 k_9 x1_36 x2_36 x3_36 x4_36 x5_36 x6_36 k0_36 (0 : Int32) else f_L_wins_80 k_9 x1_36 x2_36 x3_36 x4_36 x5_36 x6_36 k0_36 (1 : Int32)) else (tk_b1 (f_L_suit k0_36) fun r10 => (if r10 = (4 : Int32) then f_L_wins_80 k_9 x1_36 x2_36 x3_36 x4_36 x5_36 x6_36 k0_36 (1 : Int32) else f_L_wins_80 k_9 x1_36 x2_36 x3_36 x4_36 x5_36 x6_36 k0_36 (0 : Int32))))))
def f_L_wins_9 : Nat → Int32 → Int32 → Int32 → Int32 → Int32 → Int32 → Option Int32
  | 0 => fun _ _ _ _ _ _ => none
  | n_9 + 1 => fun x1_9 x2_9 x3_9 x4_9 x5_9 x6_9 => (if (4 : Int32) ≤ x6_9 then some x5_9 else (if x6_9 = (1 : Int32) then f_L_wins_36 (f_L_wins_9 n_9) x1_9 x2_9 x3_9 x4_9 x5_9 x6_9 x1_9 else (if x6_9 = (2 : Int32) then f_L_wins_36 (f_L_wins_9 n_9) x1_9 x2_9 x3_9 x4_9 x5_9 x6_9 x2_9 else f_L_wins_36 (f_L_wins_9 n_9) x1_9 x2_9 x3_9 x4_9 x5_9 x6_9 x3_9)))
theorem f_L_wins_9_s (n_9 : Nat) (x1_9 : Int32) (x2_9 : Int32) (x3_9 : Int32) (x4_9 : Int32) (x5_9 : Int32) (x6_9 : Int32) : f_L_wins_9 (n_9 + 1) x1_9 x2_9 x3_9 x4_9 x5_9 x6_9 = (if (4 : Int32) ≤ x6_9 then some x5_9 else (if x6_9 = (1 : Int32) then f_L_wins_36 (f_L_wins_9 n_9) x1_9 x2_9 x3_9 x4_9 x5_9 x6_9 x1_9 else (if x6_9 = (2 : Int32) then f_L_wins_36 (f_L_wins_9 n_9) x1_9 x2_9 x3_9 x4_9 x5_9 x6_9 x2_9 else f_L_wins_36 (f_L_wins_9 n_9) x1_9 x2_9 x3_9 x4_9 x5_9 x6_9 x3_9))) := rfl
def f_L_wins (p0 : Int32) (p1 : Int32) (p2 : Int32) (p3 : Int32) : Option Int32 := f_L_wins_9 64 p1 p2 p3 p0 (0 : Int32) (1 : Int32)
def f_L_drawn_8 : Nat → Int64 → Int32 → Int32 → Option Int32
  | 0 => fun _ _ _ => none
  | n_8 + 1 => fun x0_8 x3_8 x4_8 => (if (54 : Int32) ≤ x4_8 then some x3_8 else (tk_b1 (f_L_has x0_8 x3_8) fun r2 => (if r2 = 0 then (f_L_drawn_8 n_8) x0_8 (tk_rem (x3_8 + (1 : Int32)) (54 : Int32)) (x4_8 + (1 : Int32)) else some x3_8)))
theorem f_L_drawn_8_s (n_8 : Nat) (x0_8 : Int64) (x3_8 : Int32) (x4_8 : Int32) : f_L_drawn_8 (n_8 + 1) x0_8 x3_8 x4_8 = (if (54 : Int32) ≤ x4_8 then some x3_8 else (tk_b1 (f_L_has x0_8 x3_8) fun r2 => (if r2 = 0 then (f_L_drawn_8 n_8) x0_8 (tk_rem (x3_8 + (1 : Int32)) (54 : Int32)) (x4_8 + (1 : Int32)) else some x3_8))) := rfl
def f_L_drawn (p0 : Int64) (p1 : Int32) : Option Int32 := f_L_drawn_8 64 p0 (tk_rem p1 (54 : Int32)) (0 : Int32)
def f_L_isScored_326 (k_253 : Int32 → Int32 → Int32 → Int32 → tk_ST → Option Int32) (x5_326 : Int32) (x8_326 : Int32) (x10_326 : Int32) (k0_326 : Int32) (S : tk_ST) : Option Int32 := k_253 k0_326 x5_326 x8_326 (x10_326 + (1 : Int32)) S
def f_L_isScored_325 (k_253 : Int32 → Int32 → Int32 → Int32 → tk_ST → Option Int32) (x5_325 : Int32) (x8_325 : Int32) (x10_325 : Int32) (S : tk_ST) : Option Int32 := f_L_isScored_326 k_253 x5_325 x8_325 x10_325 (0 : Int32) S
def f_L_isScored_317 (k_253 : Int32 → Int32 → Int32 → Int32 → tk_ST → Option Int32) (x5_317 : Int32) (x8_317 : Int32) (x10_317 : Int32) (k0_317 : Int32) (k1_317 : Int32) (k2_317 : Int32) (S : tk_ST) : Option Int32 := (if k0_317 = (k1_317 + k2_317) then f_L_isScored_326 k_253 x5_317 x8_317 x10_317 (1 : Int32) S else f_L_isScored_325 k_253 x5_317 x8_317 x10_317 S)
def f_L_isScored_283 (k_253 : Int32 → Int32 → Int32 → Int32 → tk_ST → Option Int32) (x3_283 : Int32) (x5_283 : Int32) (x8_283 : Int32) (x10_283 : Int32) (k0_283 : Int32) (S : tk_ST) : Option Int32 := (if x3_283 = 0 then f_L_isScored_325 k_253 x5_283 x8_283 x10_283 S else (tk_b1 (f0_X6_radli x10_283 S) fun r3 => (if ((4 : Int32) + x10_283) < 0 ∨ 8 ≤ ((4 : Int32) + x10_283).toNatClampNeg then none else (tk_b1 (f_X6_level S) fun r7 => (if r7 ≤ (3 : Int32) then f_L_isScored_317 k_253 x5_283 x8_283 x10_283 r3 (((S.2.2.1 4) ((4 : Int32) + x10_283).toNatClampNeg) - k0_283) (0 : Int32) S else f_L_isScored_317 k_253 x5_283 x8_283 x10_283 r3 (((S.2.2.1 4) ((4 : Int32) + x10_283).toNatClampNeg) - k0_283) (1 : Int32) S)))))
def f_L_isScored_282 (k_253 : Int32 → Int32 → Int32 → Int32 → tk_ST → Option Int32) (x3_282 : Int32) (x5_282 : Int32) (x8_282 : Int32) (x10_282 : Int32) (S : tk_ST) : Option Int32 := f_L_isScored_283 k_253 x3_282 x5_282 x8_282 x10_282 (0 : Int32) S
def f_L_isScored_253 : Nat → Int32 → Int32 → Int32 → Int32 → tk_ST → Option Int32
  | 0 => fun _ _ _ _ _ => none
  | n_253 + 1 => fun x3_253 x5_253 x8_253 x10_253 S => (if (4 : Int32) ≤ x10_253 then (if x3_253 = 0 ∨ x3_253 = 1 then some x3_253 else none) else (tk_b1 (f_X6_declarer S) fun r13 => (if x10_253 = r13 then (if x8_253 ≤ 0 then f_L_isScored_282 (f_L_isScored_253 n_253) x3_253 x5_253 x8_253 x10_253 S else (if x5_253 = 0 then f_L_isScored_282 (f_L_isScored_253 n_253) x3_253 x5_253 x8_253 x10_253 S else f_L_isScored_283 (f_L_isScored_253 n_253) x3_253 x5_253 x8_253 x10_253 (1 : Int32) S)) else f_L_isScored_282 (f_L_isScored_253 n_253) x3_253 x5_253 x8_253 x10_253 S)))
theorem f_L_isScored_253_s (n_253 : Nat) (x3_253 : Int32) (x5_253 : Int32) (x8_253 : Int32) (x10_253 : Int32) (S : tk_ST) : f_L_isScored_253 (n_253 + 1) x3_253 x5_253 x8_253 x10_253 S = (if (4 : Int32) ≤ x10_253 then (if x3_253 = 0 ∨ x3_253 = 1 then some x3_253 else none) else (tk_b1 (f_X6_declarer S) fun r13 => (if x10_253 = r13 then (if x8_253 ≤ 0 then f_L_isScored_282 (f_L_isScored_253 n_253) x3_253 x5_253 x8_253 x10_253 S else (if x5_253 = 0 then f_L_isScored_282 (f_L_isScored_253 n_253) x3_253 x5_253 x8_253 x10_253 S else f_L_isScored_283 (f_L_isScored_253 n_253) x3_253 x5_253 x8_253 x10_253 (1 : Int32) S)) else f_L_isScored_282 (f_L_isScored_253 n_253) x3_253 x5_253 x8_253 x10_253 S))) := rfl
def f_L_isScored_249 (x5_249 : Int32) (x8_249 : Int32) (k0_249 : Int32) (S : tk_ST) : Option Int32 := f_L_isScored_253 64 k0_249 x5_249 x8_249 (0 : Int32) S
def f_L_isScored_248 (x5_248 : Int32) (x8_248 : Int32) (S : tk_ST) : Option Int32 := f_L_isScored_249 x5_248 x8_248 (0 : Int32) S
def f_L_isScored_223 (x5_223 : Int32) (x8_223 : Int32) (x9_223 : Int32) (S : tk_ST) : Option Int32 := (if x9_223 < (-70 : Int32) then f_L_isScored_248 x5_223 x8_223 S else (if (70 : Int32) < x9_223 then f_L_isScored_248 x5_223 x8_223 S else (if (tk_rem x9_223 (5 : Int32)) = 0 then f_L_isScored_249 x5_223 x8_223 (1 : Int32) S else f_L_isScored_248 x5_223 x8_223 S)))
def f_L_isScored_203 (x2_203 : Int32) (x3_203 : Int32) (x5_203 : Int32) (x7_203 : Int32) (x8_203 : Int32) (k0_203 : Int32) (S : tk_ST) : Option Int32 := (if x3_203 = 0 then f_L_isScored_248 x5_203 x8_203 S else (if x8_203 = 0 then f_L_isScored_223 x5_203 x8_203 (k0_203 - x7_203) S else (if (tk_rem x2_203 (2 : Int32)) = 0 then f_L_isScored_223 x5_203 x8_203 (k0_203 - x7_203) S else f_L_isScored_248 x5_203 x8_203 S)))
def f_L_isScored_179 (x2_179 : Int32) (x3_179 : Int32) (x5_179 : Int32) (k0_179 : Int32) (S : tk_ST) : Option Int32 := (tk_b1 (f_X6_declarer S) fun r25 => (if ((4 : Int32) + r25) < 0 ∨ 8 ≤ ((4 : Int32) + r25).toNatClampNeg then none else (if ((S.2.2.1 4) ((4 : Int32) + r25).toNatClampNeg) ≤ 0 then f_L_isScored_203 x2_179 x3_179 x5_179 k0_179 ((S.2.2.1 4) ((4 : Int32) + r25).toNatClampNeg) x2_179 S else f_L_isScored_203 x2_179 x3_179 x5_179 k0_179 ((S.2.2.1 4) ((4 : Int32) + r25).toNatClampNeg) (x2_179 / (2 : Int32)) S)))
def f_L_isScored_163 (x2_163 : Int32) (x3_163 : Int32) (x5_163 : Int32) (k0_163 : Int32) (k1_163 : Int32) (S : tk_ST) : Option Int32 := (if x5_163 = 0 then f_L_isScored_179 x2_163 x3_163 x5_163 (-(k0_163 + k1_163)) S else f_L_isScored_179 x2_163 x3_163 x5_163 (k0_163 + k1_163) S)
def f_L_isScored_126 (x2_126 : Int32) (x3_126 : Int32) (x5_126 : Int32) (k0_126 : Int32) (S : tk_ST) : Option Int32 := (tk_b1 (f_X6_level S) fun r31 => (if r31 = (4 : Int32) then f_L_isScored_163 x2_126 x3_126 x5_126 k0_126 (50 : Int32) S else (tk_b1 (f_X6_level S) fun r35 => (if r35 = (5 : Int32) then f_L_isScored_163 x2_126 x3_126 x5_126 k0_126 (80 : Int32) S else (tk_b1 (f_X6_level S) fun r39 => f_L_isScored_163 x2_126 x3_126 x5_126 k0_126 ((10 : Int32) * r39) S)))))
def f_L_isScored_124 (x2_124 : Int32) (x3_124 : Int32) (x5_124 : Int32) (k0_124 : Int32) (S : tk_ST) : Option Int32 := f_L_isScored_126 x2_124 x3_124 x5_124 (k0_124 / (3 : Int32)) S
def f_L_isScored_92 (x2_92 : Int32) (x3_92 : Int32) (x4_92 : Int32) (k0_92 : Int32) (S : tk_ST) : Option Int32 := (tk_b1 (f_X6_level S) fun r42 => (if r42 = (5 : Int32) then f_L_isScored_126 x2_92 x3_92 k0_92 (0 : Int32) S else (if k0_92 = 0 then f_L_isScored_124 x2_92 x3_92 k0_92 ((105 : Int32) - x4_92) S else f_L_isScored_124 x2_92 x3_92 k0_92 (x4_92 - (105 : Int32)) S)))
def f_L_isScored_66 (k_10 : Int32 → Int32 → Int32 → tk_ST → Option Int32) (x2_66 : Int32) (x4_66 : Int32) (k0_66 : Int32) (S : tk_ST) : Option Int32 := k_10 x2_66 k0_66 (x4_66 + (1 : Int32)) S
def f_L_isScored_65 (k_10 : Int32 → Int32 → Int32 → tk_ST → Option Int32) (x2_65 : Int32) (x4_65 : Int32) (S : tk_ST) : Option Int32 := f_L_isScored_66 k_10 x2_65 x4_65 (0 : Int32) S
def f_L_isScored_39 (k_10 : Int32 → Int32 → Int32 → tk_ST → Option Int32) (x2_39 : Int32) (x3_39 : Int32) (x4_39 : Int32) (k0_39 : Int32) (S : tk_ST) : Option Int32 := (if x3_39 = 0 then f_L_isScored_65 k_10 x2_39 x4_39 S else (tk_b1 (f0_X6_score x4_39 S) fun r48 => (if x4_39 < 0 ∨ 8 ≤ x4_39.toNatClampNeg then none else (if r48 = (((S.2.2.1 4) x4_39.toNatClampNeg) + k0_39) then f_L_isScored_66 k_10 x2_39 x4_39 (1 : Int32) S else f_L_isScored_65 k_10 x2_39 x4_39 S))))
def f_L_isScored_34 (k_10 : Int32 → Int32 → Int32 → tk_ST → Option Int32) (x2_34 : Int32) (x3_34 : Int32) (x4_34 : Int32) (S : tk_ST) : Option Int32 := f_L_isScored_39 k_10 x2_34 x3_34 x4_34 x2_34 S
def f_L_isScored_10 : Nat → Int32 → Int32 → Int32 → tk_ST → Option Int32
  | 0 => fun _ _ _ _ => none
  | n_10 + 1 => fun x2_10 x3_10 x4_10 S => (if (4 : Int32) ≤ x4_10 then (tk_b1 (f0_X6_thirds (0 : Int32) S) fun r54 => (if r54 ≤ (105 : Int32) then f_L_isScored_92 x2_10 x3_10 r54 (0 : Int32) S else f_L_isScored_92 x2_10 x3_10 r54 (1 : Int32) S)) else (tk_b1 (f_X6_declarer S) fun r58 => (if x4_10 = r58 then f_L_isScored_34 (f_L_isScored_10 n_10) x2_10 x3_10 x4_10 S else (tk_b1 (f_X6_partner S) fun r62 => (if x4_10 = r62 then f_L_isScored_34 (f_L_isScored_10 n_10) x2_10 x3_10 x4_10 S else f_L_isScored_39 (f_L_isScored_10 n_10) x2_10 x3_10 x4_10 (0 : Int32) S)))))
theorem f_L_isScored_10_s (n_10 : Nat) (x2_10 : Int32) (x3_10 : Int32) (x4_10 : Int32) (S : tk_ST) : f_L_isScored_10 (n_10 + 1) x2_10 x3_10 x4_10 S = (if (4 : Int32) ≤ x4_10 then (tk_b1 (f0_X6_thirds (0 : Int32) S) fun r54 => (if r54 ≤ (105 : Int32) then f_L_isScored_92 x2_10 x3_10 r54 (0 : Int32) S else f_L_isScored_92 x2_10 x3_10 r54 (1 : Int32) S)) else (tk_b1 (f_X6_declarer S) fun r58 => (if x4_10 = r58 then f_L_isScored_34 (f_L_isScored_10 n_10) x2_10 x3_10 x4_10 S else (tk_b1 (f_X6_partner S) fun r62 => (if x4_10 = r62 then f_L_isScored_34 (f_L_isScored_10 n_10) x2_10 x3_10 x4_10 S else f_L_isScored_39 (f_L_isScored_10 n_10) x2_10 x3_10 x4_10 (0 : Int32) S))))) := rfl
def f_L_isScored (S : tk_ST) : Option Int32 := (tk_b1 (f_X6_result S) fun r66 => f_L_isScored_10 64 r66 (1 : Int32) (0 : Int32) S)
def f_L_isPlayed_320 (x12_320 : Int32) (x15_320 : Int32) (k0_320 : Int32) (k1_320 : Int32) (S_320 : tk_ST) : Option (Int32 × tk_ST) := (if k0_320 = k1_320 then (tk_b1 (f0_X6_thirds (0 : Int32) S_320) fun r2 => (tk_b1 (f0_X6_thirds (1 : Int32) S_320) fun r5 => (if (r2 + r5) = (x12_320 + x15_320) then some ((1 : Int32), S_320) else some ((0 : Int32), S_320)))) else some ((0 : Int32), S_320))
def f_L_isPlayed_168 (x2_168 : Int32) (x3_168 : Int32) (x4_168 : Int32) (x7_168 : Int32) (x9_168 : Int32) (x10_168 : Int32) (x11_168 : Int32) (x12_168 : Int32) (x13_168 : Int32) (k0_168 : Int32) (S_168 : tk_ST) : Option (Int32 × tk_ST) := (if (3 : Int32) ≤ x3_168 then (tk_b1 (f0_X6_valueOf x9_168 S_168) fun r10 => (tk_b1 (f0_X6_valueOf x10_168 S_168) fun r13 => (tk_b1 (f0_X6_valueOf x11_168 S_168) fun r16 => (tk_b1 (f0_X6_valueOf x7_168 S_168) fun r19 => (if k0_168 = 0 then some ((0 : Int32), S_168) else (tk_b1 (f_L_wins x9_168 x10_168 x11_168 x7_168) fun r23 => (if x13_168 = (tk_rem ((x2_168 + (1 : Int32)) + r23) (4 : Int32)) then (tk_b1 (f_X6_tricks S_168) fun r27 => (if r27 = (x4_168 + (1 : Int32)) then (tk_b1 (f_X6_inTrick S_168) fun r31 => (if r31 = 0 then (tk_b1 (f_X6_turn S_168) fun r35 => (if x4_168 = (11 : Int32) then f_L_isPlayed_320 x12_168 (((3 : Int32) * (((r10 + r13) + r16) + r19)) - (8 : Int32)) r35 (-1 : Int32) S_168 else f_L_isPlayed_320 x12_168 (((3 : Int32) * (((r10 + r13) + r16) + r19)) - (8 : Int32)) r35 x13_168 S_168)) else some ((0 : Int32), S_168))) else some ((0 : Int32), S_168))) else some ((0 : Int32), S_168)))))))) else (if k0_168 = 0 then some ((0 : Int32), S_168) else (if x13_168 = (-1 : Int32) then (tk_b1 (f_X6_inTrick S_168) fun r41 => (if r41 = (x3_168 + (1 : Int32)) then (tk_b1 (f0_X6_trickAt x3_168 S_168) fun r45 => (if r45 = x7_168 then (tk_b1 (f_X6_turn S_168) fun r49 => (if r49 = (tk_rem (x2_168 + (1 : Int32)) (4 : Int32)) then some ((1 : Int32), S_168) else some ((0 : Int32), S_168))) else some ((0 : Int32), S_168))) else some ((0 : Int32), S_168))) else some ((0 : Int32), S_168))))
def f_L_isPlayed_87 (x2_87 : Int32) (x3_87 : Int32) (x4_87 : Int32) (x5_87 : Int64) (x7_87 : Int32) (x8_87 : Int32) (x9_87 : Int32) (x10_87 : Int32) (k0_87 : Int32) (S_87 : tk_ST) : Option (Int32 × tk_ST) := (tk_b1 (f0_X6_thirds (0 : Int32) S_87) fun r53 => (tk_b1 (f0_X6_thirds (1 : Int32) S_87) fun r56 => (tk_b2 (f_L_plays x7_87 S_87) fun r59 S60 => (if x8_87 = 0 then (if r59 = (-9 : Int32) then (tk_b1 (f0_X6_hand x2_87 S60) fun r68 => (if (lg_cmp r68 x5_87) = 0 then (tk_b1 (f_X6_turn S60) fun r72 => (if r72 = x2_87 then some ((1 : Int32), S60) else some ((0 : Int32), S60))) else some ((0 : Int32), S60))) else some ((0 : Int32), S60)) else (tk_b1 (f0_X6_hand x2_87 S60) fun r63 => (if (lg_cmp r63 (x5_87 - ((1 : Int64) <<< (x7_87.toInt64 &&& 63)))) = 0 then f_L_isPlayed_168 x2_87 x3_87 x4_87 x7_87 x9_87 x10_87 k0_87 (r53 + r56) r59 (1 : Int32) S60 else f_L_isPlayed_168 x2_87 x3_87 x4_87 x7_87 x9_87 x10_87 k0_87 (r53 + r56) r59 (0 : Int32) S60))))))
def f_L_isPlayed_70 (x2_70 : Int32) (x3_70 : Int32) (x4_70 : Int32) (x5_70 : Int64) (x7_70 : Int32) (x8_70 : Int32) (x9_70 : Int32) (k0_70 : Int32) (S_70 : tk_ST) : Option (Int32 × tk_ST) := (if x3_70 ≤ (2 : Int32) then f_L_isPlayed_87 x2_70 x3_70 x4_70 x5_70 x7_70 x8_70 x9_70 k0_70 x7_70 S_70 else (tk_b1 (f0_X6_trickAt (2 : Int32) S_70) fun r77 => f_L_isPlayed_87 x2_70 x3_70 x4_70 x5_70 x7_70 x8_70 x9_70 k0_70 r77 S_70))
def f_L_isPlayed_53 (x2_53 : Int32) (x3_53 : Int32) (x4_53 : Int32) (x5_53 : Int64) (x7_53 : Int32) (x8_53 : Int32) (k0_53 : Int32) (S_53 : tk_ST) : Option (Int32 × tk_ST) := (if x3_53 ≤ (1 : Int32) then f_L_isPlayed_70 x2_53 x3_53 x4_53 x5_53 x7_53 x8_53 k0_53 x7_53 S_53 else (tk_b1 (f0_X6_trickAt (1 : Int32) S_53) fun r81 => f_L_isPlayed_70 x2_53 x3_53 x4_53 x5_53 x7_53 x8_53 k0_53 r81 S_53))
def f_L_isPlayed (p1 : Int32) (S : tk_ST) : Option (Int32 × tk_ST) := (tk_b1 (f_X6_turn S) fun r84 => (tk_b1 (f_X6_inTrick S) fun r87 => (tk_b1 (f_X6_tricks S) fun r90 => (tk_b1 (f0_X6_hand r84 S) fun r93 => (tk_b1 (f_L_drawn r93 p1) fun r96 => (tk_b1 (f0_X6_canPlay r96 S) fun r99 => (if r87 ≤ 0 then f_L_isPlayed_53 r84 r87 r90 r93 r96 r99 r96 S else (tk_b1 (f0_X6_trickAt (0 : Int32) S) fun r103 => f_L_isPlayed_53 r84 r87 r90 r93 r96 r99 r103 S))))))))
end
section
def f_law_1088 (L : Nat) (xs : Nat → Int32) (k_71 : Int32 → Int32 → Int32 → Int32 → tk_ST → Option Int32) (x3_1088 : Int32) (x5_1088 : Int32) (x6_1088 : Int32) (k0_1088 : Int32) (S : tk_ST) : Option Int32 := k_71 x3_1088 k0_1088 x5_1088 (x6_1088 + (1 : Int32)) S
def f_law_1083 (L : Nat) (xs : Nat → Int32) (k_71 : Int32 → Int32 → Int32 → Int32 → tk_ST → Option Int32) (x3_1083 : Int32) (x5_1083 : Int32) (x6_1083 : Int32) (S : tk_ST) : Option Int32 := f_law_1088 L xs k_71 x3_1083 x5_1083 x6_1083 (1 : Int32) S
def f_law_1087 (L : Nat) (xs : Nat → Int32) (k_71 : Int32 → Int32 → Int32 → Int32 → tk_ST → Option Int32) (x3_1087 : Int32) (x5_1087 : Int32) (x6_1087 : Int32) (S : tk_ST) : Option Int32 := f_law_1088 L xs k_71 x3_1087 x5_1087 x6_1087 (0 : Int32) S
def f_law_1043 (L : Nat) (xs : Nat → Int32) (k_71 : Int32 → Int32 → Int32 → Int32 → tk_ST → Option Int32) (x3_1043 : Int32) (x4_1043 : Int32) (x5_1043 : Int32) (x6_1043 : Int32) (x9_1043 : Int32) (S : tk_ST) : Option Int32 := (if x4_1043 = 0 then f_law_1087 L xs k_71 x3_1043 x5_1043 x6_1043 S else (tk_b1 (f_L_areHands S) fun r2 => (if r2 = 0 then f_law_1087 L xs k_71 x3_1043 x5_1043 x6_1043 S else (tk_b1 (f_L_areSides S) fun r6 => (if r6 = 0 then f_law_1087 L xs k_71 x3_1043 x5_1043 x6_1043 S else (if x9_1043 = (5 : Int32) then (tk_b1 (f_X6_phase S) fun r11 => (if r11 = 0 then (tk_b1 (f_L_isScored S) fun r15 => (if r15 = 0 then f_law_1087 L xs k_71 x3_1043 x5_1043 x6_1043 S else f_law_1083 L xs k_71 x3_1043 x5_1043 x6_1043 S)) else f_law_1083 L xs k_71 x3_1043 x5_1043 x6_1043 S)) else f_law_1083 L xs k_71 x3_1043 x5_1043 x6_1043 S))))))
def f_law_287 (L : Nat) (xs : Nat → Int32) (k_71 : Int32 → Int32 → Int32 → Int32 → tk_ST → Option Int32) (x3_287 : Int32) (x5_287 : Int32) (x6_287 : Int32) (x9_287 : Int32) (k0_287 : Int32) (S : tk_ST) : Option Int32 := f_law_1043 L xs k_71 (x3_287 + (1 : Int32)) k0_287 x5_287 x6_287 x9_287 S
def f_law_286 (L : Nat) (xs : Nat → Int32) (k_71 : Int32 → Int32 → Int32 → Int32 → tk_ST → Option Int32) (x3_286 : Int32) (x5_286 : Int32) (x6_286 : Int32) (x9_286 : Int32) (S : tk_ST) : Option Int32 := f_law_287 L xs k_71 x3_286 x5_286 x6_286 x9_286 (0 : Int32) S
def f_law_191 (L : Nat) (xs : Nat → Int32) (k_71 : Int32 → Int32 → Int32 → Int32 → tk_ST → Option Int32) : Nat → Int32 → Int32 → Int32 → Int32 → Int32 → Int64 → Int32 → tk_ST → Option Int32
  | 0 => fun _ _ _ _ _ _ _ _ => none
  | n_191 + 1 => fun x3_191 x5_191 x6_191 x9_191 x10_191 x11_191 x13_191 S => (if (6 : Int32) ≤ x13_191 then (if x10_191 = (tk_rem x3_191 (4 : Int32)) then (tk_b1 (f_X6_turn S) fun r3 => (if r3 = x10_191 then (tk_b1 (f0_X6_hand (0 : Int32) S) fun r7 => (tk_b1 (f0_X6_hand (1 : Int32) S) fun r10 => (tk_b1 (f0_X6_hand (2 : Int32) S) fun r13 => (tk_b1 (f0_X6_hand (3 : Int32) S) fun r16 => (tk_b1 (f_L_bits ((((x11_191 ||| r7) ||| r10) ||| r13) ||| r16)) fun r19 => (if r19 = (54 : Int32) then (tk_b1 (f_X6_level S) fun r23 => (if r23 = 0 then (tk_b1 (f_X6_tricks S) fun r27 => (if r27 = 0 then f_law_287 L xs k_71 x3_191 x5_191 x6_191 x9_191 (1 : Int32) S else f_law_286 L xs k_71 x3_191 x5_191 x6_191 x9_191 S)) else f_law_286 L xs k_71 x3_191 x5_191 x6_191 x9_191 S)) else f_law_286 L xs k_71 x3_191 x5_191 x6_191 x9_191 S)))))) else f_law_286 L xs k_71 x3_191 x5_191 x6_191 x9_191 S)) else f_law_286 L xs k_71 x3_191 x5_191 x6_191 x9_191 S) else (tk_b1 (f0_X6_talonAt x13_191 S) fun r31 => (f_law_191 L xs k_71 n_191) x3_191 x5_191 x6_191 x9_191 x10_191 (x11_191 ||| ((1 : Int64) <<< (r31.toInt64 &&& 63))) (x13_191 + (1 : Int32)) S))
theorem f_law_191_s (L : Nat) (xs : Nat → Int32) (k_71 : Int32 → Int32 → Int32 → Int32 → tk_ST → Option Int32) (n_191 : Nat) (x3_191 : Int32) (x5_191 : Int32) (x6_191 : Int32) (x9_191 : Int32) (x10_191 : Int32) (x11_191 : Int64) (x13_191 : Int32) (S : tk_ST) : f_law_191 L xs k_71 (n_191 + 1) x3_191 x5_191 x6_191 x9_191 x10_191 x11_191 x13_191 S = (if (6 : Int32) ≤ x13_191 then (if x10_191 = (tk_rem x3_191 (4 : Int32)) then (tk_b1 (f_X6_turn S) fun r3 => (if r3 = x10_191 then (tk_b1 (f0_X6_hand (0 : Int32) S) fun r7 => (tk_b1 (f0_X6_hand (1 : Int32) S) fun r10 => (tk_b1 (f0_X6_hand (2 : Int32) S) fun r13 => (tk_b1 (f0_X6_hand (3 : Int32) S) fun r16 => (tk_b1 (f_L_bits ((((x11_191 ||| r7) ||| r10) ||| r13) ||| r16)) fun r19 => (if r19 = (54 : Int32) then (tk_b1 (f_X6_level S) fun r23 => (if r23 = 0 then (tk_b1 (f_X6_tricks S) fun r27 => (if r27 = 0 then f_law_287 L xs k_71 x3_191 x5_191 x6_191 x9_191 (1 : Int32) S else f_law_286 L xs k_71 x3_191 x5_191 x6_191 x9_191 S)) else f_law_286 L xs k_71 x3_191 x5_191 x6_191 x9_191 S)) else f_law_286 L xs k_71 x3_191 x5_191 x6_191 x9_191 S)))))) else f_law_286 L xs k_71 x3_191 x5_191 x6_191 x9_191 S)) else f_law_286 L xs k_71 x3_191 x5_191 x6_191 x9_191 S) else (tk_b1 (f0_X6_talonAt x13_191 S) fun r31 => (f_law_191 L xs k_71 n_191) x3_191 x5_191 x6_191 x9_191 x10_191 (x11_191 ||| ((1 : Int64) <<< (r31.toInt64 &&& 63))) (x13_191 + (1 : Int32)) S)) := rfl
def f_law_140 (L : Nat) (xs : Nat → Int32) (k_71 : Int32 → Int32 → Int32 → Int32 → tk_ST → Option Int32) : Nat → Int32 → Int32 → Int32 → Int32 → Int32 → Int32 → tk_ST → Option Int32
  | 0 => fun _ _ _ _ _ _ _ => none
  | n_140 + 1 => fun x3_140 x5_140 x6_140 x8_140 x9_140 x10_140 S => (if (4 : Int32) ≤ x10_140 then (tk_b2 (f0_X6_deal (x8_140 &&& (65535 : Int32)) S) fun r2 S4 => f_law_191 L xs k_71 64 x3_140 x5_140 x6_140 x9_140 r2 (0 : Int64) (0 : Int32) S4) else (tk_b1 (f0_X6_score x10_140 S) fun r5 => (if x10_140 < 0 ∨ 8 ≤ x10_140.toNatClampNeg then none else (tk_b1 (some (tk_A S 4 (upd (S.2.2.1 4) x10_140.toNatClampNeg r5))) fun S9 => (tk_b1 (f0_X6_radli x10_140 S9) fun r10 => (if ((4 : Int32) + x10_140) < 0 ∨ 8 ≤ ((4 : Int32) + x10_140).toNatClampNeg then none else (tk_b1 (some (tk_A S9 4 (upd (S9.2.2.1 4) ((4 : Int32) + x10_140).toNatClampNeg r10))) fun S14 => (f_law_140 L xs k_71 n_140) x3_140 x5_140 x6_140 x8_140 x9_140 (x10_140 + (1 : Int32)) S14)))))))
theorem f_law_140_s (L : Nat) (xs : Nat → Int32) (k_71 : Int32 → Int32 → Int32 → Int32 → tk_ST → Option Int32) (n_140 : Nat) (x3_140 : Int32) (x5_140 : Int32) (x6_140 : Int32) (x8_140 : Int32) (x9_140 : Int32) (x10_140 : Int32) (S : tk_ST) : f_law_140 L xs k_71 (n_140 + 1) x3_140 x5_140 x6_140 x8_140 x9_140 x10_140 S = (if (4 : Int32) ≤ x10_140 then (tk_b2 (f0_X6_deal (x8_140 &&& (65535 : Int32)) S) fun r2 S4 => f_law_191 L xs k_71 64 x3_140 x5_140 x6_140 x9_140 r2 (0 : Int64) (0 : Int32) S4) else (tk_b1 (f0_X6_score x10_140 S) fun r5 => (if x10_140 < 0 ∨ 8 ≤ x10_140.toNatClampNeg then none else (tk_b1 (some (tk_A S 4 (upd (S.2.2.1 4) x10_140.toNatClampNeg r5))) fun S9 => (tk_b1 (f0_X6_radli x10_140 S9) fun r10 => (if ((4 : Int32) + x10_140) < 0 ∨ 8 ≤ ((4 : Int32) + x10_140).toNatClampNeg then none else (tk_b1 (some (tk_A S9 4 (upd (S9.2.2.1 4) ((4 : Int32) + x10_140).toNatClampNeg r10))) fun S14 => (f_law_140 L xs k_71 n_140) x3_140 x5_140 x6_140 x8_140 x9_140 (x10_140 + (1 : Int32)) S14))))))) := rfl
def f_law_488 (L : Nat) (xs : Nat → Int32) (k_71 : Int32 → Int32 → Int32 → Int32 → tk_ST → Option Int32) (x3_488 : Int32) (x5_488 : Int32) (x6_488 : Int32) (x9_488 : Int32) (k0_488 : Int32) (S : tk_ST) : Option Int32 := f_law_1043 L xs k_71 x3_488 k0_488 x5_488 x6_488 x9_488 S
def f_law_374 (L : Nat) (xs : Nat → Int32) (k_71 : Int32 → Int32 → Int32 → Int32 → tk_ST → Option Int32) (x3_374 : Int32) (x5_374 : Int32) (x6_374 : Int32) (x9_374 : Int32) (S : tk_ST) : Option Int32 := f_law_488 L xs k_71 x3_374 x5_374 x6_374 x9_374 (0 : Int32) S
def f_law_483 (L : Nat) (xs : Nat → Int32) (k_71 : Int32 → Int32 → Int32 → Int32 → tk_ST → Option Int32) (x3_483 : Int32) (x5_483 : Int32) (x6_483 : Int32) (x9_483 : Int32) (S : tk_ST) : Option Int32 := f_law_488 L xs k_71 x3_483 x5_483 x6_483 x9_483 (1 : Int32) S
def f_law_487 (L : Nat) (xs : Nat → Int32) (k_71 : Int32 → Int32 → Int32 → Int32 → tk_ST → Option Int32) (x3_487 : Int32) (x5_487 : Int32) (x6_487 : Int32) (x9_487 : Int32) (S : tk_ST) : Option Int32 := f_law_488 L xs k_71 x3_487 x5_487 x6_487 x9_487 (0 : Int32) S
def f_law_480 (L : Nat) (xs : Nat → Int32) (k_71 : Int32 → Int32 → Int32 → Int32 → tk_ST → Option Int32) (x3_480 : Int32) (x5_480 : Int32) (x6_480 : Int32) (x9_480 : Int32) (k0_480 : Int32) (k1_480 : Int32) (S : tk_ST) : Option Int32 := (if k0_480 = k1_480 then f_law_483 L xs k_71 x3_480 x5_480 x6_480 x9_480 S else f_law_487 L xs k_71 x3_480 x5_480 x6_480 x9_480 S)
def f_law_394 (L : Nat) (xs : Nat → Int32) (k_71 : Int32 → Int32 → Int32 → Int32 → tk_ST → Option Int32) (x3_394 : Int32) (x5_394 : Int32) (x6_394 : Int32) (x9_394 : Int32) (x12_394 : Int32) (x13_394 : Int32) (k0_394 : Int32) (k1_394 : Int32) (S : tk_ST) : Option Int32 := (if k0_394 = k1_394 then (tk_b1 (f_X6_phase S) fun r2 => (if x13_394 = r2 then (if x13_394 = (1 : Int32) then (tk_b1 (f_X6_turn S) fun r24 => (if r24 = x12_394 then f_law_487 L xs k_71 x3_394 x5_394 x6_394 x9_394 S else (tk_b1 (f_X6_declarer S) fun r28 => (if 0 ≤ r28 then f_law_487 L xs k_71 x3_394 x5_394 x6_394 x9_394 S else f_law_483 L xs k_71 x3_394 x5_394 x6_394 x9_394 S)))) else (if x13_394 = 0 then (tk_b1 (f_X6_level S) fun r20 => (if r20 = 0 then f_law_483 L xs k_71 x3_394 x5_394 x6_394 x9_394 S else f_law_487 L xs k_71 x3_394 x5_394 x6_394 x9_394 S)) else (tk_b1 (f_X6_declarer S) fun r8 => (if r8 < 0 then f_law_487 L xs k_71 x3_394 x5_394 x6_394 x9_394 S else (tk_b1 (f_X6_level S) fun r12 => (if (4 : Int32) ≤ r12 then (tk_b1 (f_X6_level S) fun r16 => (if r16 = (4 : Int32) then f_law_480 L xs k_71 x3_394 x5_394 x6_394 x9_394 x13_394 (3 : Int32) S else f_law_480 L xs k_71 x3_394 x5_394 x6_394 x9_394 x13_394 (5 : Int32) S)) else f_law_480 L xs k_71 x3_394 x5_394 x6_394 x9_394 x13_394 (2 : Int32) S)))))) else f_law_487 L xs k_71 x3_394 x5_394 x6_394 x9_394 S)) else f_law_487 L xs k_71 x3_394 x5_394 x6_394 x9_394 S)
def f_law_378 (L : Nat) (xs : Nat → Int32) (k_71 : Int32 → Int32 → Int32 → Int32 → tk_ST → Option Int32) (x3_378 : Int32) (x5_378 : Int32) (x6_378 : Int32) (x9_378 : Int32) (x10_378 : Int32) (x11_378 : Int32) (x12_378 : Int32) (x13_378 : Int32) (S : tk_ST) : Option Int32 := (tk_b1 (f_X6_level S) fun r1 => (if x10_378 ≤ 0 then f_law_394 L xs k_71 x3_378 x5_378 x6_378 x9_378 x12_378 x13_378 r1 x11_378 S else f_law_394 L xs k_71 x3_378 x5_378 x6_378 x9_378 x12_378 x13_378 r1 x10_378 S))
def f_law_320 (L : Nat) (xs : Nat → Int32) (k_71 : Int32 → Int32 → Int32 → Int32 → tk_ST → Option Int32) (x3_320 : Int32) (x5_320 : Int32) (x6_320 : Int32) (x9_320 : Int32) (k0_320 : Int32) (S : tk_ST) : Option Int32 := (tk_b1 (f_X6_level S) fun r1 => (tk_b1 (f_X6_turn S) fun r4 => (tk_b2 (f_L_bids k0_320 S) fun r7 S8 => (if k0_320 ≤ 0 then f_law_378 L xs k_71 x3_320 x5_320 x6_320 x9_320 k0_320 r1 r4 r7 S8 else (if r1 < k0_320 then f_law_378 L xs k_71 x3_320 x5_320 x6_320 x9_320 k0_320 r1 r4 r7 S8 else (if r7 = (-3 : Int32) then (tk_b1 (f_X6_turn S8) fun r13 => (if r13 = r4 then f_law_488 L xs k_71 x3_320 x5_320 x6_320 x9_320 (1 : Int32) S8 else f_law_374 L xs k_71 x3_320 x5_320 x6_320 x9_320 S8)) else f_law_374 L xs k_71 x3_320 x5_320 x6_320 x9_320 S8))))))
def f_law_615 (L : Nat) (xs : Nat → Int32) (k_71 : Int32 → Int32 → Int32 → Int32 → tk_ST → Option Int32) (k_567 : Int32 → Int32 → Int32 → Int32 → Int32 → Int32 → Int32 → tk_ST → Option Int32) (x3_615 : Int32) (x5_615 : Int32) (x6_615 : Int32) (x9_615 : Int32) (x11_615 : Int32) (x12_615 : Int32) (k0_615 : Int32) (S_615 : tk_ST) : Option Int32 := k_567 x3_615 k0_615 x5_615 x6_615 x9_615 x11_615 (x12_615 + (1 : Int32)) S_615
def f_law_610 (L : Nat) (xs : Nat → Int32) (k_71 : Int32 → Int32 → Int32 → Int32 → tk_ST → Option Int32) (k_567 : Int32 → Int32 → Int32 → Int32 → Int32 → Int32 → Int32 → tk_ST → Option Int32) (x3_610 : Int32) (x5_610 : Int32) (x6_610 : Int32) (x9_610 : Int32) (x11_610 : Int32) (x12_610 : Int32) (S_610 : tk_ST) : Option Int32 := f_law_615 L xs k_71 k_567 x3_610 x5_610 x6_610 x9_610 x11_610 x12_610 (1 : Int32) S_610
def f_law_614 (L : Nat) (xs : Nat → Int32) (k_71 : Int32 → Int32 → Int32 → Int32 → tk_ST → Option Int32) (k_567 : Int32 → Int32 → Int32 → Int32 → Int32 → Int32 → Int32 → tk_ST → Option Int32) (x3_614 : Int32) (x5_614 : Int32) (x6_614 : Int32) (x9_614 : Int32) (x11_614 : Int32) (x12_614 : Int32) (S_614 : tk_ST) : Option Int32 := f_law_615 L xs k_71 k_567 x3_614 x5_614 x6_614 x9_614 x11_614 x12_614 (0 : Int32) S_614
def f_law_567 (L : Nat) (xs : Nat → Int32) (k_71 : Int32 → Int32 → Int32 → Int32 → tk_ST → Option Int32) : Nat → Int32 → Int32 → Int32 → Int32 → Int32 → Int32 → Int32 → tk_ST → Option Int32
  | 0 => fun _ _ _ _ _ _ _ _ => none
  | n_567 + 1 => fun x3_567 x4_567 x5_567 x6_567 x9_567 x11_567 x12_567 S => (if (4 : Int32) ≤ x12_567 then f_law_1043 L xs k_71 x3_567 x4_567 x5_567 x6_567 x9_567 S else (if x4_567 = 0 then f_law_614 L xs k_71 (f_law_567 L xs k_71 n_567) x3_567 x5_567 x6_567 x9_567 x11_567 x12_567 S else (tk_b1 (f0_X6_hand x12_567 S) fun r3 => (tk_b1 (f_L_has r3 x11_567) fun r6 => (if r6 = 0 then f_law_610 L xs k_71 (f_law_567 L xs k_71 n_567) x3_567 x5_567 x6_567 x9_567 x11_567 x12_567 S else (tk_b1 (f_X6_declarer S) fun r10 => (if x12_567 = r10 then f_law_610 L xs k_71 (f_law_567 L xs k_71 n_567) x3_567 x5_567 x6_567 x9_567 x11_567 x12_567 S else (tk_b1 (f_X6_partner S) fun r14 => (if x12_567 = r14 then f_law_610 L xs k_71 (f_law_567 L xs k_71 n_567) x3_567 x5_567 x6_567 x9_567 x11_567 x12_567 S else f_law_614 L xs k_71 (f_law_567 L xs k_71 n_567) x3_567 x5_567 x6_567 x9_567 x11_567 x12_567 S)))))))))
theorem f_law_567_s (L : Nat) (xs : Nat → Int32) (k_71 : Int32 → Int32 → Int32 → Int32 → tk_ST → Option Int32) (n_567 : Nat) (x3_567 : Int32) (x4_567 : Int32) (x5_567 : Int32) (x6_567 : Int32) (x9_567 : Int32) (x11_567 : Int32) (x12_567 : Int32) (S : tk_ST) : f_law_567 L xs k_71 (n_567 + 1) x3_567 x4_567 x5_567 x6_567 x9_567 x11_567 x12_567 S = (if (4 : Int32) ≤ x12_567 then f_law_1043 L xs k_71 x3_567 x4_567 x5_567 x6_567 x9_567 S else (if x4_567 = 0 then f_law_614 L xs k_71 (f_law_567 L xs k_71 n_567) x3_567 x5_567 x6_567 x9_567 x11_567 x12_567 S else (tk_b1 (f0_X6_hand x12_567 S) fun r3 => (tk_b1 (f_L_has r3 x11_567) fun r6 => (if r6 = 0 then f_law_610 L xs k_71 (f_law_567 L xs k_71 n_567) x3_567 x5_567 x6_567 x9_567 x11_567 x12_567 S else (tk_b1 (f_X6_declarer S) fun r10 => (if x12_567 = r10 then f_law_610 L xs k_71 (f_law_567 L xs k_71 n_567) x3_567 x5_567 x6_567 x9_567 x11_567 x12_567 S else (tk_b1 (f_X6_partner S) fun r14 => (if x12_567 = r14 then f_law_610 L xs k_71 (f_law_567 L xs k_71 n_567) x3_567 x5_567 x6_567 x9_567 x11_567 x12_567 S else f_law_614 L xs k_71 (f_law_567 L xs k_71 n_567) x3_567 x5_567 x6_567 x9_567 x11_567 x12_567 S))))))))) := rfl
def f_law_562 (L : Nat) (xs : Nat → Int32) (k_71 : Int32 → Int32 → Int32 → Int32 → tk_ST → Option Int32) (x3_562 : Int32) (x5_562 : Int32) (x6_562 : Int32) (x9_562 : Int32) (x11_562 : Int32) (k0_562 : Int32) (S : tk_ST) : Option Int32 := f_law_567 L xs k_71 64 x3_562 k0_562 x5_562 x6_562 x9_562 x11_562 (0 : Int32) S
def f_law_557 (L : Nat) (xs : Nat → Int32) (k_71 : Int32 → Int32 → Int32 → Int32 → tk_ST → Option Int32) (x3_557 : Int32) (x5_557 : Int32) (x6_557 : Int32) (x9_557 : Int32) (x11_557 : Int32) (S : tk_ST) : Option Int32 := f_law_562 L xs k_71 x3_557 x5_557 x6_557 x9_557 x11_557 (1 : Int32) S
def f_law_561 (L : Nat) (xs : Nat → Int32) (k_71 : Int32 → Int32 → Int32 → Int32 → tk_ST → Option Int32) (x3_561 : Int32) (x5_561 : Int32) (x6_561 : Int32) (x9_561 : Int32) (x11_561 : Int32) (S : tk_ST) : Option Int32 := f_law_562 L xs k_71 x3_561 x5_561 x6_561 x9_561 x11_561 (0 : Int32) S
def f_law_722 (L : Nat) (xs : Nat → Int32) (k_71 : Int32 → Int32 → Int32 → Int32 → tk_ST → Option Int32) (x3_722 : Int32) (x5_722 : Int32) (x6_722 : Int32) (x9_722 : Int32) (k0_722 : Int32) (S : tk_ST) : Option Int32 := f_law_1043 L xs k_71 x3_722 k0_722 x5_722 x6_722 x9_722 S
def f_law_721 (L : Nat) (xs : Nat → Int32) (k_71 : Int32 → Int32 → Int32 → Int32 → tk_ST → Option Int32) (x3_721 : Int32) (x5_721 : Int32) (x6_721 : Int32) (x9_721 : Int32) (S : tk_ST) : Option Int32 := f_law_722 L xs k_71 x3_721 x5_721 x6_721 x9_721 (0 : Int32) S
def f_law_650 (L : Nat) (xs : Nat → Int32) (k_71 : Int32 → Int32 → Int32 → Int32 → tk_ST → Option Int32) (x3_650 : Int32) (x5_650 : Int32) (x6_650 : Int32) (x8_650 : Int32) (x9_650 : Int32) (k0_650 : Int32) (S : tk_ST) : Option Int32 := (if k0_650 = 0 then none else (if ((6 : Int32) / k0_650) = 0 then none else (tk_b2 (f0_X6_take (tk_rem x8_650 ((6 : Int32) / k0_650)) S) fun r3 S5 => (if r3 = k0_650 then (tk_b1 (f_X6_declarer S5) fun r7 => (tk_b1 (f0_X6_hand r7 S5) fun r10 => (tk_b1 (f_L_bits r10) fun r13 => (if r13 = ((12 : Int32) + k0_650) then (tk_b1 (f_X6_declarer S5) fun r17 => (tk_b1 (f0_X6_hand r17 S5) fun r20 => (if k0_650 = 0 then none else (if ((6 : Int32) / k0_650) = 0 then none else (tk_b1 (f0_X6_talonAt ((tk_rem x8_650 ((6 : Int32) / k0_650)) * k0_650) S5) fun r25 => (tk_b1 (f_L_has r20 r25) fun r28 => (if r28 = 0 then f_law_721 L xs k_71 x3_650 x5_650 x6_650 x9_650 S5 else f_law_722 L xs k_71 x3_650 x5_650 x6_650 x9_650 (1 : Int32) S5))))))) else f_law_721 L xs k_71 x3_650 x5_650 x6_650 x9_650 S5)))) else f_law_721 L xs k_71 x3_650 x5_650 x6_650 x9_650 S5))))
def f_law_868 (L : Nat) (xs : Nat → Int32) (k_71 : Int32 → Int32 → Int32 → Int32 → tk_ST → Option Int32) (x3_868 : Int32) (x5_868 : Int32) (x6_868 : Int32) (x9_868 : Int32) (k0_868 : Int32) (S : tk_ST) : Option Int32 := f_law_1043 L xs k_71 x3_868 k0_868 x5_868 x6_868 x9_868 S
def f_law_795 (L : Nat) (xs : Nat → Int32) (k_71 : Int32 → Int32 → Int32 → Int32 → tk_ST → Option Int32) (x3_795 : Int32) (x5_795 : Int32) (x6_795 : Int32) (x9_795 : Int32) (S : tk_ST) : Option Int32 := f_law_868 L xs k_71 x3_795 x5_795 x6_795 x9_795 (0 : Int32) S
def f_law_863 (L : Nat) (xs : Nat → Int32) (k_71 : Int32 → Int32 → Int32 → Int32 → tk_ST → Option Int32) (x3_863 : Int32) (x5_863 : Int32) (x6_863 : Int32) (x9_863 : Int32) (S : tk_ST) : Option Int32 := f_law_868 L xs k_71 x3_863 x5_863 x6_863 x9_863 (1 : Int32) S
def f_law_867 (L : Nat) (xs : Nat → Int32) (k_71 : Int32 → Int32 → Int32 → Int32 → tk_ST → Option Int32) (x3_867 : Int32) (x5_867 : Int32) (x6_867 : Int32) (x9_867 : Int32) (S : tk_ST) : Option Int32 := f_law_868 L xs k_71 x3_867 x5_867 x6_867 x9_867 (0 : Int32) S
def f_law_963 (L : Nat) (xs : Nat → Int32) (k_71 : Int32 → Int32 → Int32 → Int32 → tk_ST → Option Int32) (x3_963 : Int32) (x5_963 : Int32) (x6_963 : Int32) (x9_963 : Int32) (k0_963 : Int32) (S : tk_ST) : Option Int32 := f_law_1043 L xs k_71 x3_963 k0_963 x5_963 x6_963 x9_963 S
def f_law_958 (L : Nat) (xs : Nat → Int32) (k_71 : Int32 → Int32 → Int32 → Int32 → tk_ST → Option Int32) (x3_958 : Int32) (x5_958 : Int32) (x6_958 : Int32) (x9_958 : Int32) (S : tk_ST) : Option Int32 := f_law_963 L xs k_71 x3_958 x5_958 x6_958 x9_958 (1 : Int32) S
def f_law_962 (L : Nat) (xs : Nat → Int32) (k_71 : Int32 → Int32 → Int32 → Int32 → tk_ST → Option Int32) (x3_962 : Int32) (x5_962 : Int32) (x6_962 : Int32) (x9_962 : Int32) (S : tk_ST) : Option Int32 := f_law_963 L xs k_71 x3_962 x5_962 x6_962 x9_962 (0 : Int32) S
def f_law_919 (L : Nat) (xs : Nat → Int32) (k_71 : Int32 → Int32 → Int32 → Int32 → tk_ST → Option Int32) (x3_919 : Int32) (x5_919 : Int32) (x6_919 : Int32) (x9_919 : Int32) (x10_919 : Int32) (k0_919 : Int32) (S : tk_ST) : Option Int32 := (tk_b2 (f_L_announces x10_919 S) fun r1 S2 => (if r1 = (-3 : Int32) then f_law_958 L xs k_71 x3_919 x5_919 x6_919 x9_919 S2 else (if k0_919 = 0 then f_law_962 L xs k_71 x3_919 x5_919 x6_919 x9_919 S2 else (if (2 : Int32) < r1 then f_law_962 L xs k_71 x3_919 x5_919 x6_919 x9_919 S2 else (tk_b2 (f_L_announces x10_919 S2) fun r7 S8 => (if r7 = (-3 : Int32) then f_law_958 L xs k_71 x3_919 x5_919 x6_919 x9_919 S8 else f_law_962 L xs k_71 x3_919 x5_919 x6_919 x9_919 S8))))))
def f_law_914 (L : Nat) (xs : Nat → Int32) (k_71 : Int32 → Int32 → Int32 → Int32 → tk_ST → Option Int32) (x3_914 : Int32) (x5_914 : Int32) (x6_914 : Int32) (x9_914 : Int32) (x10_914 : Int32) (S : tk_ST) : Option Int32 := f_law_919 L xs k_71 x3_914 x5_914 x6_914 x9_914 x10_914 (1 : Int32) S
def f_law_918 (L : Nat) (xs : Nat → Int32) (k_71 : Int32 → Int32 → Int32 → Int32 → tk_ST → Option Int32) (x3_918 : Int32) (x5_918 : Int32) (x6_918 : Int32) (x9_918 : Int32) (x10_918 : Int32) (S : tk_ST) : Option Int32 := f_law_919 L xs k_71 x3_918 x5_918 x6_918 x9_918 x10_918 (0 : Int32) S
def f_law_1030 (L : Nat) (xs : Nat → Int32) (k_71 : Int32 → Int32 → Int32 → Int32 → tk_ST → Option Int32) (x3_1030 : Int32) (x5_1030 : Int32) (x6_1030 : Int32) (x9_1030 : Int32) (k0_1030 : Int32) (S : tk_ST) : Option Int32 := f_law_1043 L xs k_71 x3_1030 k0_1030 x5_1030 x6_1030 x9_1030 S
def f_law_1022 (L : Nat) (xs : Nat → Int32) (k_71 : Int32 → Int32 → Int32 → Int32 → tk_ST → Option Int32) (x3_1022 : Int32) (x5_1022 : Int32) (x6_1022 : Int32) (x9_1022 : Int32) (k0_1022 : Int32) (k1_1022 : Int32) (S : tk_ST) : Option Int32 := (if k0_1022 = k1_1022 then f_law_1030 L xs k_71 x3_1022 x5_1022 x6_1022 x9_1022 (1 : Int32) S else f_law_1030 L xs k_71 x3_1022 x5_1022 x6_1022 x9_1022 (0 : Int32) S)
def f_law_115 (L : Nat) (xs : Nat → Int32) (k_71 : Int32 → Int32 → Int32 → Int32 → tk_ST → Option Int32) (x3_115 : Int32) (x5_115 : Int32) (x6_115 : Int32) (k0_115 : Int32) (S : tk_ST) : Option Int32 := (tk_b1 (f_X6_phase S) fun r1 => (if r1 = 0 then f_law_140 L xs k_71 64 x3_115 x5_115 x6_115 ((k0_115 >>> ((4 : Int32) &&& 31)) &&& (268435455 : Int32)) r1 (0 : Int32) S else (if r1 = (1 : Int32) then (if (6 : Int32) ≤ (k0_115 &&& (15 : Int32)) then (tk_b1 (some (tk_rem ((k0_115 >>> ((4 : Int32) &&& 31)) &&& (268435455 : Int32)) (6 : Int32))) fun y115 => f_law_320 L xs k_71 x3_115 x5_115 x6_115 r1 y115 S) else f_law_320 L xs k_71 x3_115 x5_115 x6_115 r1 (0 : Int32) S) else (if r1 = (2 : Int32) then (tk_b2 (f0_X6_call (((k0_115 >>> ((4 : Int32) &&& 31)) &&& (268435455 : Int32)) &&& (3 : Int32)) S) fun r92 S94 => (if r92 = (3 : Int32) then (tk_b1 (f_X6_called S94) fun r96 => (if r96 = (((k0_115 >>> ((4 : Int32) &&& 31)) &&& (268435455 : Int32)) &&& (3 : Int32)) then (tk_b1 (f_X6_partner S94) fun r100 => (if r100 < 0 then f_law_557 L xs k_71 x3_115 x5_115 x6_115 r1 (((8 : Int32) * (((k0_115 >>> ((4 : Int32) &&& 31)) &&& (268435455 : Int32)) &&& (3 : Int32))) + (7 : Int32)) S94 else (tk_b1 (f_X6_partner S94) fun r104 => (tk_b1 (f0_X6_hand r104 S94) fun r107 => (tk_b1 (f_L_has r107 (((8 : Int32) * (((k0_115 >>> ((4 : Int32) &&& 31)) &&& (268435455 : Int32)) &&& (3 : Int32))) + (7 : Int32))) fun r110 => (if r110 = 0 then f_law_561 L xs k_71 x3_115 x5_115 x6_115 r1 (((8 : Int32) * (((k0_115 >>> ((4 : Int32) &&& 31)) &&& (268435455 : Int32)) &&& (3 : Int32))) + (7 : Int32)) S94 else f_law_557 L xs k_71 x3_115 x5_115 x6_115 r1 (((8 : Int32) * (((k0_115 >>> ((4 : Int32) &&& 31)) &&& (268435455 : Int32)) &&& (3 : Int32))) + (7 : Int32)) S94)))))) else f_law_561 L xs k_71 x3_115 x5_115 x6_115 r1 (((8 : Int32) * (((k0_115 >>> ((4 : Int32) &&& 31)) &&& (268435455 : Int32)) &&& (3 : Int32))) + (7 : Int32)) S94)) else f_law_561 L xs k_71 x3_115 x5_115 x6_115 r1 (((8 : Int32) * (((k0_115 >>> ((4 : Int32) &&& 31)) &&& (268435455 : Int32)) &&& (3 : Int32))) + (7 : Int32)) S94)) else (if r1 = (3 : Int32) then (tk_b1 (f_X6_level S) fun r85 => (if (3 : Int32) ≤ r85 then f_law_650 L xs k_71 x3_115 x5_115 x6_115 ((k0_115 >>> ((4 : Int32) &&& 31)) &&& (268435455 : Int32)) r1 (1 : Int32) S else (tk_b1 (f_X6_level S) fun r89 => f_law_650 L xs k_71 x3_115 x5_115 x6_115 ((k0_115 >>> ((4 : Int32) &&& 31)) &&& (268435455 : Int32)) r1 ((4 : Int32) - r89) S))) else (if r1 = (4 : Int32) then (tk_b1 (f_X6_declarer S) fun r37 => (tk_b1 (f0_X6_hand r37 S) fun r40 => (tk_b1 (f_L_drawn r40 ((k0_115 >>> ((4 : Int32) &&& 31)) &&& (268435455 : Int32))) fun r43 => (tk_b2 (f_L_lays r43 S) fun r46 S47 => (tk_b1 (f0_X6_valueOf r43 S47) fun r49 => (if r49 = (5 : Int32) then (if r46 = (-3 : Int32) then (tk_b1 (f_X6_declarer S47) fun r78 => (tk_b1 (f0_X6_hand r78 S47) fun r81 => (if (lg_cmp r81 r40) = 0 then f_law_868 L xs k_71 x3_115 x5_115 x6_115 r1 (1 : Int32) S47 else f_law_795 L xs k_71 x3_115 x5_115 x6_115 r1 S47))) else f_law_795 L xs k_71 x3_115 x5_115 x6_115 r1 S47) else (tk_b1 (f_L_bits r40) fun r53 => (if r46 = (r53 - (13 : Int32)) then (tk_b1 (f_X6_declarer S47) fun r57 => (tk_b1 (f0_X6_hand r57 S47) fun r60 => (if (lg_cmp r60 (r40 - ((1 : Int64) <<< (r43.toInt64 &&& 63)))) = 0 then (if r46 ≤ 0 then (tk_b1 (f_X6_phase S47) fun r65 => (if r65 = (5 : Int32) then (tk_b1 (f0_X6_thirds (0 : Int32) S47) fun r69 => (if r69 ≤ 0 then f_law_867 L xs k_71 x3_115 x5_115 x6_115 r1 S47 else f_law_863 L xs k_71 x3_115 x5_115 x6_115 r1 S47)) else f_law_867 L xs k_71 x3_115 x5_115 x6_115 r1 S47)) else (tk_b1 (f_X6_phase S47) fun r73 => (if r73 = (4 : Int32) then f_law_863 L xs k_71 x3_115 x5_115 x6_115 r1 S47 else f_law_867 L xs k_71 x3_115 x5_115 x6_115 r1 S47))) else f_law_867 L xs k_71 x3_115 x5_115 x6_115 r1 S47))) else f_law_867 L xs k_71 x3_115 x5_115 x6_115 r1 S47)))))))) else (if (k0_115 &&& (15 : Int32)) = 0 then (tk_b1 (f_X6_tricks S) fun r24 => (if r24 = 0 then (tk_b1 (f_X6_inTrick S) fun r28 => (if r28 = 0 then (if (((k0_115 >>> ((4 : Int32) &&& 31)) &&& (268435455 : Int32)) &&& (1 : Int32)) = 0 then f_law_914 L xs k_71 x3_115 x5_115 x6_115 r1 (((k0_115 >>> ((4 : Int32) &&& 31)) &&& (268435455 : Int32)) &&& (1 : Int32)) S else (tk_b1 (f_X6_level S) fun r33 => (if (4 : Int32) ≤ r33 then f_law_918 L xs k_71 x3_115 x5_115 x6_115 r1 (((k0_115 >>> ((4 : Int32) &&& 31)) &&& (268435455 : Int32)) &&& (1 : Int32)) S else f_law_914 L xs k_71 x3_115 x5_115 x6_115 r1 (((k0_115 >>> ((4 : Int32) &&& 31)) &&& (268435455 : Int32)) &&& (1 : Int32)) S))) else f_law_918 L xs k_71 x3_115 x5_115 x6_115 r1 (((k0_115 >>> ((4 : Int32) &&& 31)) &&& (268435455 : Int32)) &&& (1 : Int32)) S)) else f_law_918 L xs k_71 x3_115 x5_115 x6_115 r1 (((k0_115 >>> ((4 : Int32) &&& 31)) &&& (268435455 : Int32)) &&& (1 : Int32)) S)) else (if (k0_115 &&& (15 : Int32)) = (1 : Int32) then (tk_b1 (f_X6_tricks S) fun r14 => (tk_b1 (f_X6_inTrick S) fun r17 => (tk_b2 (f0_X6_playLowest ((1 : Int32) + (((k0_115 >>> ((4 : Int32) &&& 31)) &&& (268435455 : Int32)) &&& (15 : Int32))) S) fun r20 S22 => (if (((48 : Int32) - ((4 : Int32) * r14)) - r17) ≤ ((1 : Int32) + (((k0_115 >>> ((4 : Int32) &&& 31)) &&& (268435455 : Int32)) &&& (15 : Int32))) then f_law_1022 L xs k_71 x3_115 x5_115 x6_115 r1 r20 (((48 : Int32) - ((4 : Int32) * r14)) - r17) S22 else f_law_1022 L xs k_71 x3_115 x5_115 x6_115 r1 r20 ((1 : Int32) + (((k0_115 >>> ((4 : Int32) &&& 31)) &&& (268435455 : Int32)) &&& (15 : Int32))) S22)))) else (tk_b2 (f_L_isPlayed ((k0_115 >>> ((4 : Int32) &&& 31)) &&& (268435455 : Int32)) S) fun r11 S12 => f_law_1043 L xs k_71 x3_115 r11 x5_115 x6_115 r1 S12)))))))))
def f_law_71 (L : Nat) (xs : Nat → Int32) : Nat → Int32 → Int32 → Int32 → Int32 → tk_ST → Option Int32
  | 0 => fun _ _ _ _ _ => none
  | n + 1 => fun x3_71 x4_71 x5_71 x6_71 S => (if x5_71 ≤ x6_71 then some x4_71 else (if x4_71 = 0 then some x4_71 else (if (Int32.ofNat L) ≤ x6_71 then f_law_115 L xs (f_law_71 L xs n) x3_71 x5_71 x6_71 (((((810013 : Int32) * x6_71) * x6_71) + ((27011 : Int32) * x6_71)) + (28 : Int32)) S else (if x6_71 < 0 ∨ L ≤ x6_71.toNatClampNeg then none else f_law_115 L xs (f_law_71 L xs n) x3_71 x5_71 x6_71 (xs x6_71.toNatClampNeg) S))))
theorem f_law_71_s (L : Nat) (xs : Nat → Int32) (n : Nat) (x3_71 : Int32) (x4_71 : Int32) (x5_71 : Int32) (x6_71 : Int32) (S : tk_ST) : f_law_71 L xs (n + 1) x3_71 x4_71 x5_71 x6_71 S = (if x5_71 ≤ x6_71 then some x4_71 else (if x4_71 = 0 then some x4_71 else (if (Int32.ofNat L) ≤ x6_71 then f_law_115 L xs (f_law_71 L xs n) x3_71 x5_71 x6_71 (((((810013 : Int32) * x6_71) * x6_71) + ((27011 : Int32) * x6_71)) + (28 : Int32)) S else (if x6_71 < 0 ∨ L ≤ x6_71.toNatClampNeg then none else f_law_115 L xs (f_law_71 L xs n) x3_71 x5_71 x6_71 (xs x6_71.toNatClampNeg) S)))) := rfl
def f_law_66 (L : Nat) (xs : Nat → Int32) (x3_66 : Int32) (x4_66 : Int32) (k0_66 : Int32) (S : tk_ST) : Option Int32 := f_law_71 L xs 500 x3_66 x4_66 k0_66 (0 : Int32) S
def f_law_34 (L : Nat) (xs : Nat → Int32) (x3_34 : Int32) (k0_34 : Int32) (S : tk_ST) : Option Int32 := (if (60 : Int32) ≤ (Int32.ofNat L) then (if (120 : Int32) ≤ (Int32.ofNat L) then f_law_66 L xs x3_34 k0_34 (480 : Int32) S else f_law_66 L xs x3_34 k0_34 ((4 : Int32) * (Int32.ofNat L)) S) else f_law_66 L xs x3_34 k0_34 (240 : Int32) S)
def f_law_33 (L : Nat) (xs : Nat → Int32) (x3_33 : Int32) (S : tk_ST) : Option Int32 := f_law_34 L xs x3_33 (0 : Int32) S
def f_law (L : Nat) (xs : Nat → Int32) (S : tk_ST) : Option Int32 := (tk_b1 (f_L_areHands S) fun r1 => (if r1 = 0 then f_law_33 L xs (0 : Int32) S else (tk_b1 (f_L_areSides S) fun r5 => (if r5 = 0 then f_law_33 L xs (0 : Int32) S else f_law_34 L xs (0 : Int32) (1 : Int32) S))))
end
section
def tb (x : Int64) (c : Nat) : Bool := x.toBitVec.getLsbD c
def jb (c : Nat) : Int64 := (1 : Int64) <<< ((nI c).toInt64 &&& 63)
theorem jb_bv : ∀ c, c < 64 → (jb c).toBitVec = BitVec.twoPow 64 c := by decide +kernel
theorem jb_sm : ∀ c, c < 64 → (((nI c).toInt64 &&& 63).toBitVec.smod 64).toNat = c := by decide +kernel
theorem tb_big {x : Int64} {c : Nat} (h : 64 ≤ c) : tb x c = false := BitVec.getLsbD_of_ge _ _ h
theorem tb_or (x y : Int64) (c : Nat) : tb (x ||| y) c = (tb x c || tb y c) := by
  simp [tb, Int64.toBitVec_or]
theorem tb_zero (c : Nat) : tb 0 c = false := by
  simp [tb]
theorem tb_m1 {c : Nat} (h : c < 64) : tb (-1) c = true := by
  have e : (-1 : Int64).toBitVec = BitVec.allOnes 64 := by decide
  show (-1 : Int64).toBitVec.getLsbD c = true
  rw [e, BitVec.getLsbD_allOnes]
  exact decide_eq_true h
theorem tb_andn (x y : Int64) (c : Nat) : tb (x &&& (y ^^^ (-1))) c = (tb x c && !tb y c) := by
  by_cases h : c < 64
  · have e := tb_m1 h
    simp only [tb] at e ⊢
    rw [Int64.toBitVec_and, Int64.toBitVec_xor, BitVec.getLsbD_and, BitVec.getLsbD_xor, e, Bool.xor_true]
  · rw [tb_big (by omega), tb_big (by omega), Bool.false_and]
theorem tb_jb {c : Nat} (hc : c < 64) (d : Nat) : tb (jb c) d = decide (c = d) := by
  simp only [tb, jb_bv c hc, BitVec.getLsbD_twoPow]
  by_cases h : c = d
  · subst h; simp [hc]
  · simp [h]
theorem tb_ext {x y : Int64} (h : ∀ c, c < 64 → tb x c = tb y c) : x = y := by
  apply Int64.toBitVec_inj.mp
  apply BitVec.eq_of_getLsbD_eq
  intro i hi
  exact h i hi
theorem tb_sub {x : Int64} {c : Nat} (hc : c < 64) (h : tb x c = true) : x - jb c = x &&& (jb c ^^^ (-1)) := by
  have e1 : (x &&& (jb c ^^^ (-1))) + jb c = x := by
    have e2 : ((x &&& (jb c ^^^ (-1))) + jb c).toBitVec = ((x &&& (jb c ^^^ (-1))) ||| jb c).toBitVec := by
      rw [Int64.toBitVec_add, Int64.toBitVec_or]
      apply BitVec.add_eq_or_of_and_eq_zero
      apply BitVec.eq_of_getLsbD_eq
      intro i hi
      have h1 := tb_andn x (jb c) i
      have h2 := tb_jb hc i
      simp only [tb] at h1 h2
      rw [BitVec.getLsbD_and, h1, h2]
      simp
    rw [Int64.toBitVec_inj.mp e2]
    apply tb_ext
    intro d hd
    rw [tb_or, tb_andn, tb_jb hc]
    by_cases e : c = d
    · subst e; simp [h]
    · simp [e]
  calc x - jb c = ((x &&& (jb c ^^^ (-1))) + jb c) - jb c := by rw [e1]
    _ = x &&& (jb c ^^^ (-1)) := Int64.add_sub_cancel _ _
theorem tb_one (y : Int64) : (y &&& 1 = 1) ↔ tb y 0 = true := by
  constructor
  · intro h
    have := congrArg (fun z => tb z 0) h
    simp [tb] at this ⊢
    exact this
  · intro h
    apply tb_ext
    intro d hd
    have e : tb (1 : Int64) d = decide (0 = d) := by
      have : (1 : Int64) = jb 0 := by decide
      rw [this, tb_jb (by decide)]
    have e2 : tb (y &&& 1) d = (tb y d && tb 1 d) := by simp [tb, Int64.toBitVec_and]
    rw [e2, e]
    by_cases q : 0 = d
    · subst q; simp [h]
    · simp [q]
theorem tb_shr (x : Int64) {c : Nat} (hc : c < 64) : tb (x >>> ((nI c).toInt64 &&& 63)) 0 = tb x c := by
  simp only [tb, Int64.toBitVec_shiftRight, BitVec.sshiftRight']
  rw [jb_sm c hc, BitVec.getLsbD_sshiftRight]
  simp [hc]
theorem lg_one (y : Int64) : lg_cmp y 1 = 0 ↔ y = 1 := by
  unfold lg_cmp
  by_cases h : y > 1
  · have : y ≠ 1 := by intro e; subst e; exact absurd h (Int64.lt_irrefl)
    simp [h, this]
  · by_cases e : y = 1
    · simp [e]
    · simp [h, e]
theorem b1s {α β : Type} (a : α) (k : α → Option β) : tk_b1 (some a) k = k a := rfl
theorem b2s {α σ β : Type} (a : α) (s : σ) (k : α → σ → Option β) : tk_b2 (some (a, s)) k = k a s := rfl
theorem b3s {α σ τ β : Type} (a : α) (s : σ) (t : τ) (k : α → σ → τ → Option β) : tk_b3 (some (a, s, t)) k = k a s t := rfl
theorem up_eq {α : Type} (f : Nat → α) (k : Nat) (v : α) (j : Nat) : tk_up f k v j = if j = k then v else f j := by
  unfold tk_up
  by_cases h : j = k
  · subst h; simp
  · have : Nat.beq j k = false := by
      cases hb : Nat.beq j k with
      | false => rfl
      | true => exact absurd (Nat.eq_of_beq_eq_true hb) h
    simp [h, this]
theorem uI1 (S : tk_ST) (k : Nat) (v : Int32) (j : Nat) : (tk_I S k v).1 j = if j = k then v else S.1 j := up_eq _ _ _ _
theorem uI2 (S : tk_ST) (k : Nat) (v : Int32) : (tk_I S k v).2.1 = S.2.1 := rfl
theorem uI3 (S : tk_ST) (k : Nat) (v : Int32) : (tk_I S k v).2.2.1 = S.2.2.1 := rfl
theorem uI4 (S : tk_ST) (k : Nat) (v : Int32) : (tk_I S k v).2.2.2 = S.2.2.2 := rfl
theorem uL1 (S : tk_ST) (k : Nat) (v : Int64) : (tk_L S k v).1 = S.1 := rfl
theorem uL2 (S : tk_ST) (k : Nat) (v : Int64) (j : Nat) : (tk_L S k v).2.1 j = if j = k then v else S.2.1 j := up_eq _ _ _ _
theorem uL3 (S : tk_ST) (k : Nat) (v : Int64) : (tk_L S k v).2.2.1 = S.2.2.1 := rfl
theorem uL4 (S : tk_ST) (k : Nat) (v : Int64) : (tk_L S k v).2.2.2 = S.2.2.2 := rfl
theorem uA1 (S : tk_ST) (k : Nat) (v : Nat → Int32) : (tk_A S k v).1 = S.1 := rfl
theorem uA2 (S : tk_ST) (k : Nat) (v : Nat → Int32) : (tk_A S k v).2.1 = S.2.1 := rfl
theorem uA3 (S : tk_ST) (k : Nat) (v : Nat → Int32) (j : Nat) : (tk_A S k v).2.2.1 j = if j = k then v else S.2.2.1 j := up_eq _ _ _ _
theorem uA4 (S : tk_ST) (k : Nat) (v : Nat → Int32) : (tk_A S k v).2.2.2 = S.2.2.2 := rfl
theorem uB1 (S : tk_ST) (k : Nat) (v : Nat → Int64) : (tk_B S k v).1 = S.1 := rfl
theorem uB2 (S : tk_ST) (k : Nat) (v : Nat → Int64) : (tk_B S k v).2.1 = S.2.1 := rfl
theorem uB3 (S : tk_ST) (k : Nat) (v : Nat → Int64) : (tk_B S k v).2.2.1 = S.2.2.1 := rfl
theorem uB4 (S : tk_ST) (k : Nat) (v : Nat → Int64) (j : Nat) : (tk_B S k v).2.2.2 j = if j = k then v else S.2.2.2 j := up_eq _ _ _ _
theorem updE (f : Nat → Int32) (k : Nat) (v : Int32) (j : Nat) : upd f k v j = if j = k then v else f j := rfl
theorem updLE (f : Nat → Int64) (k : Nat) (v : Int64) (j : Nat) : vp_updL f k v j = if j = k then v else f j := rfl
/-- an int argument: below 0, from n on, or a number below n -/
theorem arg3 (n : Nat) (hn : n < 2 ^ 31) (x : Int32) : x < 0 ∨ nI n ≤ x ∨ ∃ j : Nat, j < n ∧ x = nI j := pk_ix x hn
theorem inR {j n : Nat} (h : j < n) (hn : n < 2 ^ 31) : ¬ (nI j < 0 ∨ n ≤ (nI j).toNatClampNeg) := vp_in_nI h hn
theorem cl {j : Nat} (h : j < 2 ^ 31) : (nI j).toNatClampNeg = j := nI_clamp h
theorem nneg {j : Nat} (h : j < 2 ^ 31) : ¬ nI j < 0 := nI_pos h
theorem nge {j n : Nat} (h : j < n) (hn : n < 2 ^ 31) : ¬ (OfNat.ofNat n : Int32) ≤ nI j := nI_ge h hn
theorem lit32 (n : Nat) : (OfNat.ofNat n : Int32) = nI n := rfl
def su (c : Nat) : Nat := if c < 32 then c / 8 else 4
def wo (c : Nat) : Nat := if c < 32 then (if c % 8 > 3 then c % 8 - 2 else 1) else if c = 32 ∨ 52 ≤ c then 5 else 1
theorem e_holds {h : Int64} {c : Nat} (hc : c < 64) : f_X6_holds h (nI c) = some (if tb h c then 1 else 0) := by
  unfold f_X6_holds
  have h1 : (lg_cmp ((h >>> ((nI c).toInt64 &&& 63)) &&& (1 : Int64)) (1 : Int64)) = 0 ↔ tb h c = true := by
    rw [lg_one, tb_one, tb_shr h hc]
  by_cases q : tb h c = true
  · rw [if_pos (h1.mpr q), if_pos q]
  · rw [if_neg (fun x => q (h1.mp x)), if_neg q]
theorem e_only (c : Nat) : f_X6_only (nI c) = some (jb c) := rfl
theorem e_suit : ∀ c, c < 54 → f_X6_suitOf (nI c) = some (nI (su c)) := by decide +kernel
theorem e_worth : ∀ c, c < 54 → f_X6_worth (nI c) = some (nI (wo c)) := by decide +kernel
theorem e_lay : ∀ c, c < 54 → f_X6_canBeLaidAway (nI c) = some (if wo c < 5 then 1 else 0) := by decide +kernel
theorem e_isCard {c : Nat} (h : c < 54) : f_X6_isCard (nI c) = some 1 := by
  unfold f_X6_isCard
  rw [if_neg (nneg (by omega)), if_neg (nge h (by decide))]
theorem e_isCardN {x : Int32} (h : x < 0 ∨ nI 54 ≤ x) : f_X6_isCard x = some 0 := by
  unfold f_X6_isCard
  rcases h with h | h
  · rw [if_pos h]
  · by_cases q : x < 0
    · rw [if_pos q]
    · rw [if_neg q]; exact if_pos h
theorem lt_of_le1 {x : Int32} {n : Nat} (hn : n + 1 < 2 ^ 31) (h : nI (n + 1) ≤ x) : nI n < x := by
  rw [Int32.le_iff_toInt_le, nI_toInt hn] at h
  rw [Int32.lt_iff_toInt_lt, nI_toInt (by omega)]
  omega
theorem e_play {c : Nat} (h : c < 4) : f_X6_isPlayer (nI c) = some 1 := by
  unfold f_X6_isPlayer
  rw [if_neg (nneg (by omega)), if_neg (nge h (by decide))]
theorem e_playN {x : Int32} (h : x < 0 ∨ nI 4 ≤ x) : f_X6_isPlayer x = some 0 := by
  unfold f_X6_isPlayer
  rcases h with h | h
  · rw [if_pos h]
  · by_cases q : x < 0
    · rw [if_pos q]
    · rw [if_neg q]; exact if_pos h
theorem e_at2 {j : Nat} (h : j < 54) (S : tk_ST) : f_X2_at_p2 (nI j) S = some (S.2.2.1 0 j) := by
  unfold f_X2_at_p2
  rw [if_neg (nneg (by omega)), if_neg (nge h (by decide)), if_neg (inR h (by decide)), cl (by omega)]
theorem e_at6 {j : Nat} (h : j < 4) (S : tk_ST) : f_X2_at_p6 (nI j) S = some (S.2.2.1 1 j) := by
  unfold f_X2_at_p6
  rw [if_neg (nneg (by omega)), if_neg (nge h (by decide)), if_neg (inR h (by decide)), cl (by omega)]
theorem e_at9 {j : Nat} (h : j < 4) (S : tk_ST) : f_X2_at_p9 (nI j) S = some (S.2.2.1 2 j) := by
  unfold f_X2_at_p9
  rw [if_neg (nneg (by omega)), if_neg (nge h (by decide)), if_neg (inR h (by decide)), cl (by omega)]
theorem e_at11 {j : Nat} (h : j < 4) (S : tk_ST) : f_X2_at_p11 (nI j) S = some (S.2.2.1 3 j) := by
  unfold f_X2_at_p11
  rw [if_neg (nneg (by omega)), if_neg (nge h (by decide)), if_neg (inR h (by decide)), cl (by omega)]
theorem e_at13 {j : Nat} (h : j < 4) (S : tk_ST) : f_X3_at_p13 (nI j) S = some (S.2.2.2 0 j) := by
  unfold f_X3_at_p13
  rw [if_neg (nneg (by omega)), if_neg (nge h (by decide)), if_neg (inR h (by decide)), cl (by omega)]
theorem e_at15 {j : Nat} (h : j < 2) (S : tk_ST) : f_X3_at_p15 (nI j) S = some (S.2.2.2 1 j) := by
  unfold f_X3_at_p15
  rw [if_neg (nneg (by omega)), if_neg (nge h (by decide)), if_neg (inR h (by decide)), cl (by omega)]
theorem e_put2 {j : Nat} (h : j < 54) (v : Int32) (S : tk_ST) : f_X2_put_p2 (nI j) v S = some (tk_A S 0 (upd (S.2.2.1 0) j v)) := by
  unfold f_X2_put_p2
  rw [if_neg (nneg (by omega)), if_neg (nge h (by decide)), if_neg (inR h (by decide)), cl (by omega)]
  rfl
theorem e_put6 {j : Nat} (h : j < 4) (v : Int32) (S : tk_ST) : f_X2_put_p6 (nI j) v S = some (tk_A S 1 (upd (S.2.2.1 1) j v)) := by
  unfold f_X2_put_p6
  rw [if_neg (nneg (by omega)), if_neg (nge h (by decide)), if_neg (inR h (by decide)), cl (by omega)]
  rfl
theorem e_put9 {j : Nat} (h : j < 4) (v : Int32) (S : tk_ST) : f_X2_put_p9 (nI j) v S = some (tk_A S 2 (upd (S.2.2.1 2) j v)) := by
  unfold f_X2_put_p9
  rw [if_neg (nneg (by omega)), if_neg (nge h (by decide)), if_neg (inR h (by decide)), cl (by omega)]
  rfl
theorem e_put11 {j : Nat} (h : j < 4) (v : Int32) (S : tk_ST) : f_X2_put_p11 (nI j) v S = some (tk_A S 3 (upd (S.2.2.1 3) j v)) := by
  unfold f_X2_put_p11
  rw [if_neg (nneg (by omega)), if_neg (nge h (by decide)), if_neg (inR h (by decide)), cl (by omega)]
  rfl
theorem e_put13 {j : Nat} (h : j < 4) (v : Int64) (S : tk_ST) : f_X3_put_p13 (nI j) v S = some (tk_B S 0 (vp_updL (S.2.2.2 0) j v)) := by
  unfold f_X3_put_p13
  rw [if_neg (nneg (by omega)), if_neg (nge h (by decide)), if_neg (inR h (by decide)), cl (by omega)]
  rfl
theorem e_put15 {j : Nat} (h : j < 2) (v : Int64) (S : tk_ST) : f_X3_put_p15 (nI j) v S = some (tk_B S 1 (vp_updL (S.2.2.2 1) j v)) := by
  unfold f_X3_put_p15
  rw [if_neg (nneg (by omega)), if_neg (nge h (by decide)), if_neg (inR h (by decide)), cl (by omega)]
  rfl
theorem e_rem {a d : Nat} (ha : a < 2 ^ 31) (h0 : 0 < d) (hd : d < 2 ^ 31) : tk_rem (nI a) (nI d) = nI (a % d) := pk_rem ha h0 hd
theorem e_behind {j : Nat} (h : j < 4) : f_X6_behind (nI j) = some (nI ((j + 1) % 4)) := by
  unfold f_X6_behind
  rw [show nI j + 1 = nI (j + 1) from nI_1 j, show (4 : Int32) = nI 4 from rfl, e_rem (by omega) (by decide) (by decide)]
def sd (p d q : Int32) : Int32 := if p = d then 0 else if p = q then 0 else 1
theorem e_side (p : Int32) (S : tk_ST) : f_X6_sideOf p S = some (sd p (S.1 3) (S.1 6)) := by
  unfold f_X6_sideOf f_X6_sideOf_16 sd
  by_cases h : p = S.1 3
  · rw [if_pos h, if_pos h]
  · rw [if_neg h, if_neg h]
    by_cases h : p = S.1 6
    · rw [if_pos h, if_pos h]
    · rw [if_neg h, if_neg h]
def ct (p : Nat → Bool) : Nat → Nat
  | 0 => 0
  | n + 1 => ct p n + (if p n = true then 1 else 0)
def cn (x : Int64) : Nat := ct (tb x) 54
def jbI (x : Int32) : Int64 := (1 : Int64) <<< (x.toInt64 &&& 63)
def orr (f : Nat → Int32) (a : Nat) : Nat → Int64
  | 0 => 0
  | n + 1 => orr f a n ||| jbI (f (a + n))
def pc (P : Nat) : Nat := (if P.testBit 0 then 1 else 0) + (if P.testBit 1 then 1 else 0) + (if P.testBit 2 then 1 else 0) + (if P.testBit 3 then 1 else 0)
def Row (f : Nat → Int32) : Prop := ∃ v : Nat → Nat, (∀ i, i < 54 → v i < 54 ∧ f i = nI (v i)) ∧ ∀ i j, i < 54 → j < 54 → v i = v j → i = j
def Crd (h : Nat → Int64) : Prop := (∀ p, p < 4 → ∀ c, tb (h p) c = true → c < 54) ∧ ∀ p q, p < 4 → q < 4 → p ≠ q → ∀ c, ¬ (tb (h p) c = true ∧ tb (h q) c = true)
theorem n10 : ¬ (1 : Int32) = 0 := by decide
theorem or3 {x : Int32} {n : Nat} (hn : n < 2 ^ 31) : (x < 0 ∨ nI n ≤ x) ∨ ∃ j : Nat, j < n ∧ x = nI j := by
  rcases arg3 n hn x with h | h | h
  · exact Or.inl (Or.inl h)
  · exact Or.inl (Or.inr h)
  · exact Or.inr h
theorem wo_b : ∀ c, c < 54 → 1 ≤ wo c ∧ wo c ≤ 5 := by decide
theorem L_thirdsB (h : Int64) : ∀ (n c sum : Nat), c ≤ 54 → 54 < c + n → sum ≤ 13 * c → ∃ t, t ≤ 702 ∧ f_X6_thirdsOf_4 n h (nI sum) (nI c) = some (nI t) := by
  intro n
  induction n with
  | zero => intro c sum h1 h2; omega
  | succ n ih =>
    intro c sum h54 hn hs
    rw [f_X6_thirdsOf_4_s]
    by_cases q : c = 54
    · subst q; rw [if_pos (show (54 : Int32) ≤ nI 54 from nI_le (Nat.le_refl _) (by decide))]
      exact ⟨sum, by omega, rfl⟩
    · have hlt : c < 54 := by omega
      have hw := wo_b c hlt
      rw [if_neg (nge hlt (by decide)), e_holds (by omega), b1s]
      by_cases ht : tb h c = true
      · rw [if_pos ht, if_neg n10, e_worth c hlt, b1s]
        unfold f_X6_thirdsOf_29
        rw [nI_1, show (3 : Int32) * nI (wo c) = nI (3 * wo c) from pk_mul 3 (wo c), show nI (3 * wo c) - 2 = nI (3 * wo c - 2) from pk_sub (b := 2) (by omega), nI_add]
        exact ih _ _ (by omega) (by omega) (by omega)
      · rw [if_neg ht, if_pos rfl]
        unfold f_X6_thirdsOf_29
        rw [nI_1]; exact ih _ _ (by omega) (by omega) (by omega)
theorem thirds_b (h : Int64) : ∃ t, t ≤ 702 ∧ f_X6_thirdsOf h = some (nI t) := L_thirdsB h 64 0 0 (by omega) (by omega) (by omega)
theorem e_sideP {j : Nat} (h : j < 2) : f_X6_isSide (nI j) = some 1 := by
  unfold f_X6_isSide
  rw [if_neg (nneg (by omega)), if_neg (nge h (by decide))]
theorem e_sidePN {x : Int32} (h : x < 0 ∨ nI 2 ≤ x) : f_X6_isSide x = some 0 := by
  unfold f_X6_isSide
  rcases h with h | h
  · rw [if_pos h]
  · by_cases q : x < 0
    · rw [if_pos q]
    · rw [if_neg q]; exact if_pos h
theorem nm1 {j : Nat} (h : j < 2 ^ 31) : ¬ nI j = -1 := fun e => nneg h (by rw [e]; decide)
def inS (s c : Nat) : Bool := if s = 4 then decide (32 ≤ c) else decide (8 * s ≤ c ∧ c < 8 * s + 8)
theorem m4_tb : ∀ c, c < 64 → tb (-4294967296) c = decide (32 ≤ c) := by decide +kernel
theorem ms_tb : ∀ s, s < 4 → ∀ c, c < 64 → tb ((255 : Int64) <<< (((8 : Int32) * nI s).toInt64 &&& 63)) c = decide (8 * s ≤ c ∧ c < 8 * s + 8) := by decide +kernel
theorem su_in : ∀ s, s < 5 → ∀ c, c < 54 → inS s c = decide (su c = s) := by decide +kernel
theorem su_lt : ∀ c, c < 54 → su c < 5 := by decide +kernel
theorem tb_and (x y : Int64) (c : Nat) : tb (x &&& y) c = (tb x c && tb y c) := by
  simp [tb, Int64.toBitVec_and]
theorem e_cos {h : Int64} (hs : ∀ c, tb h c = true → c < 54) {s : Nat} (h5 : s < 5) : ∃ x, f_X6_cardsOfSuit h (nI s) = some x ∧ ∀ c, tb x c = true ↔ (tb h c = true ∧ su c = s) := by
  have key : ∀ mk : Int64, (∀ c, c < 64 → tb mk c = inS s c) → ∀ c, tb (h &&& mk) c = true ↔ (tb h c = true ∧ su c = s) := by
    intro mk hm c
    rw [tb_and, Bool.and_eq_true]
    constructor
    · intro ⟨h1, h2⟩
      have hc := hs c h1
      rw [hm c (by omega), su_in s h5 c hc] at h2
      exact ⟨h1, of_decide_eq_true h2⟩
    · intro ⟨h1, h2⟩
      have hc := hs c h1
      refine ⟨h1, ?_⟩
      rw [hm c (by omega), su_in s h5 c hc]
      exact decide_eq_true h2
  unfold f_X6_cardsOfSuit f_X6_cardsOfSuit_19
  by_cases q : s = 4
  · subst q
    rw [if_pos (show nI 4 = 4 from rfl)]
    exact ⟨_, rfl, key _ (fun c hc => by rw [m4_tb c hc]; rfl)⟩
  · rw [if_neg (show ¬ nI s = 4 from fun e => q ((nI_eq (by omega) (by decide)).mp e))]
    refine ⟨_, rfl, key _ (fun c hc => ?_)⟩
    rw [ms_tb s (by omega) c hc]
    unfold inS
    rw [if_neg q]
def Has (h : Int64) (s : Nat) : Prop := ∃ c, tb h c = true ∧ su c = s
theorem zero_iff (x : Int64) : lg_cmp x 0 = 0 ↔ ∀ c, ¬ tb x c = true := by
  rw [lg_cmp_eq]
  constructor
  · intro e c; rw [e, tb_zero]; decide
  · intro h
    apply tb_ext
    intro c _
    rw [tb_zero]
    exact Bool.eq_false_iff.mpr (h c)
theorem e_pof {h : Int64} (hs : ∀ c, tb h c = true → c < 54) {s : Nat} (h5 : s < 5) : ∃ x, f_X6_playableOf h (nI s) = some x ∧ (∀ c, tb x c = true ↔ (tb h c = true ∧ ((Has h s ∧ su c = s) ∨ (¬ Has h s ∧ (su c = 4 ∨ ¬ Has h 4))))) ∧ ((∃ c, tb h c = true) → ∃ c, tb x c = true) := by
  obtain ⟨x, e1, h1⟩ := e_cos hs h5
  obtain ⟨y, e2, h2⟩ := e_cos hs (show 4 < 5 by decide)
  have z1 : lg_cmp x 0 = 0 ↔ ¬ Has h s := by
    rw [zero_iff]
    exact ⟨fun q ⟨c, hc⟩ => q c ((h1 c).mpr hc), fun q c hc => q ⟨c, (h1 c).mp hc⟩⟩
  have z2 : lg_cmp y 0 = 0 ↔ ¬ Has h 4 := by
    rw [zero_iff]
    exact ⟨fun q ⟨c, hc⟩ => q c ((h2 c).mpr hc), fun q c hc => q ⟨c, (h2 c).mp hc⟩⟩
  unfold f_X6_playableOf
  rw [if_neg (nm1 (j := s) (by omega)), e1, b1s, show f_X6_cardsOfSuit h 4 = some y from e2, b1s]
  by_cases q1 : Has h s
  · rw [if_neg (fun e => z1.mp e q1)]
    refine ⟨x, rfl, fun c => ?_, fun _ => ?_⟩
    · rw [h1]
      exact ⟨fun ⟨a, b⟩ => ⟨a, Or.inl ⟨q1, b⟩⟩, fun ⟨a, b⟩ => ⟨a, b.elim (fun q => q.2) (fun q => absurd q1 q.1)⟩⟩
    · obtain ⟨c, hc⟩ := q1
      exact ⟨c, (h1 c).mpr hc⟩
  · rw [if_pos (z1.mpr q1)]
    by_cases q2 : Has h 4
    · rw [if_neg (fun e => z2.mp e q2)]
      refine ⟨y, rfl, fun c => ?_, fun _ => ?_⟩
      · rw [h2]
        exact ⟨fun ⟨a, b⟩ => ⟨a, Or.inr ⟨q1, Or.inl b⟩⟩, fun ⟨a, b⟩ => ⟨a, b.elim (fun q => absurd q.1 q1) (fun q => q.2.elim id (fun z => absurd q2 z))⟩⟩
      · obtain ⟨c, hc⟩ := q2
        exact ⟨c, (h2 c).mpr hc⟩
    · rw [if_pos (z2.mpr q2)]
      exact ⟨h, rfl, fun c => ⟨fun a => ⟨a, Or.inr ⟨q1, Or.inr q2⟩⟩, fun a => a.1⟩, fun a => a⟩
theorem e_nowN {S : tk_ST} (h1 : ¬ S.1 1 = 5) : f_X6_playableNow S = some 0 := by
  unfold f_X6_playableNow
  rw [if_neg h1]
theorem e_bitc : ∀ m, m < 16 → f_J6_bitCount_0f7a4 (nI m) = some (nI (pc m)) := by decide +kernel
theorem e_ann {S : tk_ST} {b0 b1 j : Nat} (h0 : b0 < 2) (h1 : b1 < 2) (hj : j < 2) (e : S.1 8 = nI (b0 + 2 * b1)) : f_X6_isAnnounced (nI j) S = some (nI (if j = 0 then b0 else b1)) := by
  unfold f_X6_isAnnounced; rw [e]
  rcases (show b0 = 0 ∨ b0 = 1 by omega) with rfl | rfl
  all_goals rcases (show b1 = 0 ∨ b1 = 1 by omega) with rfl | rfl
  all_goals rcases (show j = 0 ∨ j = 1 by omega) with rfl | rfl
  all_goals decide
theorem e_ann98 {S : tk_ST} {b0 b1 j : Nat} (h0 : b0 < 2) (h1 : b1 < 2) (hj : j < 2) (e : S.1 8 = nI (b0 + 2 * b1)) : f_X6_announce_98 (nI j) S = some (0, nI ((if j = 0 then 1 else b0) + (if j = 0 then b1 else 1)), tk_I S 8 (nI ((if j = 0 then 1 else b0) + 2 * (if j = 0 then b1 else 1)))) := by
  unfold f_X6_announce_98; rw [e]
  have k1 : (nI (b0 + 2 * b1) ||| ((1 : Int32) <<< (nI j &&& 31))) = nI ((if j = 0 then 1 else b0) + 2 * (if j = 0 then b1 else 1)) := by
    rcases (show b0 = 0 ∨ b0 = 1 by omega) with rfl | rfl
    all_goals rcases (show b1 = 0 ∨ b1 = 1 by omega) with rfl | rfl
    all_goals rcases (show j = 0 ∨ j = 1 by omega) with rfl | rfl
    all_goals decide
  rw [k1, e_bitc _ (by split <;> omega), b1s]
  have k2 : pc ((if j = 0 then 1 else b0) + 2 * (if j = 0 then b1 else 1)) = (if j = 0 then 1 else b0) + (if j = 0 then b1 else 1) := by
    rcases (show b0 = 0 ∨ b0 = 1 by omega) with rfl | rfl
    all_goals rcases (show b1 = 0 ∨ b1 = 1 by omega) with rfl | rfl
    all_goals rcases (show j = 0 ∨ j = 1 by omega) with rfl | rfl
    all_goals decide
  rw [k2]
theorem nI0_iff {n : Nat} (h : n < 2 ^ 31) : nI n = 0 ↔ n = 0 := ⟨fun e => Classical.byContradiction fun q => nI_ne0 (by omega) h e, fun e => by rw [e]; rfl⟩
def own (h : Nat → Int64) (c : Nat) : Int32 := if tb (h 0) c = true then nI 0 else if tb (h 1) c = true then nI 1 else if tb (h 2) c = true then nI 2 else if tb (h 3) c = true then nI 3 else -1
def ownL (h : Nat → Int64) (c : Nat) : Int32 := if tb (h 3) c = true then nI 3 else if tb (h 2) c = true then nI 2 else if tb (h 1) c = true then nI 1 else if tb (h 0) c = true then nI 0 else -1
theorem own_eq {h : Nat → Int64} (hC : Crd h) (c : Nat) : ownL h c = own h c := by
  have d : ∀ p q, p < 4 → q < 4 → p ≠ q → tb (h p) c = true → ¬ tb (h q) c = true := fun p q a b e f g => hC.2 p q a b e c ⟨f, g⟩
  unfold own ownL
  by_cases q0 : tb (h 0) c = true
  · rw [if_neg (d 0 3 (by omega) (by omega) (by omega) q0), if_neg (d 0 2 (by omega) (by omega) (by omega) q0), if_neg (d 0 1 (by omega) (by omega) (by omega) q0), if_pos q0, if_pos q0]
  · by_cases q1 : tb (h 1) c = true
    · rw [if_neg (d 1 3 (by omega) (by omega) (by omega) q1), if_neg (d 1 2 (by omega) (by omega) (by omega) q1), if_pos q1, if_neg q0, if_pos q1]
    · by_cases q2 : tb (h 2) c = true
      · rw [if_neg (d 2 3 (by omega) (by omega) (by omega) q2), if_pos q2, if_neg q0, if_neg q1, if_pos q2]
      · rw [if_neg q0, if_neg q1, if_neg q2, if_neg q2, if_neg q1, if_neg q0]
theorem own_or (h : Nat → Int64) (c : Nat) : own h c = -1 ∨ ∃ o, o < 4 ∧ own h c = nI o ∧ tb (h o) c = true := by
  unfold own
  by_cases q0 : tb (h 0) c = true
  · exact Or.inr ⟨0, by omega, by rw [if_pos q0], q0⟩
  · rw [if_neg q0]
    by_cases q1 : tb (h 1) c = true
    · exact Or.inr ⟨1, by omega, by rw [if_pos q1], q1⟩
    · rw [if_neg q1]
      by_cases q2 : tb (h 2) c = true
      · exact Or.inr ⟨2, by omega, by rw [if_pos q2], q2⟩
      · rw [if_neg q2]
        by_cases q3 : tb (h 3) c = true
        · exact Or.inr ⟨3, by omega, by rw [if_pos q3], q3⟩
        · rw [if_neg q3]; exact Or.inl rfl
theorem L_owner {c : Nat} (hc : c < 54) (S : tk_ST) (n j : Nat) (hj : j < 4) : f_X6_ownerOf_2 (n + 1) (nI c) (nI j) S = if tb (S.2.2.2 0 j) c = true then some (nI j) else f_X6_ownerOf_2 n (nI c) (nI (j + 1)) S := by
  rw [f_X6_ownerOf_2_s, if_neg (nge hj (by decide)), e_at13 hj, b1s, e_holds (by omega), b1s, nI_1]
  by_cases q : tb (S.2.2.2 0 j) c = true
  · rw [if_pos q, if_pos q, if_neg n10]
  · rw [if_neg q, if_neg q, if_pos rfl]
theorem e_owner {c : Nat} (hc : c < 54) (S : tk_ST) : f_X6_ownerOf (nI c) S = some (own (S.2.2.2 0) c) := by
  unfold f_X6_ownerOf own
  show f_X6_ownerOf_2 (63 + 1) (nI c) (nI 0) S = _
  rw [L_owner hc S 63 0 (by decide)]
  by_cases q0 : tb (S.2.2.2 0 0) c = true
  · rw [if_pos q0, if_pos q0]
  · rw [if_neg q0, if_neg q0, L_owner hc S 62 1 (by decide)]
    by_cases q1 : tb (S.2.2.2 0 1) c = true
    · rw [if_pos q1, if_pos q1]
    · rw [if_neg q1, if_neg q1, L_owner hc S 61 2 (by decide)]
      by_cases q2 : tb (S.2.2.2 0 2) c = true
      · rw [if_pos q2, if_pos q2]
      · rw [if_neg q2, if_neg q2, L_owner hc S 60 3 (by decide)]
        by_cases q3 : tb (S.2.2.2 0 3) c = true
        · rw [if_pos q3, if_pos q3]
        · rw [if_neg q3, if_neg q3]; rfl
theorem e_king {s : Nat} (h : s < 4) : ((8 : Int32) * nI s) + 7 = nI (8 * s + 7) := by
  rcases (show s = 0 ∨ s = 1 ∨ s = 2 ∨ s = 3 by omega) with rfl | rfl | rfl | rfl <;> decide
theorem n1I {j : Nat} (h : j < 2 ^ 31) : ¬ nI j = -1 := fun e => nneg h (by rw [e]; decide)
theorem tbO (x y : Int64) (c : Nat) : tb (x ||| y) c = true ↔ tb x c = true ∨ tb y c = true := by rw [tb_or, Bool.or_eq_true]
theorem tbN (x y : Int64) (c : Nat) : tb (x &&& (y ^^^ (-1))) c = true ↔ tb x c = true ∧ ¬ tb y c = true := by rw [tb_andn]; cases tb x c <;> cases tb y c <;> decide
theorem tbJ {c : Nat} (hc : c < 64) (d : Nat) : tb (jb c) d = true ↔ c = d := by rw [tb_jb hc, decide_eq_true_iff]
theorem tbZ (c : Nat) : ¬ tb 0 c = true := by rw [tb_zero]; decide
theorem tbX {x y : Int64} (h : ∀ c, tb x c = true ↔ tb y c = true) : x = y := by
  apply tb_ext; intro c _
  have := h c
  cases e : tb x c <;> cases e2 : tb y c <;> simp_all
theorem ct_congr {p q : Nat → Bool} : ∀ n, (∀ i, i < n → (p i = true ↔ q i = true)) → ct p n = ct q n
  | 0, _ => rfl
  | n + 1, h => by
    show ct p n + _ = ct q n + _
    rw [ct_congr n (fun i hi => h i (by omega))]
    have := h n (by omega)
    by_cases e : p n = true
    · rw [if_pos e, if_pos (this.mp e)]
    · rw [if_neg e, if_neg (fun e' => e (this.mpr e'))]
theorem ct_add {p q r : Nat → Bool} : ∀ n, (∀ i, i < n → (r i = true ↔ p i = true ∨ q i = true)) → (∀ i, i < n → ¬ (p i = true ∧ q i = true)) → ct r n = ct p n + ct q n
  | 0, _, _ => rfl
  | n + 1, h, g => by
    show ct r n + _ = (ct p n + _) + (ct q n + _)
    rw [ct_add n (fun i hi => h i (by omega)) (fun i hi => g i (by omega))]
    have h1 := h n (by omega)
    have h2 := g n (by omega)
    by_cases e : p n = true
    · have e2 : ¬ q n = true := fun x => h2 ⟨e, x⟩
      rw [if_pos e, if_neg e2, if_pos (h1.mpr (Or.inl e))]; omega
    · by_cases e2 : q n = true
      · rw [if_neg e, if_pos e2, if_pos (h1.mpr (Or.inr e2))]; omega
      · rw [if_neg e, if_neg e2, if_neg (fun x => (h1.mp x).elim e e2)]; omega
theorem ct_one {p : Nat → Bool} {c : Nat} (h : ∀ i, p i = true ↔ c = i) : ∀ n, ct p n = if c < n then 1 else 0
  | 0 => rfl
  | n + 1 => by
    show ct p n + _ = _
    rw [ct_one h n]
    by_cases e : c = n
    · rw [if_pos ((h n).mpr e), if_neg (by omega), if_pos (by omega)]
    · rw [if_neg (fun x => e ((h n).mp x))]
      by_cases g : c < n
      · rw [if_pos g, if_pos (by omega)]
      · rw [if_neg g, if_neg (by omega)]
theorem ct_zero {p : Nat → Bool} : ∀ n, (∀ i, i < n → ¬ p i = true) → ct p n = 0
  | 0, _ => rfl
  | n + 1, h => by
    show ct p n + _ = _
    rw [ct_zero n (fun i hi => h i (by omega)), if_neg (h n (by omega))]
theorem cn_or {x y : Int64} (h : ∀ c, ¬ (tb x c = true ∧ tb y c = true)) : cn (x ||| y) = cn x + cn y := ct_add 54 (fun i _ => tbO x y i) (fun i _ => h i)
theorem cn_jb {c : Nat} (hc : c < 54) : cn (jb c) = 1 := by
  unfold cn
  rw [ct_one (c := c) (tbJ (by omega)), if_pos hc]
theorem cn_zero : cn 0 = 0 := ct_zero 54 (fun i _ => tbZ i)
theorem cn_rem {x : Int64} {c : Nat} (hc : c < 54) (h : tb x c = true) : cn (x &&& (jb c ^^^ (-1))) + 1 = cn x := by
  have e : x = (x &&& (jb c ^^^ (-1))) ||| jb c := by
    apply tbX; intro d
    rw [tbO, tbN, tbJ (by omega)]
    by_cases q : c = d
    · subst q; exact ⟨fun _ => Or.inr rfl, fun _ => h⟩
    · exact ⟨fun y => Or.inl ⟨y, q⟩, fun y => y.elim (·.1) (fun e => absurd e q)⟩
  have h2 := cn_or (x := x &&& (jb c ^^^ (-1))) (y := jb c) (fun d => by rw [tbN]; exact fun ⟨a, b⟩ => a.2 b)
  rw [← e, cn_jb hc] at h2
  exact h2.symm
theorem cn_pos {x : Int64} (h : 0 < cn x) : ∃ c, c < 54 ∧ tb x c = true := Classical.byContradiction fun q => by
  have := ct_zero (p := tb x) 54 (fun i hi e => q ⟨i, hi, e⟩)
  unfold cn at h; omega
theorem jbI_nI (c : Nat) : jbI (nI c) = jb c := rfl
theorem tb_orr {f : Nat → Int32} {v : Nat → Nat} (hv : ∀ i, i < 54 → v i < 54 ∧ f i = nI (v i)) {a : Nat} : ∀ n, a + n ≤ 54 → ∀ c, tb (orr f a n) c = true ↔ ∃ i, i < n ∧ v (a + i) = c
  | 0, _, c => ⟨fun e => absurd e (tbZ c), fun ⟨i, hi, _⟩ => absurd hi (Nat.not_lt_zero i)⟩
  | n + 1, h, c => by
    show tb (orr f a n ||| jbI (f (a + n))) c = true ↔ _
    have hc := hv (a + n) (by omega)
    rw [hc.2, jbI_nI, tbO, tb_orr hv n (by omega) c, tbJ (by omega)]
    constructor
    · rintro (⟨i, hi, e⟩ | e)
      · exact ⟨i, by omega, e⟩
      · exact ⟨n, by omega, e⟩
    · rintro ⟨i, hi, e⟩
      by_cases q : i = n
      · subst q; exact Or.inr e
      · exact Or.inl ⟨i, by omega, e⟩
theorem cn_orr {f : Nat → Int32} {v : Nat → Nat} (hv : ∀ i, i < 54 → v i < 54 ∧ f i = nI (v i)) (hi : ∀ i j, i < 54 → j < 54 → v i = v j → i = j) {a : Nat} : ∀ n, a + n ≤ 54 → cn (orr f a n) = n
  | 0, _ => cn_zero
  | n + 1, h => by
    show cn (orr f a n ||| jbI (f (a + n))) = _
    have hc := hv (a + n) (by omega)
    rw [hc.2, jbI_nI, cn_or, cn_orr hv hi n (by omega), cn_jb hc.1]
    intro c
    rw [tb_orr hv n (by omega), tbJ (by omega)]
    rintro ⟨⟨i, h1, h2⟩, h3⟩
    have := hi (a + i) (a + n) (by omega) (by omega) (h2.trans h3.symm)
    omega
theorem L_from {S : tk_ST} {a m : Nat} (h : a + m ≤ 54) : ∀ n j : Nat, j ≤ m → m - j < n → f_X1_cardsFrom_5 n (nI a) (nI m) (orr (S.2.2.1 0) a j) (nI j) S = some (orr (S.2.2.1 0) a m)
  | 0, _, _, g => absurd g (Nat.not_lt_zero _)
  | n + 1, j, hj, g => by
    rw [f_X1_cardsFrom_5_s]
    by_cases q : j = m
    · subst q; rw [if_pos (nI_le (Nat.le_refl j) (by omega))]
    · rw [if_neg (nI_ge (by omega) (by omega)), nI_add, e_at2 (by omega), b1s, show f_X6_only (S.2.2.1 0 (a + j)) = some (jbI (S.2.2.1 0 (a + j))) from rfl, b1s, nI_1]
      exact L_from h n (j + 1) (by omega) (by omega)
theorem e_from {S : tk_ST} {a m : Nat} (h : a + m ≤ 54) : f_X1_cardsFrom (nI a) (nI m) S = some (orr (S.2.2.1 0) a m) := L_from h 64 0 (Nat.zero_le m) (by omega)
def szl (l : Nat) : Nat := if 3 ≤ l then 1 else 4 - l
def grl (l : Nat) : Nat := if 3 ≤ l then 6 else l + 1
def gA (f : Nat → Int32) (x : Int64) (p sz : Nat) : Nat → Int64
  | 0 => x
  | j + 1 => if j / sz = p then gA f x p sz j ||| jbI (f (48 + j)) else gA f x p sz j
def gR (f : Nat → Int32) (p sz : Nat) : Nat → Int64
  | 0 => 0
  | j + 1 => if j / sz = p then gR f p sz j else gR f p sz j ||| jbI (f (48 + j))
theorem inR2 {j n : Nat} (h : j < n) (hj : j < 2 ^ 31) : ¬ (nI j < 0 ∨ n ≤ j) := fun e => e.elim (nneg hj) (by omega)
theorem div6 : ∀ j, j < 6 → ∀ z, z < 4 → 0 < z → nI j / nI z = nI (j / z) := by decide +kernel
theorem mul6 : ∀ j, j < 6 → ∀ z, z < 4 → nI j * nI z = nI (j * z) := by decide +kernel
theorem tb_gA {f : Nat → Int32} {v : Nat → Nat} (hv : ∀ i, i < 54 → v i < 54 ∧ f i = nI (v i)) {x : Int64} {p sz : Nat} : ∀ m, m ≤ 6 → ∀ c, tb (gA f x p sz m) c = true ↔ tb x c = true ∨ ∃ i, i < m ∧ i / sz = p ∧ v (48 + i) = c
  | 0, _, c => ⟨Or.inl, fun e => e.elim id (fun ⟨i, hi, _⟩ => absurd hi (Nat.not_lt_zero i))⟩
  | m + 1, h, c => by
    have ih := tb_gA hv (x := x) (p := p) (sz := sz) m (by omega) c
    have hc := hv (48 + m) (by omega)
    by_cases q : m / sz = p
    · rw [show gA f x p sz (m + 1) = gA f x p sz m ||| jbI (f (48 + m)) from if_pos q, hc.2, jbI_nI, tbO, ih, tbJ (by omega)]
      constructor
      · rintro ((e | ⟨i, h1, h2⟩) | e)
        · exact Or.inl e
        · exact Or.inr ⟨i, by omega, h2⟩
        · exact Or.inr ⟨m, by omega, q, e⟩
      · rintro (e | ⟨i, h1, h2, h3⟩)
        · exact Or.inl (Or.inl e)
        · by_cases r : i = m
          · subst r; exact Or.inr h3
          · exact Or.inl (Or.inr ⟨i, by omega, h2, h3⟩)
    · rw [show gA f x p sz (m + 1) = gA f x p sz m from if_neg q, ih]
      constructor
      · rintro (e | ⟨i, h1, h2⟩)
        · exact Or.inl e
        · exact Or.inr ⟨i, by omega, h2⟩
      · rintro (e | ⟨i, h1, h2, h3⟩)
        · exact Or.inl e
        · by_cases r : i = m
          · subst r; exact absurd h2 q
          · exact Or.inr ⟨i, by omega, h2, h3⟩
theorem tb_gR {f : Nat → Int32} {v : Nat → Nat} (hv : ∀ i, i < 54 → v i < 54 ∧ f i = nI (v i)) {p sz : Nat} : ∀ m, m ≤ 6 → ∀ c, tb (gR f p sz m) c = true ↔ ∃ i, i < m ∧ i / sz ≠ p ∧ v (48 + i) = c
  | 0, _, c => ⟨fun e => absurd e (tbZ c), fun ⟨i, hi, _⟩ => absurd hi (Nat.not_lt_zero i)⟩
  | m + 1, h, c => by
    have ih := tb_gR hv (p := p) (sz := sz) m (by omega) c
    have hc := hv (48 + m) (by omega)
    by_cases q : m / sz = p
    · rw [show gR f p sz (m + 1) = gR f p sz m from if_pos q, ih]
      constructor
      · rintro ⟨i, h1, h2⟩
        exact ⟨i, by omega, h2⟩
      · rintro ⟨i, h1, h2, h3⟩
        by_cases r : i = m
        · subst r; exact absurd q h2
        · exact ⟨i, by omega, h2, h3⟩
    · rw [show gR f p sz (m + 1) = gR f p sz m ||| jbI (f (48 + m)) from if_neg q, hc.2, jbI_nI, tbO, ih, tbJ (by omega)]
      constructor
      · rintro (⟨i, h1, h2⟩ | e)
        · exact ⟨i, by omega, h2⟩
        · exact ⟨m, by omega, q, e⟩
      · rintro ⟨i, h1, h2, h3⟩
        by_cases r : i = m
        · subst r; exact Or.inr h3
        · exact Or.inl ⟨i, by omega, h2, h3⟩
theorem div_iff {i p sz : Nat} (z0 : 0 < sz) (z4 : sz < 4) : i / sz = p ↔ p * sz ≤ i ∧ i < p * sz + sz := by
  rcases (show sz = 1 ∨ sz = 2 ∨ sz = 3 by omega) with rfl | rfl | rfl <;> omega
theorem gA_eq {f : Nat → Int32} {v : Nat → Nat} (hv : ∀ i, i < 54 → v i < 54 ∧ f i = nI (v i)) {x : Int64} {p sz : Nat} (z0 : 0 < sz) (z4 : sz < 4) (hp : p * sz + sz ≤ 6) : gA f x p sz 6 = x ||| orr f (48 + p * sz) sz := by
  apply tbX; intro c
  rw [tb_gA hv 6 (by omega), tbO, tb_orr hv sz (by omega)]
  constructor
  · rintro (e | ⟨i, h1, h2, h3⟩)
    · exact Or.inl e
    · have := (div_iff z0 z4).mp h2
      exact Or.inr ⟨i - p * sz, by omega, by rw [show 48 + p * sz + (i - p * sz) = 48 + i by omega]; exact h3⟩
  · rintro (e | ⟨i, h1, h2⟩)
    · exact Or.inl e
    · exact Or.inr ⟨p * sz + i, by omega, (div_iff z0 z4).mpr ⟨by omega, by omega⟩, by rw [← Nat.add_assoc]; exact h2⟩
theorem gR_eq {f : Nat → Int32} {v : Nat → Nat} (hv : ∀ i, i < 54 → v i < 54 ∧ f i = nI (v i)) (hi : ∀ i j, i < 54 → j < 54 → v i = v j → i = j) {p sz : Nat} (z0 : 0 < sz) (z4 : sz < 4) (hp : p * sz + sz ≤ 6) : gR f p sz 6 = orr f 48 6 &&& (orr f (48 + p * sz) sz ^^^ (-1)) := by
  apply tbX; intro c
  rw [tb_gR hv 6 (by omega), tbN, tb_orr hv 6 (by omega), tb_orr hv sz (by omega)]
  constructor
  · rintro ⟨i, h1, h2, h3⟩
    refine ⟨⟨i, h1, h3⟩, ?_⟩
    rintro ⟨j, g1, g2⟩
    have := hi (48 + p * sz + j) (48 + i) (by omega) (by omega) (g2.trans h3.symm)
    exact h2 ((div_iff z0 z4).mpr ⟨by omega, by omega⟩)
  · rintro ⟨⟨i, h1, h3⟩, h4⟩
    refine ⟨i, h1, fun e => h4 ?_, h3⟩
    have := (div_iff z0 z4).mp e
    exact ⟨i - p * sz, by omega, by rw [show 48 + p * sz + (i - p * sz) = 48 + i by omega]; exact h3⟩
theorem e_grH {l : Nat} (l1 : 1 ≤ l) (l4 : l ≤ 4) : f_X6_groupsAt (nI l) = some (nI (grl l)) := by
  rcases (show l = 1 ∨ l = 2 ∨ l = 3 ∨ l = 4 by omega) with rfl | rfl | rfl | rfl <;> decide
theorem e_szH {l : Nat} (l1 : 1 ≤ l) (l4 : l ≤ 4) : f_X6_groupSize (nI l) = some (nI (szl l)) := by
  rcases (show l = 1 ∨ l = 2 ∨ l = 3 ∨ l = 4 by omega) with rfl | rfl | rfl | rfl <;> decide
theorem e_szM {l : Nat} (l1 : 1 ≤ l) (l4 : l ≤ 4) : (if (3 : Int32) ≤ nI l then (1 : Int32) else 4 - nI l) = nI (szl l) := by
  rcases (show l = 1 ∨ l = 2 ∨ l = 3 ∨ l = 4 by omega) with rfl | rfl | rfl | rfl <;> decide
theorem e_gz {l : Nat} (l1 : 1 ≤ l) (l4 : l ≤ 4) : ((6 : Int32) / nI (szl l)) - 1 = nI (grl l - 1) := by
  rcases (show l = 1 ∨ l = 2 ∨ l = 3 ∨ l = 4 by omega) with rfl | rfl | rfl | rfl <;> decide
theorem e_sz {l : Nat} (l1 : 1 ≤ l) (l4 : l ≤ 4) : 0 < szl l ∧ szl l < 4 ∧ grl l * szl l = 6 ∧ 0 < grl l ∧ grl l ≤ 6 := by
  rcases (show l = 1 ∨ l = 2 ∨ l = 3 ∨ l = 4 by omega) with rfl | rfl | rfl | rfl <;> decide
theorem gz_le {l p : Nat} (l1 : 1 ≤ l) (l4 : l ≤ 4) (hp : p < grl l) : p * szl l + szl l ≤ 6 := by
  have : (p + 1) * szl l ≤ grl l * szl l := Nat.mul_le_mul_right _ (by omega)
  rw [(e_sz l1 l4).2.2.1, Nat.add_mul] at this
  omega
theorem or0 (x : Int64) : x ||| 0 = x := tbX fun c => by rw [tbO]; exact ⟨fun e => e.elim id (fun e => absurd e (tbZ c)), Or.inl⟩
theorem wo_king : ∀ s, s < 4 → wo (8 * s + 7) = 5 := by decide
theorem e_layT : ∀ c, c < 54 → (f_X6_canBeLaidAway (nI c) = some 1 ∧ wo c < 5) ∨ (f_X6_canBeLaidAway (nI c) = some 0 ∧ 5 ≤ wo c) := by
  intro c hc
  rw [e_lay c hc]
  by_cases q : wo c < 5
  · exact Or.inl ⟨by rw [if_pos q], q⟩
  · exact Or.inr ⟨by rw [if_neg q], by omega⟩
theorem wo_lt (c : Nat) : wo c ≤ 5 := by unfold wo; split <;> (try split) <;> omega
def less (h : Nat → Int64) (d c : Nat) : Nat → Int64 := vp_updL h d (h d &&& (jb c ^^^ (-1)))
theorem less_tb {h : Nat → Int64} {d c : Nat} (hc : c < 64) (p x : Nat) : tb (less h d c p) x = true ↔ tb (h p) x = true ∧ ¬ (p = d ∧ c = x) := by
  unfold less
  rw [updLE]
  by_cases e : p = d
  · subst e
    rw [if_pos rfl, tbN, tbJ hc]
    exact ⟨fun ⟨a, b⟩ => ⟨a, fun y => b y.2⟩, fun ⟨a, b⟩ => ⟨a, fun z => b ⟨rfl, z⟩⟩⟩
  · rw [if_neg e]
    exact ⟨fun a => ⟨a, fun y => e y.1⟩, fun y => y.1⟩
theorem less_crd {h : Nat → Int64} (hC : Crd h) {d c : Nat} (hc : c < 64) : Crd (less h d c) :=
  ⟨fun p hp x hx => hC.1 p hp x ((less_tb hc p x).mp hx).1, fun p q hp hq hpq x ⟨e1, e2⟩ => hC.2 p q hp hq hpq x ⟨((less_tb hc p x).mp e1).1, ((less_tb hc q x).mp e2).1⟩⟩
theorem less_cn {h : Nat → Int64} {d c : Nat} (hc : c < 54) (ht : tb (h d) c = true) : cn (less h d c d) + 1 = cn (h d) := by
  unfold less; rw [updLE, if_pos rfl]; exact cn_rem hc ht
theorem less_ne {h : Nat → Int64} {d c p : Nat} (e : p ≠ d) : less h d c p = h p := by unfold less; rw [updLE, if_neg e]
def nxt (P t : Nat) : Nat := if P.testBit ((t + 1) % 4) = true then (if P.testBit ((t + 2) % 4) = true then (if P.testBit ((t + 3) % 4) = true then t else (t + 3) % 4) else (t + 2) % 4) else (t + 1) % 4
theorem nxt_f : ∀ P, P < 16 → P ≠ 15 → ∀ t, t < 4 → nxt P t < 4 ∧ P.testBit (nxt P t) = false := by decide +kernel
theorem pas_b : ∀ P, P < 16 → ∀ j, j < 4 → (if ((nI P >>> (nI j &&& 31)) &&& (1 : Int32)) = (1 : Int32) then some (1 : Int32) else some (0 : Int32)) = some (if P.testBit j = true then 1 else 0) := by decide +kernel
theorem pas_or : ∀ P, P < 16 → ∀ t, t < 4 → (nI P ||| ((1 : Int32) <<< (nI t &&& 31))) = nI (P ||| 2 ^ t) := by decide +kernel
theorem pas_f : ∀ P, P < 16 → ∀ t, t < 4 → P.testBit t = false → P ||| 2 ^ t < 16 ∧ pc (P ||| 2 ^ t) = pc P + 1 ∧ ∀ j, j < 4 → ((P ||| 2 ^ t).testBit j = if j = t then true else P.testBit j) := by decide +kernel
theorem pc4 : ∀ P, P < 16 → (pc P = 4 ↔ P = 15) ∧ pc P ≤ 4 := by decide +kernel
theorem e_pas {S : tk_ST} {P j : Nat} (hP : P < 16) (hj : j < 4) (e : S.1 10 = nI P) : f_X0_hasPassed (nI j) S = some (if P.testBit j = true then 1 else 0) := by
  unfold f_X0_hasPassed; rw [e, pas_b P hP j hj]
theorem e_next {S : tk_ST} {P t : Nat} (hP : P < 16) (ht : t < 4) (e : S.1 10 = nI P) : f_X0_nextBehind (nI t) S = some (nI (nxt P t)) := by
  unfold f_X0_nextBehind nxt
  rw [e_behind ht, b1s]
  have st : ∀ n x j, j < 4 → x < 4 → f_X0_nextBehind_7 (n + 1) (nI j) (nI x) S = if P.testBit j = true then f_X0_nextBehind_7 n (nI ((j + 1) % 4)) (nI (x + 1)) S else some (nI j) := by
    intro n x j hj hx
    rw [f_X0_nextBehind_7_s, if_neg (show ¬ (4 : Int32) ≤ nI x from nI_ge (b := 4) hx (by decide)), e_pas hP hj e, b1s]
    by_cases q : P.testBit j = true
    · rw [if_pos q, if_neg n10, e_behind hj, b1s, nI_1, if_pos q]
    · rw [if_neg q, if_pos rfl, if_neg q]
  show f_X0_nextBehind_7 (63 + 1) (nI ((t + 1) % 4)) (nI 1) S = _
  rw [st 63 1 _ (by omega) (by omega)]
  by_cases q1 : P.testBit ((t + 1) % 4) = true
  · rw [if_pos q1, if_pos q1, st 62 2 _ (by omega) (by omega), show ((t + 1) % 4 + 1) % 4 = (t + 2) % 4 by omega]
    by_cases q2 : P.testBit ((t + 2) % 4) = true
    · rw [if_pos q2, if_pos q2, st 61 3 _ (by omega) (by omega), show ((t + 2) % 4 + 1) % 4 = (t + 3) % 4 by omega]
      by_cases q3 : P.testBit ((t + 3) % 4) = true
      · rw [if_pos q3, if_pos q3, f_X0_nextBehind_7_s, if_pos (show (4 : Int32) ≤ nI (3 + 1) by decide), show ((t + 3) % 4 + 1) % 4 = t by omega]
      · rw [if_neg q3, if_neg q3]
    · rw [if_neg q2, if_neg q2]
  · rw [if_neg q1, if_neg q1]
def hbt (S3 : tk_ST) : Option (Int32 × Int32 × tk_ST) := (tk_b1 (f_X0_allPassed S3) fun r4 => (if r4 = 0 then (tk_b1 (f_X0_isSettled S3) fun r8 => (if r8 = 0 then (tk_b1 (f_X0_nextBehind (S3.1 2) S3) fun r12 => some ((0 : Int32), (S3.1 1), (tk_I S3 2 r12))) else (tk_b1 (f_X6_beginGame S3) fun S17 => some ((0 : Int32), (S17.1 1), S17)))) else (tk_b1 (f_X6_endDeal S3) fun S20 => some ((0 : Int32), (S20.1 1), S20))))
theorem tk_up_up {α : Type} (f : Nat → α) (k : Nat) (a b : α) : tk_up (tk_up f k a) k b = tk_up f k b := by
  funext j
  rw [up_eq, up_eq, up_eq]
  by_cases e : j = k
  · rw [if_pos e, if_pos e]
  · rw [if_neg e, if_neg e, if_neg e]
theorem tk_up_id {α : Type} (f : Nat → α) (k : Nat) : tk_up f k (f k) = f := by
  funext j
  rw [up_eq]
  by_cases e : j = k
  · rw [if_pos e, e]
  · rw [if_neg e]
theorem tk_AA (S : tk_ST) (k : Nat) (a b : Nat → Int32) : tk_A (tk_A S k a) k b = tk_A S k b := by
  show (S.1, S.2.1, tk_up (tk_up S.2.2.1 k a) k b, S.2.2.2) = (S.1, S.2.1, tk_up S.2.2.1 k b, S.2.2.2)
  rw [tk_up_up]
theorem tk_Aid (S : tk_ST) (k : Nat) : tk_A S k (S.2.2.1 k) = S := by
  show (S.1, S.2.1, tk_up S.2.2.1 k (S.2.2.1 k), S.2.2.2) = S
  rw [tk_up_id]
def rnd (X : Nat) : Nat := (25173 * X + 13849) % 65536
def swp (f : Nat → Int32) (a b : Nat) : Nat → Int32 := upd (upd f a (f b)) b (f a)
def shf : Nat → Nat → (Nat → Int32) → Nat → Int32
  | 0, _, f => f
  | i + 1, X, f => shf i (rnd X) (swp f (i + 1) (rnd X % (i + 2)))
def ini (f : Nat → Int32) : Nat → Nat → Int32
  | 0 => f
  | n + 1 => upd (ini f n) n (nI n)
theorem ini_at (f : Nat → Int32) : ∀ n j, j < n → ini f n j = nI j
  | 0, j, h => absurd h (Nat.not_lt_zero j)
  | n + 1, j, h => by
    show upd (ini f n) n (nI n) j = _
    rw [updE]
    by_cases e : j = n
    · rw [if_pos e, e]
    · rw [if_neg e, ini_at f n j (by omega)]
theorem row_ini (f : Nat → Int32) : Row (ini f 54) := ⟨id, fun i hi => ⟨hi, ini_at f 54 i hi⟩, fun _ _ _ _ e => e⟩
theorem row_swp {f : Nat → Int32} (h : Row f) {a b : Nat} (ha : a < 54) (hb : b < 54) : Row (swp f a b) := by
  obtain ⟨v, hv, hi⟩ := h
  refine ⟨fun i => if i = b then v a else if i = a then v b else v i, fun i hi => ?_, fun i j h1 h2 e => ?_⟩
  · unfold swp
    rw [updE, updE]
    by_cases e : i = b
    · rw [if_pos e]; simp only [if_pos e]; exact hv a ha
    · rw [if_neg e]; simp only [if_neg e]
      by_cases e' : i = a
      · rw [if_pos e']; simp only [if_pos e']; exact hv b hb
      · rw [if_neg e']; simp only [if_neg e']; exact hv i hi
  · have key : ∀ i, i < 54 → (if i = b then v a else if i = a then v b else v i) = v (if i = b then a else if i = a then b else i) := by
      intro i _
      by_cases e : i = b
      · rw [if_pos e, if_pos e]
      · rw [if_neg e, if_neg e]
        by_cases e' : i = a
        · rw [if_pos e', if_pos e']
        · rw [if_neg e', if_neg e']
    have e2 : v (if i = b then a else if i = a then b else i) = v (if j = b then a else if j = a then b else j) := by
      rw [← key i h1, ← key j h2]; exact e
    have bd : ∀ i, i < 54 → (if i = b then a else if i = a then b else i) < 54 := by
      intro i h
      by_cases e : i = b
      · rw [if_pos e]; exact ha
      · rw [if_neg e]
        by_cases e' : i = a
        · rw [if_pos e']; exact hb
        · rw [if_neg e']; exact h
    have e3 := hi _ _ (bd i h1) (bd j h2) e2
    revert e3
    split <;> split <;> (try split) <;> (try split) <;> intro e3 <;> omega
theorem row_shf : ∀ i X f, i < 54 → Row f → Row (shf i X f)
  | 0, _, _, _, h => h
  | i + 1, X, f, hi, h => row_shf i (rnd X) _ (by omega) (row_swp h hi (Nat.lt_of_lt_of_le (Nat.mod_lt _ (by omega)) (by omega)))
theorem mul_nI (a b : Nat) : nI a * nI b = nI (a * b) := (Int32.ofNat_mul a b).symm
theorem e_rnd {X : Nat} (h : X < 65536) : tk_rem (((25173 : Int32) * nI X) + 13849) 65536 = nI (rnd X) := by
  rw [show (25173 : Int32) = nI 25173 from rfl, show (13849 : Int32) = nI 13849 from rfl, show (65536 : Int32) = nI 65536 from rfl, mul_nI, nI_add, e_rem (by omega) (by decide) (by decide)]
  rfl
theorem rnd_lt (X : Nat) : rnd X < 65536 := Nat.mod_lt _ (by decide)
theorem e_swap {a b : Nat} (ha : a < 54) (hb : b < 54) (S : tk_ST) : f_X1_swap (nI a) (nI b) S = some (tk_A S 0 (swp (S.2.2.1 0) a b)) := by
  unfold f_X1_swap
  rw [e_at2 ha, b1s, e_at2 hb, b1s, e_put2 ha, b1s, e_put2 hb, b1s, tk_AA]
  rfl
theorem nI_p1 (i : Nat) : nI (i + 1) + (-1 : Int32) = nI i := by
  rw [nI_succ]
  have : nI i + 1 + (-1 : Int32) = nI i := by rw [Int32.add_assoc, show (1 : Int32) + -1 = 0 from by decide, Int32.add_zero]
  exact this
theorem L_shH : ∀ n i X (S : tk_ST), i < n → i < 54 → X < 65536 → f_X1_shuffle_28 n (nI X) (nI i) S = some (tk_A S 0 (shf i X (S.2.2.1 0)))
  | 0, i, _, _, h, _, _ => absurd h (Nat.not_lt_zero i)
  | n + 1, 0, X, S, _, _, _ => by
    rw [f_X1_shuffle_28_s, if_pos (show nI 0 < 1 by decide)]
    exact congrArg some (tk_Aid S 0).symm
  | n + 1, i + 1, X, S, h, hi, hX => by
    have hm : rnd X % (i + 1 + 1) < i + 1 + 1 := Nat.mod_lt _ (by omega)
    rw [f_X1_shuffle_28_s, if_neg (show ¬ nI (i + 1) < 1 from nI_nlt (b := 1) (by omega) (by omega)), e_rnd hX, b1s, nI_1, if_neg (nI_ne0 (by omega) (by omega)), e_rem (by have := rnd_lt X; omega) (by omega) (by omega), e_swap hi (by omega), b1s, nI_p1, L_shH n i (rnd X) _ (by omega) (by omega) (rnd_lt X), tk_AA]
    rfl
theorem e_shH {X : Nat} (hX : X < 65536) (S : tk_ST) : f_X1_shuffle (nI X) S = some (tk_A S 0 (shf 53 X (ini (S.2.2.1 0) 54))) := by
  have key : ∀ m, m ≤ 54 → f_X1_shuffle_2 64 (nI X) 0 S = f_X1_shuffle_2 (64 - m) (nI X) (nI m) (tk_A S 0 (ini (S.2.2.1 0) m)) := by
    intro m
    induction m with
    | zero => intro _; show _ = f_X1_shuffle_2 64 (nI X) (nI 0) (tk_A S 0 (S.2.2.1 0)); rw [tk_Aid]; rfl
    | succ m ih =>
      intro hm
      rw [ih (by omega), show 64 - m = (64 - (m + 1)) + 1 by omega, f_X1_shuffle_2_s, if_neg (show ¬ (54 : Int32) ≤ nI m from nI_ge (b := 54) (by omega) (by decide)), e_put2 (by omega), b1s, nI_1, tk_AA]
      rfl
  unfold f_X1_shuffle
  rw [key 54 (by omega), show 64 - 54 = 9 + 1 from rfl, f_X1_shuffle_2_s, if_pos (show (54 : Int32) ≤ nI 54 by decide), show (53 : Int32) = nI 53 from rfl, L_shH 64 53 X _ (by omega) (by omega) hX, tk_AA]
  rfl
theorem tk_BB (S : tk_ST) (k : Nat) (a b : Nat → Int64) : tk_B (tk_B S k a) k b = tk_B S k b := by
  show (S.1, S.2.1, S.2.2.1, tk_up (tk_up S.2.2.2 k a) k b) = (S.1, S.2.1, S.2.2.1, tk_up S.2.2.2 k b)
  rw [tk_up_up]
theorem tk_Bid (S : tk_ST) (k : Nat) : tk_B S k (S.2.2.2 k) = S := by
  show (S.1, S.2.1, S.2.2.1, tk_up S.2.2.2 k (S.2.2.2 k)) = S
  rw [tk_up_id]
def hH (f : Nat → Int32) (F : Nat) (h : Nat → Int64) : Nat → Nat → Int64
  | 0 => h
  | m + 1 => vp_updL (hH f F h m) ((F + m) % 4) (orr f (m * 12) 12)
def rr (F p : Nat) : Nat := (p + 4 - F) % 4
theorem hH_at (f : Nat → Int32) {F : Nat} (hF : F < 4) (h : Nat → Int64) (p : Nat) : ∀ m, m ≤ 4 → hH f F h m p = if p < 4 ∧ rr F p < m then orr f (rr F p * 12) 12 else h p
  | 0, _ => by rw [if_neg (fun e => Nat.not_lt_zero _ e.2)]; rfl
  | m + 1, hm => by
    show vp_updL (hH f F h m) ((F + m) % 4) (orr f (m * 12) 12) p = _
    rw [updLE, hH_at f hF h p m (by omega)]
    by_cases e : p = (F + m) % 4
    · have e2 : rr F p = m := by unfold rr; omega
      rw [if_pos e, if_pos ⟨by omega, by omega⟩, e2]
    · rw [if_neg e]
      have e2 : p < 4 → rr F p ≠ m := by unfold rr; omega
      by_cases q : p < 4 ∧ rr F p < m
      · rw [if_pos q, if_pos ⟨q.1, by omega⟩]
      · rw [if_neg q, if_neg (fun y => q ⟨y.1, by have := e2 y.1; omega⟩)]
theorem e_handOut {S : tk_ST} {F : Nat} (hF : F < 4) (e : S.1 0 = nI F) : f_X6_handOut S = some (tk_L (tk_B S 0 (hH (S.2.2.1 0) F (S.2.2.2 0) 4)) 1 (orr (S.2.2.1 0) 48 6)) := by
  unfold f_X6_handOut
  rw [e]
  have key : ∀ m, m ≤ 4 → f_X6_handOut_7 64 (nI F) 0 S = f_X6_handOut_7 (64 - m) (nI ((F + m) % 4)) (nI m) (tk_B S 0 (hH (S.2.2.1 0) F (S.2.2.2 0) m)) := by
    intro m
    induction m with
    | zero => intro _; show _ = f_X6_handOut_7 64 (nI ((F + 0) % 4)) (nI 0) (tk_B S 0 (S.2.2.2 0)); rw [tk_Bid, Nat.add_zero, Nat.mod_eq_of_lt hF]; rfl
    | succ m ih =>
      intro hm
      rw [ih (by omega), show 64 - m = (64 - (m + 1)) + 1 by omega, f_X6_handOut_7_s, if_neg (show ¬ (4 : Int32) ≤ nI m from nI_ge (b := 4) (by omega) (by decide)), show (12 : Int32) = nI 12 from rfl, mul_nI, e_from (by omega), b1s, e_put13 (by omega), b1s, e_behind (by omega), b1s, nI_1, tk_BB, show ((F + m) % 4 + 1) % 4 = (F + (m + 1)) % 4 by omega]
      rfl
  rw [key 4 (by omega), show 64 - 4 = 59 + 1 from rfl, f_X6_handOut_7_s, if_pos (show (4 : Int32) ≤ nI 4 by decide), show (48 : Int32) = nI 48 from rfl, show (6 : Int32) = nI 6 from rfl, e_from (by omega), b1s]
  rfl
theorem div12 : ∀ m, m < 48 → nI m / 12 = nI (m / 12) := by decide +kernel
theorem e_p0 (v : Int64) (S : tk_ST) : f_X3_put_p15 (0 : Int32) v S = some (tk_B S 1 (vp_updL (S.2.2.2 1) 0 v)) := e_put15 (j := 0) (by decide) v S
theorem e_p1 (v : Int64) (S : tk_ST) : f_X3_put_p15 (1 : Int32) v S = some (tk_B S 1 (vp_updL (S.2.2.2 1) 1 v)) := e_put15 (j := 1) (by decide) v S
theorem e_clear (S : tk_ST) : ∃ C, f_X6_clearDeal S = some C ∧ C.1 0 = S.1 0 ∧ C.1 1 = S.1 1 ∧ C.1 3 = -1 ∧ C.1 4 = -1 ∧ C.1 5 = -1 ∧ C.1 6 = -1 ∧ C.1 8 = 0 ∧ C.1 9 = 0 ∧ C.1 10 = 0 ∧ C.1 11 = 0 ∧ C.1 12 = -1 ∧ C.1 13 = S.1 0 ∧ C.1 14 = 0 ∧ C.1 15 = S.1 15 ∧ C.2.1 0 = 0 ∧ C.2.2.1 = S.2.2.1 ∧ C.2.2.2 0 = S.2.2.2 0 ∧ C.2.2.2 1 0 = 0 ∧ C.2.2.2 1 1 = 0 := by
  unfold f_X6_clearDeal f_X0_clear f_X5_begin
  rw [b1s, b1s, b1s, e_p0, b1s, e_p1, b1s]
  exact ⟨_, rfl, rfl, rfl, rfl, rfl, rfl, rfl, rfl, rfl, rfl, rfl, rfl, rfl, rfl, rfl, rfl, rfl, rfl, rfl, rfl⟩
def bt (a b : Nat) : Bool := if su a = su b then decide (b < a) else decide (su a = 4)
def wst (kc : Nat → Nat) (b i : Nat) : Nat := if bt (kc i) (kc b) = true then i else b
def bst (kc : Nat → Nat) : Nat := wst kc (wst kc (wst kc 0 1) 2) 3
def Trk (f : Nat → Int32) (kc : Nat → Nat) : Prop := ∀ i, i < 4 → kc i < 54 ∧ f i = nI (kc i)
theorem wst_lt (kc : Nat → Nat) {b i : Nat} (hb : b < 4) (hi : i < 4) : wst kc b i < 4 := by unfold wst; split <;> assumption
theorem bst_lt (kc : Nat → Nat) : bst kc < 4 := wst_lt kc (wst_lt kc (wst_lt kc (by omega) (by omega)) (by omega)) (by omega)
theorem e_beats {a b : Nat} (ha : a < 54) (hb : b < 54) : f_X5_beats (nI a) (nI b) = some (if bt a b = true then 1 else 0) := by
  have s1 := su_lt a ha
  have s2 := su_lt b hb
  unfold f_X5_beats f_X5_beats_16 bt
  rw [e_suit a ha, b1s, e_suit b hb, b1s]
  by_cases q : su a = su b
  · rw [if_pos (show nI (su a) = nI (su b) by rw [q]), if_neg n10, if_pos q]
    by_cases r : b < a
    · rw [if_neg (nI_ge r (by omega)), if_pos (decide_eq_true r)]
    · rw [if_pos (nI_le (by omega) (by omega)), if_neg (by rw [decide_eq_true_iff]; exact r)]
  · rw [if_neg (fun e => q ((nI_eq (by omega) (by omega)).mp e)), if_pos rfl, b1s, if_neg q]
    by_cases r : su a = 4
    · rw [if_pos (show nI (su a) = 4 by rw [r]; rfl), if_pos (decide_eq_true r)]
    · rw [if_neg (show ¬ nI (su a) = 4 from fun e => r ((nI_eq (b := 4) (by omega) (by decide)).mp e)), if_neg (by rw [decide_eq_true_iff]; exact r)]
theorem L_win {S : tk_ST} {kc : Nat → Nat} (hk : Trk (S.2.2.1 1) kc) (e : S.1 14 = nI 4) (n : Nat) {b i : Nat} (hb : b < 4) (hi : i < 4) : f_X5_winner_4 (n + 1) (nI b) (nI i) S = f_X5_winner_4 n (nI (wst kc b i)) (nI (i + 1)) S := by
  rw [f_X5_winner_4_s, e, if_neg (nI_ge hi (by decide)), e_at6 hi, b1s, e_at6 hb, b1s, (hk i hi).2, (hk b hb).2, e_beats (hk i hi).1 (hk b hb).1, b1s]
  unfold f_X5_winner_36 wst
  rw [nI_1]
  by_cases q : bt (kc i) (kc b) = true
  · rw [if_pos q, if_neg n10, if_pos q]
  · rw [if_neg q, if_pos rfl, if_neg q]
theorem e_plAt {S : tk_ST} {L b : Nat} (hL : L < 4) (hb : b < 4) (e : S.1 13 = nI L) : f_X5_playerAt (nI b) S = some (nI ((L + b) % 4)) := by
  unfold f_X5_playerAt
  rw [e, nI_add, show (4 : Int32) = nI 4 from rfl, e_rem (by omega) (by decide) (by decide)]
theorem e_win {S : tk_ST} {kc : Nat → Nat} {L : Nat} (hL : L < 4) (eL : S.1 13 = nI L) (hk : Trk (S.2.2.1 1) kc) (e : S.1 14 = nI 4) : f_X5_winner S = some (nI ((L + bst kc) % 4)) := by
  unfold f_X5_winner
  show f_X5_winner_4 (63 + 1) (nI 0) (nI 1) S = _
  rw [L_win hk e 63 (by omega) (by omega), L_win hk e 62 (wst_lt kc (by omega) (by omega)) (by omega), L_win hk e 61 (wst_lt kc (wst_lt kc (by omega) (by omega)) (by omega)) (by omega), f_X5_winner_4_s, e, if_pos (show nI 4 ≤ nI (3 + 1) by decide), show wst kc (wst kc (wst kc 0 1) (1 + 1)) (1 + 1 + 1) = bst kc from rfl, e_plAt hL (bst_lt kc) eL]
  rfl
def fnd (kc : Nat → Nat) (c : Nat) : Nat := if kc 0 = c then 0 else if kc 1 = c then 1 else if kc 2 = c then 2 else if kc 3 = c then 3 else 4
theorem L_plOf {S : tk_ST} {kc : Nat → Nat} {L : Nat} (hL : L < 4) (eL : S.1 13 = nI L) (hk : Trk (S.2.2.1 1) kc) (e : S.1 14 = nI 4) {c : Nat} (hc : c < 54) (n : Nat) {i : Nat} (hi : i < 4) : f_X5_playerOf_2 (n + 1) (nI c) (nI i) S = if kc i = c then some (nI ((L + i) % 4)) else f_X5_playerOf_2 n (nI c) (nI (i + 1)) S := by
  have := (hk i hi).1
  rw [f_X5_playerOf_2_s, e, if_neg (nI_ge hi (by decide)), e_at6 hi, b1s, (hk i hi).2, e_plAt hL hi eL, b1s, nI_1]
  by_cases q : kc i = c
  · rw [if_pos (show nI (kc i) = nI c by rw [q]), if_pos q]
  · rw [if_neg (fun e => q ((nI_eq (by omega) (by omega)).mp e)), if_neg q]
theorem e_plOf {S : tk_ST} {kc : Nat → Nat} {L : Nat} (hL : L < 4) (eL : S.1 13 = nI L) (hk : Trk (S.2.2.1 1) kc) (e : S.1 14 = nI 4) {c : Nat} (hc : c < 54) : f_X5_playerOf (nI c) S = some (if fnd kc c < 4 then nI ((L + fnd kc c) % 4) else -1) := by
  unfold f_X5_playerOf fnd
  show f_X5_playerOf_2 (63 + 1) (nI c) (nI 0) S = _
  rw [L_plOf hL eL hk e hc 63 (by omega)]
  by_cases q0 : kc 0 = c
  · rw [if_pos q0, if_pos q0, if_pos (by omega)]
  · rw [if_neg q0, if_neg q0, L_plOf hL eL hk e hc 62 (by omega)]
    by_cases q1 : kc (0 + 1) = c
    · rw [if_pos q1, if_pos (show kc 1 = c from q1), if_pos (by omega)]
    · rw [if_neg q1, if_neg (show ¬ kc 1 = c from q1), L_plOf hL eL hk e hc 61 (by omega)]
      by_cases q2 : kc (0 + 1 + 1) = c
      · rw [if_pos q2, if_pos (show kc 2 = c from q2), if_pos (by omega)]
      · rw [if_neg q2, if_neg (show ¬ kc 2 = c from q2), L_plOf hL eL hk e hc 60 (by omega)]
        by_cases q3 : kc (0 + 1 + 1 + 1) = c
        · rw [if_pos q3, if_pos (show kc 3 = c from q3), if_pos (by omega)]
        · rw [if_neg q3, if_neg (show ¬ kc 3 = c from q3), if_neg (by omega), f_X5_playerOf_2_s, e, if_pos (show nI 4 ≤ nI (3 + 1) by decide)]
theorem L_set {S : tk_ST} (e : S.1 14 = nI 4) (n : Nat) {x : Int64} {i : Nat} (hi : i < 4) : f_X5_cardSet_4 (n + 1) x (nI i) S = f_X5_cardSet_4 n (x ||| jbI (S.2.2.1 1 i)) (nI (i + 1)) S := by
  rw [f_X5_cardSet_4_s, e, if_neg (nI_ge hi (by decide)), e_at6 hi, b1s, nI_1]; rfl
theorem e_set {S : tk_ST} (e : S.1 14 = nI 4) : f_X5_cardSet S = some (orr (S.2.2.1 1) 0 4) := by
  unfold f_X5_cardSet
  show f_X5_cardSet_4 (63 + 1) 0 (nI 0) S = _
  rw [L_set e 63 (by omega), L_set e 62 (by omega), L_set e 61 (by omega), L_set e 60 (by omega), f_X5_cardSet_4_s, e, if_pos (show nI 4 ≤ nI (3 + 1) by decide)]
  rfl
theorem e_pag39 {S : tk_ST} {b0 b1 : Nat} (h0 : b0 < 2) (h1 : b1 < 2) (e : S.1 8 = nI (b0 + 2 * b1)) (x x3 k : Int32) : f_X6_pagatPoints_39 x x3 k S = some (if b0 = 0 then (if x = -1 then 0 else if x3 = k then 25 else -25) else (if x3 = 0 then -50 else if k = 0 then -50 else 50)) := by
  unfold f_X6_pagatPoints_39
  rw [show f_X6_isAnnounced (0 : Int32) S = some (nI b0) from e_ann (j := 0) h0 h1 (by decide) e, b1s]
  rcases (show b0 = 0 ∨ b0 = 1 by omega) with rfl | rfl
  · rw [if_pos (show nI 0 = 0 from rfl), if_pos rfl]
    by_cases q : x = -1
    · rw [if_pos q, if_pos q]
    · rw [if_neg q, if_neg q]
      by_cases q : x3 = k
      · rw [if_pos q, if_pos q]
      · rw [if_neg q, if_neg q]
  · rw [if_neg (show ¬ nI 1 = 0 from n10), if_neg (by decide : ¬ 1 = 0)]
    by_cases q : x3 = 0
    · rw [if_pos q, if_pos q]
    · rw [if_neg q, if_neg q]
      by_cases q : k = 0
      · rw [if_pos q, if_pos q]
      · rw [if_neg q, if_neg q]
theorem e_pag20 {S : tk_ST} {b0 b1 : Nat} (h0 : b0 < 2) (h1 : b1 < 2) (e : S.1 8 = nI (b0 + 2 * b1)) (x k : Int32) : f_X6_pagatPoints_20 x k S = some (if b0 = 0 then (if x = -1 then 0 else if k = (if x = -1 then 0 else if sd x (S.1 3) (S.1 6) = 0 then 1 else 0) then 25 else -25) else (if k = 0 then -50 else if (if x = -1 then (0 : Int32) else if sd x (S.1 3) (S.1 6) = 0 then 1 else 0) = 0 then -50 else 50)) := by
  unfold f_X6_pagatPoints_20 f_X6_pagatPoints_38
  by_cases q : x = -1
  · rw [if_pos q, e_pag39 h0 h1 e, if_pos q]
    simp only [if_pos q]
  · rw [if_neg q, e_side, b1s, if_neg q]
    simp only [if_neg q]
    by_cases r : sd x (S.1 3) (S.1 6) = 0
    · rw [if_pos r, e_pag39 h0 h1 e]; simp only [if_pos r, if_neg q]
    · rw [if_neg r, e_pag39 h0 h1 e]; simp only [if_neg r, if_neg q]
theorem sd01 (p d q : Int32) : sd p d q = 0 ∨ sd p d q = 1 := by
  unfold sd
  by_cases h : p = d
  · rw [if_pos h]; exact Or.inl rfl
  · rw [if_neg h]
    by_cases h : p = q
    · rw [if_pos h]; exact Or.inl rfl
    · rw [if_neg h]; exact Or.inr rfl
theorem e_kin46 {S : tk_ST} {b0 b1 : Nat} (h0 : b0 < 2) (h1 : b1 < 2) (e : S.1 8 = nI (b0 + 2 * b1)) (x k : Int32) : f_X6_kingPoints_46 x k S = some (if b1 = 0 then (if x = 0 then 0 else if k = 0 then -10 else 10) else (if k = 0 then -20 else 20)) := by
  unfold f_X6_kingPoints_46
  rw [show f_X6_isAnnounced (1 : Int32) S = some (nI b1) from e_ann (j := 1) h0 h1 (by decide) e, b1s]
  rcases (show b1 = 0 ∨ b1 = 1 by omega) with rfl | rfl
  · rw [if_pos (show nI 0 = 0 from rfl), if_pos rfl]
    by_cases q : x = 0
    · rw [if_pos q, if_pos q]
    · rw [if_neg q, if_neg q]
      by_cases q : k = 0
      · rw [if_pos q, if_pos q]
      · rw [if_neg q, if_neg q]
  · rw [if_neg (show ¬ nI 1 = 0 from n10), if_neg (by decide : ¬ 1 = 0)]
    by_cases q : k = 0
    · rw [if_pos q, if_pos q]
    · rw [if_neg q, if_neg q]
theorem dif3 : ∀ n, n < 703 → ((if (0 : Int32) ≤ nI n - 105 then nI n - 105 else 0 - (nI n - 105)) / 3 : Int32) = (if n ≤ 105 then 105 - nI n else nI n - 105) / 3 := by decide +kernel
def Same (S S' : tk_ST) (a b : Nat) : Prop := S'.2.1 = S.2.1 ∧ S'.2.2.2 = S.2.2.2 ∧ ∀ j, j ≠ a → j ≠ b → S'.2.2.1 j = S.2.2.1 j
theorem e_addScore {p : Nat} (hp : p < 4) (S : tk_ST) : f_X4_addScore (nI p) S = some (tk_A S 2 (upd (S.2.2.1 2) p (S.2.2.1 2 p + S.1 15))) := by
  unfold f_X4_addScore
  rw [e_at9 hp, b1s, e_put9 hp, b1s]
def plus (f : Nat → Int32) (d q r : Int32) : Nat → Int32 := fun j => f j + if j < 4 ∧ sd (nI j) d q = 0 then r else 0
theorem e_62 {d : Nat} (hd : d < 4) {q : Int32} (hq : q = -1 ∨ ∃ q', q' < 4 ∧ q = nI q' ∧ q ≠ nI d) (S : tk_ST) : ∃ S', f_X4_enter_62 (nI d) q S = some S' ∧ S'.1 = S.1 ∧ Same S S' 2 2 ∧ S'.2.2.1 2 = plus (S.2.2.1 2) (nI d) q (S.1 15) := by
  unfold f_X4_enter_62
  rw [e_addScore hd, b1s]
  have sdd : sd (nI d) (nI d) q = 0 := by unfold sd; rw [if_pos rfl]
  have sdn : ∀ j, j < 4 → j ≠ d → sd (nI j) (nI d) q = if nI j = q then 0 else 1 := by
    intro j hj e
    unfold sd
    rw [if_neg (fun y => e ((nI_eq (by omega) (by omega)).mp y))]
  rcases hq with rfl | ⟨q', hq', rfl, hne⟩
  · rw [if_pos rfl]
    refine ⟨_, rfl, rfl, ⟨rfl, rfl, fun j h2 _ => by rw [uA3, if_neg h2]⟩, ?_⟩
    rw [uA3, if_pos rfl]
    funext j
    rw [updE]
    unfold plus
    by_cases e : j = d
    · rw [if_pos e, if_pos ⟨by omega, by rw [e]; exact sdd⟩, e]
    · rw [if_neg e, if_neg, Int32.add_zero]
      rintro ⟨j4, y⟩
      rw [sdn j j4 e, if_neg (n1I (by omega))] at y
      exact absurd y (by decide)
  · have hqd : q' ≠ d := fun e => hne (by rw [e])
    rw [if_neg (n1I (by omega)), e_addScore hq', b1s]
    refine ⟨_, rfl, rfl, ⟨rfl, rfl, fun j h2 _ => by rw [uA3, if_neg h2, uA3, if_neg h2]⟩, ?_⟩
    rw [uA3, if_pos rfl]
    funext j
    rw [updE, uA3, if_pos rfl, updE, updE, if_neg hqd]
    unfold plus
    by_cases e : j = q'
    · rw [if_pos e, if_pos ⟨by omega, by rw [e, sdn q' hq' hqd, if_pos rfl]⟩, e]; rfl
    · rw [if_neg e]
      by_cases e' : j = d
      · rw [if_pos e', if_pos ⟨by omega, by rw [e']; exact sdd⟩, e']
      · rw [if_neg e', if_neg, Int32.add_zero]
        rintro ⟨j4, y⟩
        rw [sdn j j4 e', if_neg (fun y => e ((nI_eq (by omega) (by omega)).mp y))] at y
        exact absurd y (by decide)
theorem L_give {S : tk_ST} : ∀ m, m ≤ 4 → ∃ S', f_X4_giveRadli_2 64 0 S = f_X4_giveRadli_2 (64 - m) (nI m) S' ∧ S'.1 = S.1 ∧ Same S S' 3 3 ∧ S'.2.2.1 3 = fun j => S.2.2.1 3 j + if j < m then 1 else 0
  | 0, _ => ⟨S, rfl, rfl, ⟨rfl, rfl, fun _ _ _ => rfl⟩, by funext j; rw [if_neg (Nat.not_lt_zero j), Int32.add_zero]⟩
  | m + 1, h => by
    obtain ⟨A, x1, x2, ⟨x3, x4, x5⟩, x6⟩ := L_give (S := S) m (by omega)
    rw [x1, show 64 - m = (64 - (m + 1)) + 1 by omega, f_X4_giveRadli_2_s, if_neg (show ¬ (4 : Int32) ≤ nI m from nI_ge (b := 4) (by omega) (by decide)), e_at11 (by omega), b1s, e_put11 (by omega), b1s, nI_1]
    refine ⟨_, rfl, x2, ⟨x3, x4, fun j h1 h2 => by rw [uA3, if_neg h1]; exact x5 j h1 h2⟩, ?_⟩
    rw [uA3, if_pos rfl]
    funext j
    rw [updE, x6]
    by_cases e : j = m
    · rw [if_pos e, e]; simp only [if_neg (Nat.lt_irrefl m), if_pos (Nat.lt_succ_self m), Int32.add_zero]
    · rw [if_neg e]
      by_cases q : j < m
      · simp only [if_pos q, if_pos (show j < m + 1 by omega)]
      · simp only [if_neg q, if_neg (show ¬ j < m + 1 by omega)]
theorem e_give (S : tk_ST) : ∃ S', f_X4_giveRadli S = some S' ∧ S'.1 = S.1 ∧ Same S S' 3 3 ∧ S'.2.2.1 3 = fun j => S.2.2.1 3 j + if j < 4 then 1 else 0 := by
  obtain ⟨A, x1, x2, x3, x4⟩ := L_give (S := S) 4 (by omega)
  refine ⟨A, ?_, x2, x3, x4⟩
  unfold f_X4_giveRadli
  rw [x1, show 64 - 4 = 59 + 1 from rfl, f_X4_giveRadli_2_s, if_pos (show (4 : Int32) ≤ nI 4 by decide)]
theorem upd_same (f : Nat → Int32) (d : Nat) : upd f d (f d - 0) = f := by
  funext j
  rw [updE]
  by_cases e : j = d
  · rw [if_pos e, e, Int32.sub_zero]
  · rw [if_neg e]
def resR (f : Nat → Int32) (d : Nat) (pts : Int32) : Int32 := if f d ≤ 0 then pts else pts * 2
def resA (f : Nat → Int32) (d t : Nat) : Nat → Int32 := if f d ≤ 0 then f else if t ≤ 105 then f else upd f d (f d - 1)
theorem e_enter {d t : Nat} (hd : d < 4) (ht : t ≤ 702) (q pts : Int32) (S : tk_ST) : ∃ X, f_X4_enter (nI d) q pts (if t ≤ 105 then 0 else 1) S = f_X4_enter_62 (nI d) q X ∧ X.1 15 = resR (S.2.2.1 3) d pts ∧ (∀ i, i ≠ 15 → X.1 i = S.1 i) ∧ Same S X 3 3 ∧ X.2.2.1 3 = resA (S.2.2.1 3) d t := by
  unfold f_X4_enter f_X4_enter_16 f_X4_enter_31 resR resA
  rw [e_at11 hd, b1s]
  by_cases r : S.2.2.1 3 d ≤ 0
  · rw [if_pos r, if_pos rfl, if_pos rfl, if_pos r, if_pos r]
    exact ⟨_, rfl, rfl, fun i hi => by rw [uI1, if_neg hi], ⟨rfl, rfl, fun _ _ _ => rfl⟩, rfl⟩
  · rw [if_neg r, if_neg n10, if_neg n10, if_neg r, if_neg r]
    by_cases w : t ≤ 105
    · rw [if_pos w, if_pos rfl, if_pos w]
      exact ⟨_, rfl, Int32.mul_comm _ _, fun i hi => by rw [uI1, if_neg hi], ⟨rfl, rfl, fun _ _ _ => rfl⟩, rfl⟩
    · rw [if_neg w, if_neg n10, if_neg w, e_at11 hd, b1s, e_put11 hd, b1s]
      exact ⟨_, rfl, Int32.mul_comm _ _, fun i hi => by rw [uA1, uI1, if_neg hi], ⟨rfl, rfl, fun j h1 _ => by rw [uA3, if_neg h1]; rfl⟩, by rw [uA3, if_pos rfl]; rfl⟩
theorem e_won {t : Nat} (ht : t ≤ 702) : f_X6_isWon (nI t) = some (if t ≤ 105 then 0 else 1) := by
  unfold f_X6_isWon
  by_cases w : t ≤ 105
  · rw [if_pos (show nI t ≤ 105 from nI_le (b := 105) w (by decide)), if_pos w]
  · rw [if_neg (show ¬ nI t ≤ 105 from nI_ge (a := 105) (by omega) (by omega)), if_neg w]
theorem orA (x y z : Int64) : (x ||| y) ||| z = x ||| (y ||| z) := tbX fun c => by
  rw [tbO, tbO, tbO, tbO]
  exact ⟨fun e => e.elim (fun e => e.elim Or.inl (fun e => Or.inr (Or.inl e))) (fun e => Or.inr (Or.inr e)), fun e => e.elim (fun e => Or.inl (Or.inl e)) (fun e => e.elim (fun e => Or.inl (Or.inr e)) Or.inr)⟩
def sn (s : Int32) : Nat := if s = 0 then 0 else 1
theorem e_endTrick {S : tk_ST} {w T : Nat} (e14 : S.1 14 = nI 4) (e9 : S.1 9 = nI T) : f_X6_endTrick (nI w) S = (fun S15 : tk_ST => if nI (T + 1) = 12 then (tk_b1 (f_X6_enterResult (nI w) (tk_I (tk_I S15 9 (nI (T + 1))) 2 (nI w))) fun S19 => some (tk_I (tk_I (tk_I (tk_I S19 1 0) 2 (-1)) 13 (nI w)) 14 0)) else some (tk_I (tk_I (tk_I (tk_I S15 9 (nI (T + 1))) 2 (nI w)) 13 (nI w)) 14 0)) (tk_B S 1 (vp_updL (S.2.2.2 1) (sn (sd (nI w) (S.1 3) (S.1 6))) (S.2.2.2 1 (sn (sd (nI w) (S.1 3) (S.1 6))) ||| orr (S.2.2.1 1) 0 4))) := by
  have hs : sd (nI w) (S.1 3) (S.1 6) = nI (sn (sd (nI w) (S.1 3) (S.1 6))) := by
    unfold sn
    rcases sd01 (nI w) (S.1 3) (S.1 6) with r | r
    · rw [r]; rfl
    · rw [r]; rfl
  have hs2 : sn (sd (nI w) (S.1 3) (S.1 6)) < 2 := by unfold sn; split <;> omega
  unfold f_X6_endTrick f_X6_endTrick_63 f_X5_begin f_X6_endDeal
  rw [e_side, b1s]
  generalize hg : sn (sd (nI w) (S.1 3) (S.1 6)) = s at hs hs2
  rw [hs, e_at15 hs2, b1s, e_set e14, b1s, e_put15 hs2, b1s, show (tk_B S 1 (vp_updL (S.2.2.2 1) s (S.2.2.2 1 s ||| orr (S.2.2.1 1) 0 4))).1 9 = nI T from e9, nI_1]
  rfl
theorem e_first {S : tk_ST} {c t z : Nat} (ht : t < 4) (hz : z < 4) (et : S.1 2 = nI t) (ez : S.1 14 = nI z) : f_X6_addToTrick (nI c) S = (fun SA : tk_ST => if (4 : Int32) ≤ nI (z + 1) then (tk_b1 (f_X5_winner SA) fun r14 => (tk_b1 (f_X6_endTrick r14 SA) fun S19 => some (r14, S19))) else some (-1, tk_I SA 2 (nI ((t + 1) % 4)))) (tk_I (tk_A (tk_B S 0 (less (S.2.2.2 0) t c)) 1 (upd (S.2.2.1 1) z (nI c))) 14 (nI (z + 1))) := by
  unfold f_X6_addToTrick f_X5_add
  rw [et, e_at13 ht, b1s, show f_X6_only (nI c) = some (jb c) from rfl, b1s, e_put13 ht, b1s, show (tk_B S 0 (vp_updL (S.2.2.2 0) t (S.2.2.2 0 t &&& (jb c ^^^ -1)))).1 14 = nI z from ez, e_put6 hz, b1s, b1s, show (tk_A (tk_B S 0 (vp_updL (S.2.2.2 0) t (S.2.2.2 0 t &&& (jb c ^^^ -1)))) 1 (upd ((tk_B S 0 (vp_updL (S.2.2.2 0) t (S.2.2.2 0 t &&& (jb c ^^^ -1)))).2.2.1 1) z (nI c))).1 14 = nI z from ez, nI_1]
  rw [show (tk_I (tk_A (tk_B S 0 (vp_updL (S.2.2.2 0) t (S.2.2.2 0 t &&& (jb c ^^^ -1)))) 1 (upd ((tk_B S 0 (vp_updL (S.2.2.2 0) t (S.2.2.2 0 t &&& (jb c ^^^ -1)))).2.2.1 1) z (nI c))) 14 (nI (z + 1))).1 2 = nI t from et, e_behind ht, b1s]
  rfl
theorem cn_play {h : Nat → Int64} {L z T c t : Nat} (hL : L < 4) (hz : z < 4) (hT : T < 12) (hc : c < 54) (et : t = (L + z) % 4) (hh : tb (h t) c = true) (hcn : ∀ p, p < 4 → cn (h p) = 12 - T - (if (p + 4 - L) % 4 < z then 1 else 0)) : ∀ p, p < 4 → cn (less h t c p) = 12 - T - (if (p + 4 - L) % 4 < z + 1 then 1 else 0) := by
  intro p hp
  have h1 := hcn p hp
  by_cases e : p = t
  · have h2 := less_cn (h := h) (d := t) hc hh
    rw [e] at h1 ⊢
    rw [if_neg (by omega)] at h1
    rw [if_pos (by omega)]
    omega
  · rw [less_ne e, h1]
    have e2 : (p + 4 - L) % 4 ≠ z := by omega
    by_cases q : (p + 4 - L) % 4 < z
    · rw [if_pos q, if_pos (by omega)]
    · rw [if_neg q, if_neg (by omega)]
theorem least (x : Int64) : ∀ n, (∀ i, i < n → ¬ tb x i = true) ∨ ∃ c, c < n ∧ tb x c = true ∧ ∀ i, i < c → ¬ tb x i = true
  | 0 => Or.inl fun i hi => absurd hi (Nat.not_lt_zero i)
  | n + 1 => by
    rcases least x n with h | ⟨c, h1, h2, h3⟩
    · by_cases e : tb x n = true
      · exact Or.inr ⟨n, by omega, e, h⟩
      · refine Or.inl fun i hi => ?_
        by_cases q : i = n
        · rw [q]; exact e
        · exact h i (by omega)
    · exact Or.inr ⟨c, by omega, h2, h3⟩
theorem L_low {x : Int64} {c : Nat} (hc : c < 54) (h : tb x c = true) (hm : ∀ i, i < c → ¬ tb x i = true) : ∀ n j, j ≤ c → c - j < n → f_X6_lowestOf_2 n x (nI j) = some (nI c)
  | 0, _, _, g => absurd g (Nat.not_lt_zero _)
  | n + 1, j, hj, g => by
    rw [f_X6_lowestOf_2_s, if_neg (show ¬ (54 : Int32) ≤ nI j from nI_ge (b := 54) (by omega) (by decide)), e_holds (by omega), b1s]
    by_cases q : j = c
    · subst q; rw [if_pos h, if_neg n10]
    · rw [if_neg (hm j (by omega)), if_pos rfl, nI_1, L_low hc h hm n (j + 1) (by omega) (by omega)]
end
section
/-! what cards count, in thirds -/
def w3 (c : Nat) : Nat := 3 * wo c - 2
def wt (p : Nat → Bool) : Nat → Nat
  | 0 => 0
  | n + 1 => wt p n + (if p n = true then w3 n else 0)
def th (x : Int64) : Nat := wt (tb x) 54
def trS (kc : Nat → Nat) : Nat → Nat
  | 0 => 0
  | n + 1 => trS kc n + w3 (kc n)
theorem wt_congr {p q : Nat → Bool} : ∀ n, (∀ i, i < n → (p i = true ↔ q i = true)) → wt p n = wt q n
  | 0, _ => rfl
  | n + 1, h => by
    show wt p n + _ = wt q n + _
    rw [wt_congr n (fun i hi => h i (by omega))]
    have := h n (by omega)
    by_cases e : p n = true
    · rw [if_pos e, if_pos (this.mp e)]
    · rw [if_neg e, if_neg (fun e' => e (this.mpr e'))]
theorem wt_add {p q r : Nat → Bool} : ∀ n, (∀ i, i < n → (r i = true ↔ p i = true ∨ q i = true)) → (∀ i, i < n → ¬ (p i = true ∧ q i = true)) → wt r n = wt p n + wt q n
  | 0, _, _ => rfl
  | n + 1, h, g => by
    show wt r n + _ = (wt p n + _) + (wt q n + _)
    rw [wt_add n (fun i hi => h i (by omega)) (fun i hi => g i (by omega))]
    have h1 := h n (by omega)
    have h2 := g n (by omega)
    by_cases e : p n = true
    · have e2 : ¬ q n = true := fun x => h2 ⟨e, x⟩
      rw [if_pos e, if_neg e2, if_pos (h1.mpr (Or.inl e))]; omega
    · by_cases e2 : q n = true
      · rw [if_neg e, if_pos e2, if_pos (h1.mpr (Or.inr e2))]; omega
      · rw [if_neg e, if_neg e2, if_neg (fun x => (h1.mp x).elim e e2)]; omega
theorem wt_one {p : Nat → Bool} {c : Nat} (h : ∀ i, p i = true ↔ c = i) : ∀ n, wt p n = if c < n then w3 c else 0
  | 0 => rfl
  | n + 1 => by
    show wt p n + _ = _
    rw [wt_one h n]
    by_cases e : c = n
    · rw [if_pos ((h n).mpr e), if_neg (by omega), if_pos (by omega), e]; omega
    · rw [if_neg (fun x => e ((h n).mp x))]
      by_cases g : c < n
      · rw [if_pos g, if_pos (by omega)]; exact Nat.add_zero _
      · rw [if_neg g, if_neg (by omega)]
theorem wt_zero {p : Nat → Bool} : ∀ n, (∀ i, i < n → ¬ p i = true) → wt p n = 0
  | 0, _ => rfl
  | n + 1, h => by
    show wt p n + _ = _
    rw [wt_zero n (fun i hi => h i (by omega)), if_neg (h n (by omega))]
theorem th_or {x y : Int64} (h : ∀ c, ¬ (tb x c = true ∧ tb y c = true)) : th (x ||| y) = th x + th y := wt_add 54 (fun i _ => tbO x y i) (fun i _ => h i)
theorem th_jb {c : Nat} (hc : c < 54) : th (jb c) = w3 c := by
  unfold th
  rw [wt_one (c := c) (tbJ (by omega)), if_pos hc]
theorem th_zero : th 0 = 0 := wt_zero 54 (fun i _ => tbZ i)
theorem th_sub {x y : Int64} (h : ∀ c, tb y c = true → tb x c = true) : th (x &&& (y ^^^ (-1))) + th y = th x := by
  have e : x = (x &&& (y ^^^ (-1))) ||| y := by
    apply tbX; intro d
    rw [tbO, tbN]
    by_cases q : tb y d = true
    · exact ⟨fun _ => Or.inr q, fun _ => h d q⟩
    · exact ⟨fun z => Or.inl ⟨z, q⟩, fun z => z.elim (·.1) (fun e => absurd e q)⟩
  have h2 := th_or (x := x &&& (y ^^^ (-1))) (y := y) (fun d => by rw [tbN]; exact fun ⟨a, b⟩ => a.2 b)
  rw [← e] at h2
  exact h2.symm
theorem th_rem {x : Int64} {c : Nat} (hc : c < 54) (h : tb x c = true) : th (x &&& (jb c ^^^ (-1))) + w3 c = th x := by
  rw [← th_jb hc]
  exact th_sub (fun d hd => by have := (tbJ (by omega) d).mp hd; subst this; exact h)
theorem th_cn0 {x : Int64} (h : cn x = 0) : th x = 0 := by
  refine wt_zero 54 (fun i hi e => ?_)
  have h2 := cn_rem hi e
  omega
theorem w3_pos {c : Nat} (hc : c < 54) : 1 ≤ w3 c := by
  have := wo_b c hc
  unfold w3; omega
theorem w3_le {c : Nat} (hc : c < 54) : w3 c ≤ 13 := by
  have := wo_b c hc
  unfold w3; omega
theorem th_pos {x : Int64} {c : Nat} (hc : c < 54) (h : tb x c = true) : 1 ≤ th x := by
  have h1 := th_rem hc h
  have h2 := w3_pos hc
  omega
theorem wt_le (p : Nat → Bool) : ∀ n, n ≤ 54 → wt p n ≤ 13 * n
  | 0, _ => Nat.le_refl 0
  | n + 1, h => by
    show wt p n + _ ≤ _
    have h1 := wt_le p n (by omega)
    have h2 := w3_le (c := n) (by omega)
    split <;> omega
theorem th_le (x : Int64) : th x ≤ 702 := wt_le (tb x) 54 (Nat.le_refl _)
theorem L_th (h : Int64) : ∀ (n c : Nat), c ≤ 54 → 54 < c + n → f_X6_thirdsOf_4 n h (nI (wt (tb h) c)) (nI c) = some (nI (th h)) := by
  intro n
  induction n with
  | zero => intro c h1 h2; omega
  | succ n ih =>
    intro c h54 hn
    rw [f_X6_thirdsOf_4_s]
    by_cases q : c = 54
    · subst q; rw [if_pos (show (54 : Int32) ≤ nI 54 from nI_le (Nat.le_refl _) (by decide))]; rfl
    · have hlt : c < 54 := by omega
      have hw := wo_b c hlt
      rw [if_neg (nge hlt (by decide)), e_holds (by omega), b1s]
      have hs : wt (tb h) (c + 1) = wt (tb h) c + (if tb h c = true then w3 c else 0) := rfl
      by_cases ht : tb h c = true
      · rw [if_pos ht, if_neg n10, e_worth c hlt, b1s]
        unfold f_X6_thirdsOf_29
        rw [nI_1, show (3 : Int32) * nI (wo c) = nI (3 * wo c) from pk_mul 3 (wo c), show nI (3 * wo c) - 2 = nI (3 * wo c - 2) from pk_sub (b := 2) (by omega), nI_add]
        rw [if_pos ht] at hs
        have := ih (c + 1) (by omega) (by omega)
        rw [hs] at this
        exact this
      · rw [if_neg ht, if_pos rfl]
        unfold f_X6_thirdsOf_29
        rw [nI_1]
        rw [if_neg ht, Nat.add_zero] at hs
        have := ih (c + 1) (by omega) (by omega)
        rw [hs] at this
        exact this
theorem e_th (h : Int64) : f_X6_thirdsOf h = some (nI (th h)) := L_th h 64 0 (by omega) (by omega)
/-! where the cards are -/
def Dj (h : Nat → Int64) (a b : Int64) (z : Nat) (kc : Nat → Nat) : Prop := ∃ loc : Nat → Nat, (∀ p, p < 4 → ∀ c, tb (h p) c = true → c < 54 ∧ loc c = p) ∧ (∀ c, tb a c = true → c < 54 ∧ loc c = 4) ∧ (∀ c, tb b c = true → c < 54 ∧ loc c = 5) ∧ ∀ j, j < z → kc j < 54 ∧ loc (kc j) = 6 + j
def Tot (h : Nat → Int64) (a b : Int64) (z : Nat) (kc : Nat → Nat) : Prop := th (h 0) + th (h 1) + th (h 2) + th (h 3) + th a + th b + trS kc z = 210
theorem Dj.crd {h : Nat → Int64} {a b : Int64} {z : Nat} {kc : Nat → Nat} (H : Dj h a b z kc) : Crd h := by
  obtain ⟨loc, h1, -⟩ := H
  refine ⟨fun p hp c hc => (h1 p hp c hc).1, fun p q hp hq hpq c ⟨e1, e2⟩ => ?_⟩
  have x := (h1 p hp c e1).2
  have y := (h1 q hq c e2).2
  omega
/-! what holds between two calls -/
def Sd (S : tk_ST) : Prop := (S.1 3 = -1 ∨ ∃ d, d < 4 ∧ S.1 3 = nI d) ∧ (S.1 6 = -1 ∨ ∃ q, q < 4 ∧ S.1 6 = nI q ∧ S.1 6 ≠ S.1 3 ∧ S.1 4 ≠ -1) ∧ (S.1 4 = -1 ∨ ∃ s, s < 4 ∧ S.1 4 = nI s) ∧ (S.1 5 = -1 ∨ ∃ o, o < 4 ∧ S.1 5 = nI o) ∧ ∃ l, l ≤ 5 ∧ S.1 11 = nI l ∧ (S.1 3 ≠ -1 → 1 ≤ l) ∧ (S.1 4 ≠ -1 → l < 4)
def An (S : tk_ST) : Prop := ∃ b0 b1 : Nat, b0 < 2 ∧ b1 < 2 ∧ S.1 8 = nI (b0 + 2 * b1)
def Fo (D : Nat) (S : tk_ST) : Prop := (D = 0 ∧ S.1 0 = -1) ∨ (0 < D ∧ S.1 0 = nI ((D - 1) % 4))
def Rad (D : Nat) (S : tk_ST) : Prop := ∀ p, p < 4 → ∃ n, n ≤ D ∧ S.2.2.1 3 p = nI n
def Bef (D : Nat) (S : tk_ST) : Prop := ∀ p, p < 4 → S.2.2.1 4 p = S.2.2.1 2 p ∧ S.2.2.1 4 (4 + p) = S.2.2.1 3 p ∧ ∃ n, n + 1 ≤ D ∧ S.2.2.1 3 p = nI n
def Pls (S : tk_ST) : Prop := Crd (S.2.2.2 0) ∧ ∃ T, T ≤ 12 ∧ S.1 9 = nI T ∧ th (S.2.2.2 1 0) + th (S.2.2.2 1 1) ≤ 210 ∧ (T = 12 → th (S.2.2.2 1 0) + th (S.2.2.2 1 1) = 210)
/-- ahead of the playing -/
def Pre (D : Nat) (S : tk_ST) : Prop := S.1 14 = 0 ∧ S.1 9 = 0 ∧ S.2.2.2 1 0 = 0 ∧ S.2.2.2 1 1 = 0 ∧ Dj (S.2.2.2 0) (S.2.1 0) (S.2.1 1) 0 (fun _ => 0) ∧ Tot (S.2.2.2 0) (S.2.1 0) (S.2.1 1) 0 (fun _ => 0) ∧ (∃ f, f < 4 ∧ S.1 0 = nI f ∧ S.1 13 = nI f) ∧ Bef D S
def De (S : tk_ST) : Prop := Row (S.2.2.1 0) ∧ (∀ p, p < 4 → cn (S.2.2.2 0 p) = 12) ∧ S.2.1 1 = orr (S.2.2.1 0) 48 6
def PhB (D : Nat) (S : tk_ST) : Prop := ∃ P t : Nat, P < 16 ∧ t < 4 ∧ S.1 10 = nI P ∧ S.1 2 = nI t ∧ P.testBit t = false ∧ S.1 3 = -1 ∧ S.1 4 = -1 ∧ S.1 5 = -1 ∧ S.1 6 = -1 ∧ ((S.1 11 = 0 ∧ S.1 12 = -1) ∨ ∃ l b, 1 ≤ l ∧ l ≤ 5 ∧ b < 4 ∧ S.1 11 = nI l ∧ S.1 12 = nI b ∧ pc P ≤ 2) ∧ De S ∧ Pre D S
def PhC (D : Nat) (S : tk_ST) : Prop := ∃ l d : Nat, 1 ≤ l ∧ l ≤ 3 ∧ d < 4 ∧ S.1 11 = nI l ∧ S.1 3 = nI d ∧ De S ∧ Pre D S
def PhT (D : Nat) (S : tk_ST) : Prop := ∃ l d : Nat, 1 ≤ l ∧ l ≤ 4 ∧ d < 4 ∧ S.1 11 = nI l ∧ S.1 3 = nI d ∧ De S ∧ Pre D S
def PhD (D : Nat) (S : tk_ST) : Prop := ∃ l d t : Nat, 1 ≤ l ∧ l ≤ 4 ∧ d < 4 ∧ S.1 11 = nI l ∧ S.1 3 = nI d ∧ 1 ≤ t ∧ t ≤ 3 ∧ S.1 7 = nI t ∧ cn (S.2.2.2 0 d) = 12 + t ∧ (∀ p, p < 4 → p ≠ d → cn (S.2.2.2 0 p) = 12) ∧ Pre D S
def PlX (D l d L z T : Nat) (kc : Nat → Nat) (S : tk_ST) : Prop := 1 ≤ l ∧ l ≤ 5 ∧ d < 4 ∧ L < 4 ∧ z < 4 ∧ T < 12 ∧ S.1 11 = nI l ∧ S.1 3 = nI d ∧ S.1 13 = nI L ∧ S.1 14 = nI z ∧ S.1 9 = nI T ∧ S.1 2 = nI ((L + z) % 4) ∧ (∀ p, p < 4 → cn (S.2.2.2 0 p) = 12 - T - (if (p + 4 - L) % 4 < z then 1 else 0)) ∧ (∀ j, j < z → S.2.2.1 1 j = nI (kc j)) ∧ Dj (S.2.2.2 0) (S.2.2.2 1 0) (S.2.2.2 1 1) z kc ∧ Tot (S.2.2.2 0) (S.2.2.2 1 0) (S.2.2.2 1 1) z kc ∧ Bef D S
def PhP (D : Nat) (S : tk_ST) : Prop := ∃ (l d L z T : Nat) (kc : Nat → Nat), PlX D l d L z T kc S
def Phs (D : Nat) (S : tk_ST) : Prop := (S.1 1 = 0 ∧ S.1 2 = -1 ∧ S.1 14 = 0 ∧ Rad D S) ∨ (S.1 1 = 1 ∧ PhB D S) ∨ (S.1 1 = 2 ∧ PhC D S) ∨ (S.1 1 = 3 ∧ PhT D S) ∨ (S.1 1 = 4 ∧ PhD D S) ∨ (S.1 1 = 5 ∧ PhP D S)
def Inv (D : Nat) (S : tk_ST) : Prop := Fo D S ∧ An S ∧ Sd S ∧ Pls S ∧ Phs D S
theorem Bef.rad {D : Nat} {S : tk_ST} (h : Bef D S) : Rad D S := fun p hp => by
  obtain ⟨-, -, n, a, b⟩ := h p hp
  exact ⟨n, by omega, b⟩
theorem Inv.b {D : Nat} {S : tk_ST} (h : Inv D S) (e : S.1 1 = 1) : PhB D S := by
  rcases h.2.2.2.2 with h | h | h | h | h | h
  · exact absurd (h.1.symm.trans e) (by decide)
  · exact h.2
  · exact absurd (h.1.symm.trans e) (by decide)
  · exact absurd (h.1.symm.trans e) (by decide)
  · exact absurd (h.1.symm.trans e) (by decide)
  · exact absurd (h.1.symm.trans e) (by decide)
theorem Inv.c {D : Nat} {S : tk_ST} (h : Inv D S) (e : S.1 1 = 2) : PhC D S := by
  rcases h.2.2.2.2 with h | h | h | h | h | h
  · exact absurd (h.1.symm.trans e) (by decide)
  · exact absurd (h.1.symm.trans e) (by decide)
  · exact h.2
  · exact absurd (h.1.symm.trans e) (by decide)
  · exact absurd (h.1.symm.trans e) (by decide)
  · exact absurd (h.1.symm.trans e) (by decide)
theorem Inv.t {D : Nat} {S : tk_ST} (h : Inv D S) (e : S.1 1 = 3) : PhT D S := by
  rcases h.2.2.2.2 with h | h | h | h | h | h
  · exact absurd (h.1.symm.trans e) (by decide)
  · exact absurd (h.1.symm.trans e) (by decide)
  · exact absurd (h.1.symm.trans e) (by decide)
  · exact h.2
  · exact absurd (h.1.symm.trans e) (by decide)
  · exact absurd (h.1.symm.trans e) (by decide)
theorem Inv.d {D : Nat} {S : tk_ST} (h : Inv D S) (e : S.1 1 = 4) : PhD D S := by
  rcases h.2.2.2.2 with h | h | h | h | h | h
  · exact absurd (h.1.symm.trans e) (by decide)
  · exact absurd (h.1.symm.trans e) (by decide)
  · exact absurd (h.1.symm.trans e) (by decide)
  · exact absurd (h.1.symm.trans e) (by decide)
  · exact h.2
  · exact absurd (h.1.symm.trans e) (by decide)
theorem Inv.p {D : Nat} {S : tk_ST} (h : Inv D S) (e : S.1 1 = 5) : PhP D S := by
  rcases h.2.2.2.2 with h | h | h | h | h | h
  · exact absurd (h.1.symm.trans e) (by decide)
  · exact absurd (h.1.symm.trans e) (by decide)
  · exact absurd (h.1.symm.trans e) (by decide)
  · exact absurd (h.1.symm.trans e) (by decide)
  · exact absurd (h.1.symm.trans e) (by decide)
  · exact h.2
/-- in all phases but the playing nothing lies in the trick -/
theorem Inv.z {D : Nat} {S : tk_ST} (h : Inv D S) (e : ¬ S.1 1 = 5) : S.1 14 = 0 := by
  rcases h.2.2.2.2 with h | h | h | h | h | h
  · exact h.2.2.1
  · obtain ⟨P, t, -, -, -, -, -, -, -, -, -, -, -, q⟩ := h.2; exact q.1
  · obtain ⟨l, d, -, -, -, -, -, -, q⟩ := h.2; exact q.1
  · obtain ⟨l, d, -, -, -, -, -, -, q⟩ := h.2; exact q.1
  · obtain ⟨l, d, t, -, -, -, -, -, -, -, -, -, -, q⟩ := h.2; exact q.1
  · exact absurd h.1 e
end
section
/-! the law's own small methods -/
theorem L_bits (h : Int64) : ∀ (n c : Nat), c ≤ 54 → 54 < c + n → f_L_bits_4 n h (nI (ct (tb h) c)) (nI c) = some (nI (cn h)) := by
  intro n
  induction n with
  | zero => intro c h1 h2; omega
  | succ n ih =>
    intro c h54 hn
    rw [f_L_bits_4_s]
    by_cases q : c = 54
    · subst q; rw [if_pos (show (54 : Int32) ≤ nI 54 from nI_le (Nat.le_refl _) (by decide))]; rfl
    · have hlt : c < 54 := by omega
      rw [if_neg (nge hlt (by decide))]
      have hs : ct (tb h) (c + 1) = ct (tb h) c + (if tb h c = true then 1 else 0) := rfl
      have h1 : (lg_cmp ((h >>> ((nI c).toInt64 &&& 63)) &&& (1 : Int64)) (1 : Int64)) = 0 ↔ tb h c = true := by
        rw [lg_one, tb_one, tb_shr h (by omega)]
      have := ih (c + 1) (by omega) (by omega)
      by_cases ht : tb h c = true
      · rw [if_pos (h1.mpr ht)]
        unfold f_L_bits_26
        rw [nI_1, nI_1]
        rw [hs, if_pos ht] at this
        exact this
      · rw [if_neg (fun e => ht (h1.mp e))]
        unfold f_L_bits_26
        rw [nI_1, Int32.add_zero]
        rw [hs, if_neg ht, Nat.add_zero] at this
        exact this
theorem e_bits (h : Int64) : f_L_bits h = some (nI (cn h)) := L_bits h 64 0 (by omega) (by omega)
theorem e_Lhas {h : Int64} {c : Nat} (hc : c < 64) : f_L_has h (nI c) = some (if tb h c then 1 else 0) := e_holds hc
theorem e_Lsuit : ∀ c, c < 54 → f_L_suit (nI c) = some (nI (su c)) := by decide +kernel
theorem L_drawn {h : Int64} (Y : Nat) (hY : Y < 2 ^ 30) (hh : ∃ c, c < 54 ∧ tb h c = true) : ∀ n k, k ≤ 54 → 54 < k + n → (∀ i, i < k → ¬ tb h ((Y + i) % 54) = true) → ∃ c, c < 54 ∧ tb h c = true ∧ f_L_drawn_8 n h (nI ((Y + k) % 54)) (nI k) = some (nI c) := by
  intro n
  induction n with
  | zero => intro k h1 h2; omega
  | succ n ih =>
    intro k h54 hn hk
    rw [f_L_drawn_8_s]
    by_cases q : k = 54
    · obtain ⟨c, hc, ht⟩ := hh
      have := hk ((c + 54 - Y % 54) % 54) (by omega)
      rw [show (Y + (c + 54 - Y % 54) % 54) % 54 = c by omega] at this
      exact absurd ht this
    · rw [if_neg (nge (show k < 54 by omega) (by decide)), e_Lhas (by omega), b1s]
      by_cases ht : tb h ((Y + k) % 54) = true
      · rw [if_pos ht, if_neg n10]
        exact ⟨_, by omega, ht, rfl⟩
      · rw [if_neg ht, if_pos rfl, nI_1, nI_1, show (54 : Int32) = nI 54 from rfl, e_rem (by omega) (by decide) (by decide), show ((Y + k) % 54 + 1) % 54 = (Y + (k + 1)) % 54 by omega]
        refine ih (k + 1) (by omega) (by omega) (fun i hi => ?_)
        by_cases e : i = k
        · subst e; exact ht
        · exact hk i (by omega)
theorem e_drawn {h : Int64} {Y : Nat} (hY : Y < 2 ^ 30) (hh : ∃ c, c < 54 ∧ tb h c = true) : ∃ c, c < 54 ∧ tb h c = true ∧ f_L_drawn h (nI Y) = some (nI c) := by
  obtain ⟨c, h1, h2, h3⟩ := L_drawn Y hY hh 64 0 (by omega) (by omega) (fun i hi => absurd hi (Nat.not_lt_zero i))
  refine ⟨c, h1, h2, ?_⟩
  unfold f_L_drawn
  rw [show (54 : Int32) = nI 54 from rfl, e_rem (by omega) (by decide) (by decide)]
  exact h3
theorem L_wins {kc : Nat → Nat} (hk : ∀ i, i < 4 → kc i < 54) (n : Nat) {b i : Nat} (hb : b < 4) (hi : i < 4) (K1 K2 K3 : Int32) : f_L_wins_36 (f_L_wins_9 n) K1 K2 K3 (nI (kc b)) (nI b) (nI i) (nI (kc i)) = f_L_wins_9 n K1 K2 K3 (nI (kc (wst kc b i))) (nI (wst kc b i)) (nI (i + 1)) := by
  have hbk := hk b hb
  have hik := hk i hi
  have s1 := su_lt _ hbk
  have s2 := su_lt _ hik
  have key : ∀ u : Nat, u < 2 → u = (if bt (kc i) (kc b) = true then 1 else 0) → f_L_wins_80 (f_L_wins_9 n) K1 K2 K3 (nI (kc b)) (nI b) (nI i) (nI (kc i)) (nI u) = f_L_wins_9 n K1 K2 K3 (nI (kc (wst kc b i))) (nI (wst kc b i)) (nI (i + 1)) := by
    intro u hu eu
    unfold f_L_wins_80 f_L_wins_94 f_L_wins_108 wst
    by_cases q : bt (kc i) (kc b) = true
    · rw [if_pos q] at eu
      subst eu
      rw [if_neg (show ¬ nI 1 = 0 from n10), if_neg (show ¬ nI 1 = 0 from n10), if_pos q, nI_1]
    · rw [if_neg q] at eu
      subst eu
      rw [if_pos (show nI 0 = 0 from rfl), if_pos (show nI 0 = 0 from rfl), if_neg q, nI_1]
  unfold f_L_wins_36
  rw [e_Lsuit _ hik, e_Lsuit _ hbk, b1s, b1s, b1s]
  unfold bt at key
  by_cases q : su (kc i) = su (kc b)
  · rw [if_pos (show nI (su (kc i)) = nI (su (kc b)) by rw [q])]
    simp only [if_pos q] at key
    by_cases r : kc b < kc i
    · rw [if_neg (nI_ge r (by omega))]
      exact key 1 (by decide) (by rw [if_pos (decide_eq_true r)])
    · rw [if_pos (nI_le (by omega) (by omega))]
      exact key 0 (by decide) (by rw [if_neg (by simpa using r)])
  · rw [if_neg (fun e => q ((nI_eq (by omega) (by omega)).mp e))]
    simp only [if_neg q] at key
    by_cases r : su (kc i) = 4
    · rw [if_pos (show nI (su (kc i)) = 4 by rw [r]; rfl)]
      exact key 1 (by decide) (by rw [if_pos (decide_eq_true r)])
    · rw [if_neg (show ¬ nI (su (kc i)) = 4 from fun e => r ((nI_eq (b := 4) (by omega) (by decide)).mp e))]
      exact key 0 (by decide) (by rw [if_neg (by simpa using r)])
theorem e_Lwins {kc : Nat → Nat} (hk : ∀ i, i < 4 → kc i < 54) : f_L_wins (nI (kc 0)) (nI (kc 1)) (nI (kc 2)) (nI (kc 3)) = some (nI (bst kc)) := by
  show f_L_wins_9 (63 + 1) (nI (kc 1)) (nI (kc 2)) (nI (kc 3)) (nI (kc 0)) (nI 0) (nI 1) = _
  have w1 := wst_lt kc (b := 0) (i := 1) (by omega) (by omega)
  have w2 := wst_lt kc (b := wst kc 0 1) (i := 2) w1 (by omega)
  rw [f_L_wins_9_s, if_neg (by decide), if_pos (show nI 1 = 1 from rfl), L_wins hk 63 (b := 0) (i := 1) (by omega) (by omega)]
  rw [show 63 = 62 + 1 from rfl, f_L_wins_9_s, if_neg (by decide), if_neg (by decide), if_pos (show nI (1 + 1) = 2 from rfl), L_wins hk 62 (b := wst kc 0 1) (i := 2) w1 (by omega)]
  rw [show 62 = 61 + 1 from rfl, f_L_wins_9_s, if_neg (by decide), if_neg (by decide), if_neg (by decide), L_wins hk 61 (b := wst kc (wst kc 0 1) 2) (i := 3) w2 (by omega)]
  rw [show 61 = 60 + 1 from rfl, f_L_wins_9_s, if_pos (by decide)]
  rfl
/-! the hall's answers, as the law asks for them -/
theorem r_hand {p : Nat} (hp : p < 4) (S : tk_ST) : f0_X6_hand (nI p) S = some (S.2.2.2 0 p) := by
  unfold f0_X6_hand f_X6_hand
  rw [e_play hp, b1s, if_neg n10, e_at13 hp, b1s, b2s, if_pos rfl]
theorem r_score {p : Nat} (hp : p < 4) (S : tk_ST) : f0_X6_score (nI p) S = some (S.2.2.1 2 p) := by
  unfold f0_X6_score f_X6_score
  rw [e_play hp, b1s, if_neg n10, e_at9 hp, b1s, b2s, if_pos rfl]
theorem r_radli {p : Nat} (hp : p < 4) (S : tk_ST) : f0_X6_radli (nI p) S = some (S.2.2.1 3 p) := by
  unfold f0_X6_radli f_X6_radli
  rw [e_play hp, b1s, if_neg n10, e_at11 hp, b1s, b2s, if_pos rfl]
theorem r_value {c : Nat} (hc : c < 54) (S : tk_ST) : f0_X6_valueOf (nI c) S = some (nI (wo c)) := by
  unfold f0_X6_valueOf f_X6_valueOf
  rw [e_isCard hc, b1s, if_neg n10, e_worth c hc, b1s, b2s, if_pos rfl]
theorem r_thirds {s : Nat} (hs : s < 2) (S : tk_ST) : f0_X6_thirds (nI s) S = some (nI (th (S.2.2.2 1 s))) := by
  unfold f0_X6_thirds f_X6_thirds
  rw [e_sideP hs, b1s, if_neg n10, e_at15 hs, b1s, e_th, b1s, b2s, if_pos rfl]
theorem r_thirds0 (S : tk_ST) : f0_X6_thirds (0 : Int32) S = some (nI (th (S.2.2.2 1 0))) := r_thirds (s := 0) (by decide) S
theorem r_thirds1 (S : tk_ST) : f0_X6_thirds (1 : Int32) S = some (nI (th (S.2.2.2 1 1))) := r_thirds (s := 1) (by decide) S
theorem r_trickAt {S : tk_ST} {j z : Nat} (hj : j < z) (hz : z ≤ 4) (ez : S.1 14 = nI z) : f0_X6_trickAt (nI j) S = some (S.2.2.1 1 j) := by
  unfold f0_X6_trickAt f_X6_trickAt f_X5_cardAt
  rw [if_neg (nneg (by omega)), ez, if_pos (nI_lt hj (by omega)), e_at6 (by omega), b1s, b1s, b2s, if_pos rfl]
theorem r_talon {S : tk_ST} {j : Nat} (hj : j < 6) (h0 : ¬ S.1 0 = -1) : f0_X6_talonAt (nI j) S = some (S.2.2.1 0 (48 + j)) := by
  unfold f0_X6_talonAt f_X6_talonAt f_X1_cardAt
  rw [if_neg (nneg (by omega)), if_pos (show nI j < 6 from nI_lt hj (by decide)), if_neg h0, show (48 : Int32) + nI j = nI (48 + j) from nI_add 48 j, e_at2 (by omega), b1s, b1s, b2s, if_pos rfl]
theorem r_canPlay {S : tk_ST} {x : Int64} (hx : f_X6_playableNow S = some x) {c : Nat} (hc : c < 54) : f0_X6_canPlay (nI c) S = some (if tb x c = true then 1 else 0) := by
  unfold f0_X6_canPlay f_X6_canPlay
  rw [e_isCard hc, b1s, if_neg n10, hx, b1s, e_holds (by omega), b1s]
  by_cases q : tb x c = true
  · rw [if_pos q, if_pos (Or.inr rfl), b2s, if_pos rfl]
  · rw [if_neg q, if_pos (Or.inl rfl), b2s, if_pos rfl]
theorem L_pk (h : Int64) : ∀ (n c pts m v : Nat), c ≤ 54 → 54 < c + n → m < 3 → m ≤ v → v ≤ 5 * c → 3 * pts + 3 * v = wt (tb h) c + 2 * m → ∃ r, 3 * r ≤ th h ∧ f_X6_packPointsOf_10 n h (nI pts) (nI m) (nI v) (nI c) = some (nI r) := by
  intro n
  induction n with
  | zero => intro c pts m v h1 h2; omega
  | succ n ih =>
    intro c pts m v h54 hn hm hmv hv hw
    rw [f_X6_packPointsOf_10_s]
    by_cases q : c = 54
    · subst q; rw [if_pos (show (54 : Int32) ≤ nI 54 from nI_le (Nat.le_refl _) (by decide))]
      refine ⟨pts, ?_, rfl⟩
      have : wt (tb h) 54 = th h := rfl
      omega
    · have hlt : c < 54 := by omega
      have hb := wo_b c hlt
      have hw3 : w3 c + 2 = 3 * wo c := by unfold w3; omega
      rw [if_neg (nge hlt (by decide)), e_holds (by omega), b1s]
      have hs : wt (tb h) (c + 1) = wt (tb h) c + (if tb h c = true then w3 c else 0) := rfl
      by_cases ht : tb h c = true
      · rw [if_pos ht, if_neg n10, e_worth c hlt, b1s, nI_1, nI_add]
        rw [if_pos ht] at hs
        unfold f_X6_packPointsOf_39 f_X6_packPointsOf_56
        by_cases q3 : m + 1 = 3
        · rw [if_pos (show nI (m + 1) = 3 by rw [q3]; rfl), show nI (v + wo c) - 2 = nI (v + wo c - 2) from pk_sub (b := 2) (by omega), nI_add, nI_1]
          exact ih (c + 1) (pts + (v + wo c - 2)) 0 0 (by omega) (by omega) (by omega) (by omega) (by omega) (by omega)
        · rw [if_neg (show ¬ nI (m + 1) = 3 from fun e => q3 ((nI_eq (b := 3) (by omega) (by decide)).mp e)), nI_1]
          exact ih (c + 1) pts (m + 1) (v + wo c) (by omega) (by omega) (by omega) (by omega) (by omega) (by omega)
      · rw [if_neg ht, if_pos rfl]
        rw [if_neg ht] at hs
        unfold f_X6_packPointsOf_39 f_X6_packPointsOf_56
        rw [if_neg (show ¬ nI m = 3 from fun e => by have := (nI_eq (b := 3) (by omega) (by decide)).mp e; omega), nI_1]
        exact ih (c + 1) pts m v (by omega) (by omega) (by omega) (by omega) (by omega) (by omega)
theorem r_packs {s : Nat} (hs : s < 2) (S : tk_ST) : ∃ r, 3 * r ≤ th (S.2.2.2 1 s) ∧ f0_X6_byPacks (nI s) S = some (nI r) := by
  obtain ⟨r, h1, h2⟩ := L_pk (S.2.2.2 1 s) 64 0 0 0 0 (by omega) (by omega) (by omega) (by omega) (by omega) rfl
  refine ⟨r, h1, ?_⟩
  unfold f0_X6_byPacks f_X6_byPacks
  rw [e_sideP hs, b1s, if_neg n10, e_at15 hs, b1s, show f_X6_packPointsOf (S.2.2.2 1 s) = some (nI r) from h2, b1s, b2s, if_pos rfl]
theorem e_opn {S : tk_ST} (h4 : S.1 4 = -1 ∨ ∃ s, s < 4 ∧ S.1 4 = nI s) (h5 : S.1 5 = -1 ∨ ∃ o, o < 4 ∧ S.1 5 = nI o) : f_X6_sidesAreOpen S = some 1 ∨ f_X6_sidesAreOpen S = some 0 := by
  unfold f_X6_sidesAreOpen f_X6_sidesAreOpen_37 f_X6_calledKing
  by_cases q4 : S.1 4 = -1
  · rw [if_pos q4]; exact Or.inl rfl
  · rw [if_neg q4]
    by_cases q5 : S.1 5 = -1
    · rw [if_pos q5]; exact Or.inl rfl
    · rw [if_neg q5]
      obtain ⟨s, hs, es⟩ := h4.resolve_left q4
      obtain ⟨o, ho, eo⟩ := h5.resolve_left q5
      rw [eo, e_at13 ho, b1s, es, b1s, e_king hs, e_holds (by omega), b1s]
      by_cases q : tb (S.2.2.2 0 o) (8 * s + 7) = true
      · rw [if_pos q, if_neg n10]; exact Or.inr rfl
      · rw [if_neg q, if_pos rfl]; exact Or.inl rfl
/-- what a player knows of a side: the side's number, or nothing -/
theorem r_knows {S : tk_ST} (h : Sd S) {p q : Nat} (hp : p < 4) (hq : q < 4) : f0_X6_knows (nI p) (nI q) S = some (if S.1 3 = -1 then -1 else if S.1 1 = 2 then -1 else sd (nI q) (S.1 3) (S.1 6)) ∨ (q ≠ p ∧ f0_X6_knows (nI p) (nI q) S = some (-1)) := by
  obtain ⟨-, -, h4, h5, -⟩ := h
  unfold f0_X6_knows f_X6_knows f_X6_knows_70 f_X6_knows_75
  rw [e_play hp, e_play hq, b1s, if_neg n10, b1s, if_neg n10]
  by_cases q3 : S.1 3 = -1
  · rw [if_pos q3, if_pos q3, b2s, if_pos rfl]; exact Or.inl rfl
  · rw [if_neg q3, if_neg q3]
    by_cases q2 : S.1 1 = 2
    · rw [if_pos q2, if_pos q2, b2s, if_pos rfl]; exact Or.inl rfl
    · rw [if_neg q2, if_neg q2, e_side, b1s, if_neg n10]
      by_cases d1 : nI q = S.1 3
      · rw [if_pos d1, b2s, if_pos rfl]; exact Or.inl rfl
      · rw [if_neg d1]
        by_cases d2 : nI q = nI p
        · rw [if_pos d2, b2s, if_pos rfl]; exact Or.inl rfl
        · rw [if_neg d2]
          by_cases d3 : nI p = S.1 5
          · rw [if_pos d3, b2s, if_pos rfl]; exact Or.inl rfl
          · rw [if_neg d3]
            rcases e_opn h4 h5 with o | o
            · rw [o, b1s, if_neg n10, b2s, if_pos rfl]; exact Or.inl rfl
            · rw [o, b1s, if_pos rfl, if_pos rfl, b2s, if_pos rfl]; exact Or.inr ⟨fun e => d2 (by rw [e]), rfl⟩
/-- what can be played now -/
theorem r_now {S : tk_ST} {t z c0 : Nat} (h1 : S.1 1 = 5) (hC : Crd (S.2.2.2 0)) (ht : t < 4) (hz : z < 4) (et : S.1 2 = nI t) (ez : S.1 14 = nI z) (hc : 0 < z → c0 < 54 ∧ S.2.2.1 1 0 = nI c0) :
    ∃ x, f_X6_playableNow S = some x ∧ (∀ c, tb x c = true → tb (S.2.2.2 0 t) c = true) ∧ ((∃ c, tb (S.2.2.2 0 t) c = true) → ∃ c, tb x c = true) ∧ (z = 0 → x = S.2.2.2 0 t) ∧ (0 < z → Has (S.2.2.2 0 t) (su c0) → ∀ c, tb x c = true → su c = su c0) := by
  have hs := hC.1 t ht
  unfold f_X6_playableNow f_X5_ledSuit
  rw [if_pos h1, et, e_at13 ht, b1s, ez]
  by_cases qz : z = 0
  · subst qz
    rw [if_pos (show nI 0 ≤ 0 by decide), b1s]
    unfold f_X6_playableOf
    rw [if_pos rfl, b1s]
    exact ⟨_, rfl, fun c a => a, fun a => a, fun _ => rfl, fun q => absurd q (Nat.lt_irrefl 0)⟩
  · obtain ⟨hc0, e0⟩ := hc (by omega)
    obtain ⟨x, hx1, hx2, hx3⟩ := e_pof hs (su_lt c0 hc0)
    rw [if_neg (show ¬ nI z ≤ 0 from nI_nle (by omega) (by omega)), show f_X2_at_p6 0 S = some (S.2.2.1 1 0) from e_at6 (j := 0) (by decide) S, b1s, e0, e_suit c0 hc0, b1s, b1s, hx1, b1s]
    exact ⟨x, rfl, fun c a => ((hx2 c).mp a).1, hx3, fun q => absurd q qz, fun _ g c a => ((hx2 c).mp a).2.elim (fun b => b.2) (fun b => absurd g b.1)⟩
end
section
/-! the law's look at the hands -/
theorem s248 {K : Int32 → Int32 → Int64 → Int32 → Int32 → Int32 → Int32 → Int32 → tk_ST → Option Int32} {c o : Nat} (hc : c < 54) (ho : o < 2) (M x4 led x8 kf : Int32) (hd X : Int64) (S : tk_ST) : ∃ o', o' < 2 ∧ (o = 0 → (tb X c = true → nI (su c) = led) → o' = 0) ∧ f_L_areHands_248 K M x4 hd led x8 (nI o) (nI c) (if tb X c = true then 1 else 0) kf S = K M x4 hd led x8 kf (nI o') (nI (c + 1)) S := by
  unfold f_L_areHands_248 f_L_areHands_274 f_L_areHands_270 f_L_areHands_275
  rw [nI_1]
  by_cases q : o = 0
  · subst q
    rw [if_pos (show nI 0 = 0 from rfl)]
    by_cases t : tb X c = true
    · rw [if_pos t, if_neg n10, e_Lsuit c hc, b1s]
      by_cases e : nI (su c) = led
      · rw [if_pos e]; exact ⟨0, by decide, fun _ _ => rfl, rfl⟩
      · rw [if_neg e]; exact ⟨1, by decide, fun _ g => absurd (g t) e, rfl⟩
    · rw [if_neg t, if_pos rfl]; exact ⟨0, by decide, fun _ _ => rfl, rfl⟩
  · obtain rfl : o = 1 := by omega
    rw [if_neg (show ¬ nI 1 = 0 from n10)]
    exact ⟨1, by decide, fun e => absurd e (by decide), rfl⟩
theorem s216 {K : Int32 → Int32 → Int64 → Int32 → Int32 → Int32 → Int32 → Int32 → tk_ST → Option Int32} {c f : Nat} (hc : c < 54) (hf : f < 2) (M led x8 x10 x12 k0 : Int32) (hd : Int64) (S : tk_ST) : ∃ f', f' < 2 ∧ (f = 0 → ¬ (tb hd c = true ∧ nI (su c) = led) → f' = 0) ∧ f_L_areHands_216 K M hd led x8 (nI f) x10 (nI c) x12 k0 S = f_L_areHands_248 K M k0 hd led x8 x10 (nI c) x12 (nI f') S := by
  unfold f_L_areHands_216 f_L_areHands_247 f_L_areHands_243
  by_cases q : f = 0
  · subst q
    rw [if_pos (show nI 0 = 0 from rfl), e_Lhas (by omega), b1s]
    by_cases t : tb hd c = true
    · rw [if_pos t, if_neg n10, e_Lsuit c hc, b1s]
      by_cases e : nI (su c) = led
      · rw [if_pos e]; exact ⟨1, by decide, fun _ g => absurd ⟨t, e⟩ g, rfl⟩
      · rw [if_neg e]; exact ⟨0, by decide, fun _ _ => rfl, rfl⟩
    · rw [if_neg t, if_pos rfl]; exact ⟨0, by decide, fun _ _ => rfl, rfl⟩
  · obtain rfl : f = 1 := by omega
    rw [if_neg (show ¬ nI 1 = 0 from n10)]
    exact ⟨1, by decide, fun e => absurd e (by decide), rfl⟩
theorem L_161 {S : tk_ST} {hd X : Int64} {M led : Int32} (hX : f_X6_playableNow S = some X) (hsub : ∀ c, tb X c = true → tb hd c = true) (hpos : 0 < cn X) (hled : led = -1 ∨ ∃ s, s < 5 ∧ led = nI s) (hfree : led = -1 → X = hd) (hM : M = ((48 : Int32) - ((4 : Int32) * S.1 9)) - S.1 14) : ∀ n c f o : Nat, c ≤ 54 → 54 < c + n → f < 2 → o < 2 → ((f = 0 ∧ ∀ d, d < 54 → ¬ (tb hd d = true ∧ nI (su d) = led)) ∨ (o = 0 ∧ ∀ d, d < 54 → tb X d = true → nI (su d) = led) ∨ led = -1) → f_L_areHands_161 n M 1 hd led (nI (ct (tb X) c)) (nI f) (nI o) (nI c) S = some 1 := by
  intro n
  induction n with
  | zero => intro c f o h1 h2; omega
  | succ n ih =>
    intro c f o h54 hn hf ho hA
    rw [f_L_areHands_161_s]
    have hle : cn X ≤ 54 := by
      have : ∀ (p : Nat → Bool) m, ct p m ≤ m := by
        intro p m
        induction m with
        | zero => exact Nat.le_refl 0
        | succ m im =>
          show ct p m + _ ≤ _
          split <;> omega
      exact this _ 54
    by_cases q : c = 54
    · subst q
      have e321 : f_L_areHands_321 M S = some 1 := by
        unfold f_L_areHands_321 f_X6_tricks f_X6_inTrick
        rw [b1s, b1s, if_pos hM]
      rw [if_pos (show (54 : Int32) ≤ nI 54 from nI_le (Nat.le_refl _) (by decide)), if_neg n10, show ct (tb X) 54 = cn X from rfl, if_neg (nI_nle hpos (by omega)), e321]
      rcases hled with e | ⟨s, hs, e⟩
      · rw [if_neg (by rw [e]; decide), e_bits, b1s, hfree e, if_pos rfl]
      · rw [if_pos (by rw [e]; exact nI_le (a := 0) (Nat.zero_le s) (by omega))]
        rcases hA with ⟨e1, -⟩ | ⟨e1, -⟩ | e1
        · rw [if_pos (by rw [e1]; rfl)]
        · by_cases r : nI f = 0
          · rw [if_pos r]
          · rw [if_neg r, if_pos (by rw [e1]; rfl)]
        · rw [e] at e1; exact absurd e1 (nm1 (by omega))
    · have hc : c < 54 := by omega
      rw [if_neg (nge hc (by decide)), r_canPlay hX hc, b1s]
      have hs : ct (tb X) (c + 1) = ct (tb X) c + (if tb X c = true then 1 else 0) := rfl
      have key : ∀ k1 : Int32, nI (ct (tb X) c) + k1 = nI (ct (tb X) (c + 1)) → f_L_areHands_188 (f_L_areHands_161 n) M 1 hd led (nI f) (nI o) (nI c) (if tb X c = true then 1 else 0) (nI (ct (tb X) c)) k1 S = some 1 := by
        intro k1 hk1
        have e211 : f_L_areHands_211 (f_L_areHands_161 n) M hd led (nI (ct (tb X) (c + 1))) (nI f) (nI o) (nI c) (if tb X c = true then 1 else 0) S = some 1 := by
          unfold f_L_areHands_211
          obtain ⟨f', f1, f2, f3⟩ := s216 (K := f_L_areHands_161 n) hc hf M led (nI (ct (tb X) (c + 1))) (nI o) (if tb X c = true then 1 else 0) 1 hd S
          obtain ⟨o', o1, o2, o3⟩ := s248 (K := f_L_areHands_161 n) hc ho M 1 led (nI (ct (tb X) (c + 1))) (nI f') hd X S
          rw [f3, o3]
          refine ih (c + 1) f' o' (by omega) (by omega) f1 o1 ?_
          rcases hA with ⟨e1, g⟩ | ⟨e1, g⟩ | e1
          · exact Or.inl ⟨f2 e1 (g c hc), g⟩
          · exact Or.inr (Or.inl ⟨o2 e1 (g c hc), g⟩)
          · exact Or.inr (Or.inr e1)
        unfold f_L_areHands_188
        rw [if_neg n10, hk1]
        by_cases t : tb X c = true
        · rw [if_pos t] at e211 ⊢
          rw [if_neg n10, e_Lhas (by omega), b1s, if_pos (hsub c t), if_neg n10]
          exact e211
        · rw [if_neg t] at e211 ⊢
          rw [if_pos rfl]
          exact e211
      by_cases t : tb X c = true
      · have k := key 1 (by rw [hs, if_pos t, nI_1])
        rw [if_pos t] at k ⊢
        rw [if_neg n10]
        exact k
      · have k := key 0 (by rw [hs, if_neg t, Int32.add_zero]; rfl)
        rw [if_neg t] at k ⊢
        rw [if_pos rfl]
        exact k
theorem L_66 {S : tk_ST} (h5 : ¬ S.1 1 = 5) (hz : S.1 14 = 0) : ∀ n c : Nat, c ≤ 54 → 54 < c + n → f_L_areHands_66 n 1 (nI c) S = some 1 := by
  intro n
  induction n with
  | zero => intro c h1 h2; omega
  | succ n ih =>
    intro c h54 hn
    rw [f_L_areHands_66_s]
    by_cases q : c = 54
    · subst q
      unfold f_X6_inTrick
      rw [if_pos (show (54 : Int32) ≤ nI 54 from nI_le (Nat.le_refl _) (by decide)), if_neg n10, b1s, if_pos hz]
    · rw [if_neg (nge (show c < 54 by omega) (by decide)), if_neg n10, r_canPlay (e_nowN h5) (by omega), if_neg (tbZ c), b1s, if_pos rfl]
      unfold f_L_areHands_92
      rw [nI_1]
      exact ih (c + 1) (by omega) (by omega)
theorem L_7 (S : tk_ST) (n : Nat) {p : Nat} (hp : p < 4) (x : Int64) (m : Nat) : f_L_areHands_7 (n + 1) x (nI m) (nI p) S = f_L_areHands_7 n (x ||| S.2.2.2 0 p) (nI (m + cn (S.2.2.2 0 p))) (nI (p + 1)) S := by
  rw [f_L_areHands_7_s, if_neg (nge hp (by decide)), r_hand hp, b1s, b1s, e_bits, b1s, nI_add, nI_1]
theorem cn_four {h : Nat → Int64} (hC : Crd h) : cn ((((0 ||| h 0) ||| h 1) ||| h 2) ||| h 3) = 0 + cn (h 0) + cn (h 1) + cn (h 2) + cn (h 3) := by
  have d : ∀ p q, p < 4 → q < 4 → p ≠ q → ∀ c, tb (h p) c = true → ¬ tb (h q) c = true := fun p q hp hq hpq c e1 e2 => hC.2 p q hp hq hpq c ⟨e1, e2⟩
  rw [cn_or, cn_or, cn_or, cn_or, cn_zero]
  · exact fun c e => tbZ c e.1
  · intro c ⟨e1, e2⟩
    rw [tbO] at e1
    rcases e1 with e1 | e1
    · exact tbZ c e1
    · exact d 0 1 (by omega) (by omega) (by omega) c e1 e2
  · intro c ⟨e1, e2⟩
    rw [tbO, tbO] at e1
    rcases e1 with (e1 | e1) | e1
    · exact tbZ c e1
    · exact d 0 2 (by omega) (by omega) (by omega) c e1 e2
    · exact d 1 2 (by omega) (by omega) (by omega) c e1 e2
  · intro c ⟨e1, e2⟩
    rw [tbO, tbO, tbO] at e1
    rcases e1 with ((e1 | e1) | e1) | e1
    · exact tbZ c e1
    · exact d 0 3 (by omega) (by omega) (by omega) c e1 e2
    · exact d 1 3 (by omega) (by omega) (by omega) c e1 e2
    · exact d 2 3 (by omega) (by omega) (by omega) c e1 e2
/-- how many cards are in the hands while one plays -/
theorem pl_many {S : tk_ST} {D l d L z T : Nat} {kc : Nat → Nat} (h : PlX D l d L z T kc S) : cn (S.2.2.2 0 0) + cn (S.2.2.2 0 1) + cn (S.2.2.2 0 2) + cn (S.2.2.2 0 3) = 48 - 4 * T - z := by
  obtain ⟨-, -, -, hL, hz, hT, -, -, -, -, -, -, hcn, -⟩ := h
  rw [hcn 0 (by omega), hcn 1 (by omega), hcn 2 (by omega), hcn 3 (by omega)]
  rcases (show L = 0 ∨ L = 1 ∨ L = 2 ∨ L = 3 by omega) with rfl | rfl | rfl | rfl <;> rcases (show z = 0 ∨ z = 1 ∨ z = 2 ∨ z = 3 by omega) with rfl | rfl | rfl | rfl <;> simp <;> omega
theorem pl_hand {S : tk_ST} {D l d L z T : Nat} {kc : Nat → Nat} (h : PlX D l d L z T kc S) : ∃ c, c < 54 ∧ tb (S.2.2.2 0 ((L + z) % 4)) c = true := by
  obtain ⟨-, -, -, hL, hz, hT, -, -, -, -, -, -, hcn, -⟩ := h
  have h1 := hcn ((L + z) % 4) (by omega)
  rw [if_neg (show ¬ ((L + z) % 4 + 4 - L) % 4 < z by omega)] at h1
  exact cn_pos (by omega)
theorem areHands_ok {D : Nat} {S : tk_ST} (h : Inv D S) : f_L_areHands S = some 1 := by
  obtain ⟨-, -, -, ⟨hC, -⟩, -⟩ := id h
  have e1 : f_L_areHands S = f_L_areHands_53 (nI (0 + cn (S.2.2.2 0 0) + cn (S.2.2.2 0 1) + cn (S.2.2.2 0 2) + cn (S.2.2.2 0 3))) 1 S := by
    show f_L_areHands_7 (63 + 1) 0 (nI 0) (nI 0) S = _
    rw [L_7 S 63 (p := 0) (by omega), L_7 S 62 (p := 1) (by omega), L_7 S 61 (p := 2) (by omega), L_7 S 60 (p := 3) (by omega), show 60 = 59 + 1 from rfl, f_L_areHands_7_s, if_pos (show (4 : Int32) ≤ nI (3 + 1) by decide), e_bits, b1s, cn_four hC, if_pos rfl]
  rw [e1]
  unfold f_L_areHands_53 f_X6_phase f_X6_turn f_X6_inTrick
  rw [b1s]
  by_cases h5 : S.1 1 = 5
  · rw [if_pos h5, b1s]
    obtain ⟨l, d, L, z, T, kc, hP⟩ := h.p h5
    have hm := pl_many hP
    have hh := pl_hand hP
    obtain ⟨l1, l5, d4, hL, hz, hT, el, ed, eL, ez, eT, et, hcn, hkc, hDj, hTot, hB⟩ := hP
    have ht : (L + z) % 4 < 4 := Nat.mod_lt _ (by decide)
    obtain ⟨loc, -, -, -, hl4⟩ := id hDj
    obtain ⟨x, x1, x2, x3, x4, x5⟩ := r_now (c0 := kc 0) h5 hC ht hz et ez (fun q => ⟨(hl4 0 q).1, hkc 0 q⟩)
    have xp : 0 < cn x := by
      obtain ⟨c, hc⟩ := x3 (by obtain ⟨c, -, hc⟩ := hh; exact ⟨c, hc⟩)
      have h54 := hC.1 _ ht c (x2 c hc)
      have := cn_rem h54 hc
      omega
    have hM : nI (0 + cn (S.2.2.2 0 0) + cn (S.2.2.2 0 1) + cn (S.2.2.2 0 2) + cn (S.2.2.2 0 3)) = ((48 : Int32) - ((4 : Int32) * S.1 9)) - S.1 14 := by
      rw [eT, ez, show (4 : Int32) * nI T = nI (4 * T) from pk_mul 4 T, show (48 : Int32) - nI (4 * T) = nI (48 - 4 * T) from pk_sub (a := 48) (by omega), pk_sub (by omega), ← hm, Nat.zero_add]
    rw [et, r_hand ht, b1s, b1s, ez]
    unfold f_L_areHands_147
    by_cases qz : z = 0
    · subst qz
      rw [if_pos (show nI 0 = 0 from rfl)]
      exact L_161 x1 x2 xp (Or.inl rfl) (fun _ => x4 rfl) hM 64 0 0 0 (by omega) (by omega) (by omega) (by omega) (Or.inr (Or.inr rfl))
    · have hk0 := (hl4 0 (by omega)).1
      rw [if_neg (nI_ne0 (by omega) (by omega)), show f0_X6_trickAt (0 : Int32) S = some (S.2.2.1 1 0) from r_trickAt (j := 0) (by omega) (by omega) ez, b1s, hkc 0 (by omega), e_Lsuit _ hk0, b1s]
      have h5' := su_lt _ hk0
      refine L_161 x1 x2 xp (Or.inr ⟨_, h5', rfl⟩) (fun e => absurd e (nm1 (by omega))) hM 64 0 0 0 (by omega) (by omega) (by omega) (by omega) ?_
      by_cases g : Has (S.2.2.2 0 ((L + z) % 4)) (su (kc 0))
      · exact Or.inr (Or.inl ⟨rfl, fun d _ hd => by rw [x5 (by omega) g d hd]⟩)
      · refine Or.inl ⟨rfl, fun d hd54 ⟨a, b⟩ => g ⟨d, a, ?_⟩⟩
        have s5 := su_lt d hd54
        exact (nI_eq (by omega) (by omega)).mp b
  · rw [if_neg h5]
    exact L_66 h5 (h.z h5) 64 0 (by omega) (by omega)
end
section
/-! the law's look at the sides -/
theorem ni_neg {n : Nat} (h : n < 2 ^ 31) : ¬ nI n < 0 := nI_pos h
theorem k_self {S : tk_ST} (h : Sd S) {p : Nat} (hp : p < 4) : f0_X6_knows (nI p) (nI p) S = some (if S.1 3 = -1 then -1 else if S.1 1 = 2 then -1 else sd (nI p) (S.1 3) (S.1 6)) := by
  rcases r_knows h hp hp with e | ⟨e, -⟩
  · exact e
  · exact absurd rfl e
theorem L_153 {S : tk_ST} (h : Sd S) (K : Int32 → Int32 → tk_ST → Option Int32) {p : Nat} (hp : p < 4) : ∀ n q : Nat, q ≤ 4 → 4 < q + n → f_L_areSides_153 K n 1 (nI p) (nI q) S = K 1 (nI (p + 1)) S := by
  intro n
  induction n with
  | zero => intro q h1 h2; omega
  | succ n ih =>
    intro q h4 hn
    rw [f_L_areSides_153_s]
    unfold f_L_areSides_204 f_L_areSides_192 f_L_areSides_197
    by_cases e : q = 4
    · subst e
      rw [if_pos (show (4 : Int32) ≤ nI 4 by decide), nI_1]
    · have hq : q < 4 := by omega
      have go := ih (q + 1) (by omega) (by omega)
      rw [if_neg (nge hq (by decide)), if_neg n10, nI_1]
      rcases r_knows h hp hq with e1 | ⟨-, e1⟩
      · rw [e1, b1s, k_self h hq]
        by_cases c1 : (if S.1 3 = -1 then (-1 : Int32) else if S.1 1 = 2 then -1 else sd (nI q) (S.1 3) (S.1 6)) = -1
        · rw [if_pos c1]; exact go
        · rw [if_neg c1, b1s, if_pos rfl]; exact go
      · rw [e1, b1s, if_pos rfl]; exact go
theorem L_81 {S : tk_ST} (h : Sd S) (h210 : f_L_areSides_210 1 S = some 1) : ∀ n p : Nat, p ≤ 4 → 4 < p + n → f_L_areSides_81 n 1 (nI p) S = some 1 := by
  intro n
  induction n with
  | zero => intro p h1 h2; omega
  | succ n ih =>
    intro p h4 hn
    rw [f_L_areSides_81_s]
    by_cases e : p = 4
    · subst e
      rw [if_pos (show (4 : Int32) ≤ nI 4 by decide)]; exact h210
    · have hp : p < 4 := by omega
      have go : f_L_areSides_149 (f_L_areSides_81 n) (nI p) 1 S = some 1 := by
        unfold f_L_areSides_149
        rw [show (0 : Int32) = nI 0 from rfl, L_153 h _ hp 64 0 (by omega) (by omega)]
        exact ih (p + 1) (by omega) (by omega)
      rw [if_neg (nge hp (by decide)), if_neg n10, k_self h hp, b1s]
      unfold f_L_areSides_114 f_L_areSides_136 f_L_areSides_141 f_X6_declarer f_X6_phase f_X6_partner
      rw [b1s]
      rcases h.1 with e3 | ⟨d, hd, e3⟩
      · rw [if_pos e3, if_pos (show S.1 3 < 0 by rw [e3]; decide), if_pos rfl]; exact go
      · have n3 : ¬ S.1 3 = -1 := by rw [e3]; exact nm1 (by omega)
        rw [if_neg n3, if_neg (show ¬ S.1 3 < 0 by rw [e3]; exact ni_neg (by omega)), b1s]
        by_cases e2 : S.1 1 = 2
        · rw [if_pos e2, if_pos e2, if_pos rfl]; exact go
        · rw [if_neg e2, if_neg e2, b1s]
          unfold sd
          by_cases d1 : nI p = S.1 3
          · rw [if_pos d1, if_pos d1, if_pos rfl]; exact go
          · rw [if_neg d1, if_neg d1, b1s]
            by_cases d2 : nI p = S.1 6
            · rw [if_pos d2, if_pos d2, if_pos rfl]; exact go
            · rw [if_neg d2, if_neg d2, if_pos rfl]; exact go
theorem sides210 {S : tk_ST} (h : Sd S) : f_L_areSides_210 1 S = some 1 := by
  obtain ⟨h3, h6, h4, h5, l, l5, el, hl3, hl4⟩ := h
  have e253 : f_L_areSides_253 S = some 1 := by
    unfold f_L_areSides_253 f_L_areSides_268 f_X6_called f_X6_level
    rw [b1s]
    rcases h4 with e | ⟨s, hs, e⟩
    · rw [if_pos (by rw [e]; decide)]
    · rw [if_neg (by rw [e]; exact ni_neg (by omega)), b1s, el, if_neg (show ¬ (4 : Int32) ≤ nI l from nI_ge (b := 4) (hl4 (by rw [e]; exact nm1 (by omega))) (by decide))]
  have e239 : f_L_areSides_239 S = some 1 := by
    unfold f_L_areSides_239 f_X6_declarer f_X6_level
    rw [b1s]
    rcases h3 with e | ⟨d, hd, e⟩
    · rw [if_pos (by rw [e]; decide)]; exact e253
    · rw [if_neg (by rw [e]; exact ni_neg (by omega)), b1s, el, if_neg (nI_nle (by have := hl3 (by rw [e]; exact nm1 (by omega)); omega) (by omega))]
      exact e253
  unfold f_L_areSides_210 f_X6_partner f_X6_called f_X6_declarer
  rw [if_neg n10, b1s]
  rcases h6 with e | ⟨q, hq, e, ne, nc⟩
  · rw [if_pos (by rw [e]; decide)]; exact e239
  · obtain ⟨s, hs, es⟩ := h4.resolve_left nc
    rw [if_neg (by rw [e]; exact ni_neg (by omega)), b1s, if_neg (by rw [es]; exact ni_neg (by omega)), b1s, b1s, if_neg ne]
    exact e239
theorem areSides_ok {D : Nat} {S : tk_ST} (h : Inv D S) : f_L_areSides S = some 1 := by
  obtain ⟨-, -, hS, ⟨-, T, hT, eT, h210, hall⟩, -⟩ := h
  obtain ⟨r0, a1, a2⟩ := r_packs (s := 0) (by decide) S
  obtain ⟨r1, b1, b2⟩ := r_packs (s := 1) (by decide) S
  have e44 : f_L_areSides_44 (nI (th (S.2.2.2 1 0) + th (S.2.2.2 1 1))) 1 S = some 1 := by
    unfold f_L_areSides_44 f_L_areSides_77
    rw [show f0_X6_byPacks (0 : Int32) S = some (nI r0) from a2, show f0_X6_byPacks (1 : Int32) S = some (nI r1) from b2, b1s, b1s, if_neg n10, nI_add, if_neg (ni_neg (by omega)), show (3 : Int32) * nI (r0 + r1) = nI (3 * (r0 + r1)) from pk_mul 3 _, if_neg (nI_nlt (by omega) (by omega))]
    exact L_81 hS (sides210 hS) 64 0 (by omega) (by omega)
  unfold f_L_areSides f_L_areSides_39 f_X6_tricks
  rw [r_thirds0, b1s, r_thirds1, b1s, nI_add, if_neg (ni_neg (by omega)), if_neg (show ¬ (210 : Int32) < nI (th (S.2.2.2 1 0) + th (S.2.2.2 1 1)) from nI_nlt (b := th (S.2.2.2 1 0) + th (S.2.2.2 1 1)) (a := 210) (by omega) (by decide)), b1s, eT]
  by_cases q : T = 12
  · subst q
    rw [if_neg (show ¬ nI 12 < 12 by decide), if_pos (show nI (th (S.2.2.2 1 0) + th (S.2.2.2 1 1)) = 210 by rw [hall rfl]; rfl)]
    exact e44
  · rw [if_pos (show nI T < 12 from nI_lt (b := 12) (by omega) (by decide))]
    exact e44
end
section
/-! deal -/
theorem five {f : Int64 → Nat} (hf : ∀ x y, (∀ c, ¬ (tb x c = true ∧ tb y c = true)) → f (x ||| y) = f x + f y) {h : Nat → Int64} {x : Int64} (hC : Crd h) (hx : ∀ p, p < 4 → ∀ c, ¬ (tb x c = true ∧ tb (h p) c = true)) : f ((((x ||| h 0) ||| h 1) ||| h 2) ||| h 3) = f x + f (h 0) + f (h 1) + f (h 2) + f (h 3) := by
  have d : ∀ p q, p < 4 → q < 4 → p ≠ q → ∀ c, tb (h p) c = true → ¬ tb (h q) c = true := fun p q hp hq hpq c e1 e2 => hC.2 p q hp hq hpq c ⟨e1, e2⟩
  rw [hf, hf, hf, hf]
  · exact hx 0 (by omega)
  · intro c ⟨e1, e2⟩
    rw [tbO] at e1
    rcases e1 with e1 | e1
    · exact hx 1 (by omega) c ⟨e1, e2⟩
    · exact d 0 1 (by omega) (by omega) (by omega) c e1 e2
  · intro c ⟨e1, e2⟩
    rw [tbO, tbO] at e1
    rcases e1 with (e1 | e1) | e1
    · exact hx 2 (by omega) c ⟨e1, e2⟩
    · exact d 0 2 (by omega) (by omega) (by omega) c e1 e2
    · exact d 1 2 (by omega) (by omega) (by omega) c e1 e2
  · intro c ⟨e1, e2⟩
    rw [tbO, tbO, tbO] at e1
    rcases e1 with ((e1 | e1) | e1) | e1
    · exact hx 3 (by omega) c ⟨e1, e2⟩
    · exact d 0 3 (by omega) (by omega) (by omega) c e1 e2
    · exact d 1 3 (by omega) (by omega) (by omega) c e1 e2
    · exact d 2 3 (by omega) (by omega) (by omega) c e1 e2
theorem ct_full {p : Nat → Bool} : ∀ n, ct p n ≤ n ∧ (ct p n = n → ∀ i, i < n → p i = true)
  | 0 => ⟨Nat.le_refl 0, fun _ i hi => absurd hi (Nat.not_lt_zero i)⟩
  | n + 1 => by
    have h := ct_full (p := p) n
    have hs : ct p (n + 1) = ct p n + (if p n = true then 1 else 0) := rfl
    by_cases q : p n = true
    · rw [if_pos q] at hs
      refine ⟨by omega, fun e i hi => ?_⟩
      by_cases r : i = n
      · rw [r]; exact q
      · exact h.2 (by omega) i (by omega)
    · rw [if_neg q] at hs
      exact ⟨by omega, fun e => by omega⟩
theorem wt_all : wt (fun _ => true) 54 = 210 := by decide +kernel
theorem th_all {x : Int64} (h : cn x = 54) : th x = 210 := by
  rw [← wt_all]
  exact wt_congr 54 (fun i hi => ⟨fun _ => rfl, fun _ => (ct_full 54).2 h i hi⟩)
theorem mkDj {h : Nat → Int64} {a b : Int64} {kc : Nat → Nat} (hC : Crd h) (ha : ∀ c, tb a c = true → c < 54) (hb : ∀ c, tb b c = true → c < 54) (hab : ∀ c, ¬ (tb a c = true ∧ tb b c = true)) (hha : ∀ p, p < 4 → ∀ c, ¬ (tb (h p) c = true ∧ tb a c = true)) (hhb : ∀ p, p < 4 → ∀ c, ¬ (tb (h p) c = true ∧ tb b c = true)) : Dj h a b 0 kc := by
  refine ⟨fun c => if tb (h 0) c = true then 0 else if tb (h 1) c = true then 1 else if tb (h 2) c = true then 2 else if tb (h 3) c = true then 3 else if tb a c = true then 4 else 5, fun p hp c hc => ⟨hC.1 p hp c hc, ?_⟩, fun c hc => ⟨ha c hc, ?_⟩, fun c hc => ⟨hb c hc, ?_⟩, fun j hj => absurd hj (Nat.not_lt_zero j)⟩
  · have n : ∀ q, q < 4 → q ≠ p → ¬ tb (h q) c = true := fun q hq e e1 => hC.2 q p hq hp e c ⟨e1, hc⟩
    rcases (show p = 0 ∨ p = 1 ∨ p = 2 ∨ p = 3 by omega) with rfl | rfl | rfl | rfl
    · simp only [if_pos hc]
    · simp only [if_neg (n 0 (by omega) (by omega)), if_pos hc]
    · simp only [if_neg (n 0 (by omega) (by omega)), if_neg (n 1 (by omega) (by omega)), if_pos hc]
    · simp only [if_neg (n 0 (by omega) (by omega)), if_neg (n 1 (by omega) (by omega)), if_neg (n 2 (by omega) (by omega)), if_pos hc]
  · have n : ∀ q, q < 4 → ¬ tb (h q) c = true := fun q hq e1 => hha q hq c ⟨e1, hc⟩
    simp only [if_neg (n 0 (by omega)), if_neg (n 1 (by omega)), if_neg (n 2 (by omega)), if_neg (n 3 (by omega)), if_pos hc]
  · have n : ∀ q, q < 4 → ¬ tb (h q) c = true := fun q hq e1 => hhb q hq c ⟨e1, hc⟩
    simp only [if_neg (n 0 (by omega)), if_neg (n 1 (by omega)), if_neg (n 2 (by omega)), if_neg (n 3 (by omega)), if_neg (fun e => hab c ⟨e, hc⟩)]
theorem S_deal {D X : Nat} {S : tk_ST} (hX : X < 65536) (h1 : S.1 1 = 0) (hF : Fo D S) (hB : Bef (D + 1) S) : ∃ S', f0_X6_deal (nI X) S = some (nI (D % 4), S') ∧ Inv (D + 1) S' ∧ S'.1 0 = nI (D % 4) ∧ S'.1 2 = nI (D % 4) ∧ S'.1 11 = 0 ∧ S'.1 9 = 0 ∧ cn ((((orr (S'.2.2.1 0) 48 6 ||| S'.2.2.2 0 0) ||| S'.2.2.2 0 1) ||| S'.2.2.2 0 2) ||| S'.2.2.2 0 3) = 54 := by
  unfold f0_X6_deal f_X6_deal
  rw [if_neg (nneg (by omega)), if_pos (show nI X < 65536 from nI_lt hX (by decide)), if_pos h1]
  have hb : f_X6_behind (S.1 0) = some (nI (D % 4)) := by
    rcases hF with ⟨rfl, d4⟩ | ⟨d0, d4⟩
    · rw [d4]; decide
    · rw [d4, e_behind (by omega), show ((D - 1) % 4 + 1) % 4 = D % 4 by omega]
  have hF4 : D % 4 < 4 := Nat.mod_lt _ (by decide)
  rw [hb, b1s]
  obtain ⟨C, c0, c1, c2, c3, c4, c5, c6, c8, c9, c10, c11, c12, c13, c14, c15, cl0, cA, ch, cp0, cp1⟩ := e_clear (tk_I S 0 (nI (D % 4)))
  have c1' : C.1 0 = nI (D % 4) := c1
  have cA' : C.2.2.1 = S.2.2.1 := cA
  have c13' : C.1 13 = nI (D % 4) := c13
  rw [c0, b1s, e_shH hX, b1s, cA']
  have hrow : Row (shf 53 X (ini (S.2.2.1 0) 54)) := row_shf 53 X _ (by omega) (row_ini _)
  generalize hg : shf 53 X (ini (S.2.2.1 0) 54) = g at hrow
  rw [e_handOut hF4 (S := tk_A C 0 g) c1', b1s, b3s, if_pos rfl, show (tk_A C 0 g).2.2.1 0 = g from rfl, show (tk_A C 0 g).2.2.2 0 = C.2.2.2 0 from rfl]
  obtain ⟨v, hv, hi⟩ := id hrow
  have hr : ∀ p, p < 4 → rr (D % 4) p < 4 := fun p _ => Nat.mod_lt _ (by decide)
  have hHp : ∀ p, p < 4 → hH g (D % 4) (C.2.2.2 0) 4 p = orr g (rr (D % 4) p * 12) 12 := fun p hp => by
    rw [hH_at g hF4 _ p 4 (by omega), if_pos ⟨hp, Nat.mod_lt _ (by decide)⟩]
  have hC : Crd (hH g (D % 4) (C.2.2.2 0) 4) := by
    refine ⟨fun p hp c hc => ?_, fun p q hp hq hpq c hc => ?_⟩
    · rw [hHp p hp, tb_orr hv 12 (by have := hr p hp; omega)] at hc
      obtain ⟨i, i1, i2⟩ := hc
      rw [← i2]; exact (hv _ (by have := hr p hp; omega)).1
    · have r1 := hr p hp
      have r2 := hr q hq
      rw [hHp p hp, hHp q hq, tb_orr hv 12 (by omega), tb_orr hv 12 (by omega)] at hc
      obtain ⟨⟨i, i1, i2⟩, j, j1, j2⟩ := hc
      have := hi _ _ (by omega) (by omega) (i2.trans j2.symm)
      have e2 : rr (D % 4) p ≠ rr (D % 4) q := by unfold rr; omega
      omega
  have hT : ∀ p, p < 4 → ∀ c, ¬ (tb (orr g 48 6) c = true ∧ tb (hH g (D % 4) (C.2.2.2 0) 4 p) c = true) := by
    intro p hp c hc
    have r1 := hr p hp
    rw [hHp p hp, tb_orr hv 12 (by omega), tb_orr hv 6 (by omega)] at hc
    obtain ⟨⟨j, j1, j2⟩, i, i1, i2⟩ := hc
    have := hi _ _ (by omega) (by omega) (i2.trans j2.symm)
    omega
  have hcn : ∀ p, p < 4 → cn (hH g (D % 4) (C.2.2.2 0) 4 p) = 12 := fun p hp => by
    rw [hHp p hp]
    exact cn_orr hv hi 12 (by have := hr p hp; omega)
  have h54 : cn ((((orr g 48 6 ||| hH g (D % 4) (C.2.2.2 0) 4 0) ||| hH g (D % 4) (C.2.2.2 0) 4 1) ||| hH g (D % 4) (C.2.2.2 0) 4 2) ||| hH g (D % 4) (C.2.2.2 0) 4 3) = 54 := by
    rw [five (f := cn) (fun x y h => cn_or h) hC hT, hcn 0 (by omega), hcn 1 (by omega), hcn 2 (by omega), hcn 3 (by omega), cn_orr hv hi 6 (by omega)]
  have h210 := th_all h54
  rw [five (f := th) (fun x y h => th_or h) hC hT] at h210
  generalize hH g (D % 4) (C.2.2.2 0) 4 = hh at hC hT hcn h54 h210 ⊢
  have e15 : (tk_L (tk_B (tk_A C 0 g) 0 hh) 1 (orr g 48 6)).1 0 = nI (D % 4) := c1'
  refine ⟨tk_I (tk_I (tk_L (tk_B (tk_A C 0 g) 0 hh) 1 (orr g 48 6)) 1 1) 2 (nI (D % 4)), ?_, ⟨Or.inr ⟨by omega, ?_⟩, ⟨0, 0, by decide, by decide, c8⟩, ⟨Or.inl c3, Or.inl c6, Or.inl c4, Or.inl c5, 0, by omega, c11, fun e => absurd c3 e, fun e => absurd c4 e⟩, ⟨hC, 0, by omega, c9, ?_, fun e => absurd e (by decide)⟩, Or.inr (Or.inl ⟨rfl, 0, D % 4, by decide, hF4, c10, rfl, Nat.zero_testBit _, c3, c4, c5, c6, Or.inl ⟨c11, c12⟩, ⟨hrow, hcn, rfl⟩, c14, c9, cp0, cp1, ?_, ?_, ⟨D % 4, hF4, c1', c13'⟩, ?_⟩)⟩, c1', rfl, c11, c9, h54⟩
  · show some ((tk_L (tk_B (tk_A C 0 g) 0 hh) 1 (orr g 48 6)).1 0, tk_I (tk_I (tk_L (tk_B (tk_A C 0 g) 0 hh) 1 (orr g 48 6)) 1 1) 2 ((tk_L (tk_B (tk_A C 0 g) 0 hh) 1 (orr g 48 6)).1 0)) = _
    rw [e15]
  · rw [show (D + 1 - 1) % 4 = D % 4 by omega]; exact c1'
  · show th (C.2.2.2 1 0) + th (C.2.2.2 1 1) ≤ 210
    rw [cp0, cp1, th_zero]; omega
  · show Dj hh (C.2.1 0) (orr g 48 6) 0 (fun _ => 0)
    rw [cl0]
    refine mkDj hC (fun c e => absurd e (tbZ c)) (fun c hc => ?_) (fun c e => tbZ c e.1) (fun p hp c e => tbZ c e.2) (fun p hp c e => hT p hp c ⟨e.2, e.1⟩)
    obtain ⟨i, i1, i2⟩ := (tb_orr hv 6 (by omega) c).mp hc
    rw [← i2]; exact (hv _ (by omega)).1
  · show th (hh 0) + th (hh 1) + th (hh 2) + th (hh 3) + th (C.2.1 0) + th (orr g 48 6) + 0 = 210
    rw [cl0, th_zero]; omega
  · intro p hp
    show C.2.2.1 4 p = C.2.2.1 2 p ∧ C.2.2.1 4 (4 + p) = C.2.2.1 3 p ∧ ∃ n, n + 1 ≤ D + 1 ∧ C.2.2.1 3 p = nI n
    rw [cA']; exact hB p hp
end
section
/-! bid -/
theorem S_begin {D : Nat} {S : tk_ST} (hF : Fo D S) (hA : An S) (hS : Sd S) {l d : Nat} (l1 : 1 ≤ l) (l5 : l ≤ 5) (d4 : d < 4) (el : S.1 11 = nI l) (ed : S.1 3 = nI d) (hcn : ∀ p, p < 4 → cn (S.2.2.2 0 p) = 12) (hP : Pre D S) : ∃ S', f_X6_beginPlay S = some S' ∧ Inv D S' ∧ S'.1 1 = 5 ∧ (∀ i, i ≠ 1 → i ≠ 2 → S'.1 i = S.1 i) ∧ S'.2.2.2 0 = S.2.2.2 0 ∧ S'.2.2.2 1 0 = S.2.1 0 := by
  obtain ⟨e14, e9, p0, p1, hDj, hTot, ⟨f, f4, ef, e13⟩, hB⟩ := hP
  have h210 : th (S.2.1 0) + th (S.2.1 1) ≤ 210 := by
    unfold Tot at hTot; omega
  unfold f_X6_beginPlay
  rw [e_p0, b1s, e_p1, b1s]
  refine ⟨_, rfl, ⟨hF, hA, hS, ⟨hDj.crd, 0, by omega, e9, h210, fun e => absurd e (by decide)⟩, Or.inr (Or.inr (Or.inr (Or.inr (Or.inr ⟨rfl, l, d, f, 0, 0, fun _ => 0, l1, l5, d4, f4, by decide, by decide, el, ed, e13, e14, e9, ?_, fun p hp => ?_, fun j hj => absurd hj (Nat.not_lt_zero j), hDj, hTot, hB⟩))))⟩, rfl, fun i i1 i2 => ?_, rfl, rfl⟩
  · show S.1 0 = nI ((f + 0) % 4)
    rw [ef, Nat.add_zero, Nat.mod_eq_of_lt f4]
  · show cn (S.2.2.2 0 p) = 12 - 0 - (if (p + 4 - f) % 4 < 0 then 1 else 0)
    rw [if_neg (Nat.not_lt_zero _), hcn p hp]
  · rw [uI1, if_neg i2, uI1, if_neg i1]; rfl
theorem nxt_n : ∀ P, P < 16 → P ≠ 15 → ∀ t, t < 4 → (P.testBit t = true ∨ pc P ≤ 2) → nxt P t ≠ t := by decide +kernel
def BidOut (S S' : tk_ST) (r : Int32) : Prop := r = S'.1 1 ∧ ((r = 1 ∧ S'.1 2 ≠ S.1 2 ∧ S'.1 3 = -1) ∨ (r = 0 ∧ S'.1 11 = 0) ∨ ∃ l d, 1 ≤ l ∧ l ≤ 5 ∧ d < 4 ∧ S'.1 11 = nI l ∧ S'.1 3 = nI d ∧ r = (if l < 4 then 2 else if l = 4 then 3 else 5))
theorem S_after {D : Nat} {S : tk_ST} (hF : Fo D S) (hA : An S) (hPl : Pls S) (h1 : S.1 1 = 1) {P t : Nat} (hP16 : P < 16) (ht : t < 4) (eP : S.1 10 = nI P) (et : S.1 2 = nI t) (e3 : S.1 3 = -1) (e4 : S.1 4 = -1) (e5 : S.1 5 = -1) (e6 : S.1 6 = -1) (hlb : (S.1 11 = 0 ∧ S.1 12 = -1) ∨ ∃ l b, 1 ≤ l ∧ l ≤ 5 ∧ b < 4 ∧ S.1 11 = nI l ∧ S.1 12 = nI b ∧ pc P ≤ 3) (hT : P.testBit t = true ∨ S.1 12 ≠ -1) (hDe : De S) (hPr : Pre D S) : ∃ r S', hbt S = some (0, r, S') ∧ Inv D S' ∧ S'.1 11 = S.1 11 ∧ BidOut S S' r := by
  have p4 := pc4 P hP16
  have hl : ∃ l, l ≤ 5 ∧ S.1 11 = nI l := by
    rcases hlb with ⟨e, -⟩ | ⟨l, b, -, l5, -, e, -⟩
    · exact ⟨0, by omega, e⟩
    · exact ⟨l, l5, e⟩
  unfold hbt f_X0_allPassed
  rw [eP, e_bitc P hP16, b1s]
  by_cases q4 : pc P = 4
  · rw [q4, if_pos (show nI 4 = 4 from rfl), b1s, if_neg n10]
    unfold f_X6_endDeal
    rw [b1s]
    rcases hlb with ⟨el, eb⟩ | ⟨l, b, -, -, -, -, -, q⟩
    · exact ⟨0, _, rfl, ⟨hF, hA, ⟨Or.inl e3, Or.inl e6, Or.inl e4, Or.inl e5, 0, by omega, el, fun e => absurd e3 e, fun e => absurd e4 e⟩, hPl, Or.inl ⟨rfl, rfl, hPr.1, hPr.2.2.2.2.2.2.2.rad⟩⟩, rfl, rfl, Or.inr (Or.inl ⟨rfl, el⟩)⟩
    · omega
  · have h15 : P ≠ 15 := fun e => q4 (p4.1.mpr e)
    have q4' : ¬ nI (pc P) = 4 := fun e => q4 ((nI_eq (b := 4) (by omega) (by decide)).mp e)
    have hn := nxt_f P hP16 h15 t ht
    have nx : (P.testBit t = true ∨ pc P ≤ 2) → ((S.1 11 = 0 ∧ S.1 12 = -1) ∨ ∃ l b, 1 ≤ l ∧ l ≤ 5 ∧ b < 4 ∧ S.1 11 = nI l ∧ S.1 12 = nI b ∧ pc P ≤ 2) → ∃ r S', (tk_b1 (f_X0_nextBehind (S.1 2) S) fun r12 => some ((0 : Int32), (S.1 1), (tk_I S 2 r12))) = some (0, r, S') ∧ Inv D S' ∧ S'.1 11 = S.1 11 ∧ BidOut S S' r := by
      intro hT2 hlb2
      obtain ⟨l, l5, el⟩ := hl
      rw [et, e_next hP16 ht eP, b1s]
      refine ⟨_, _, rfl, ⟨hF, hA, ⟨Or.inl e3, Or.inl e6, Or.inl e4, Or.inl e5, l, l5, el, fun e => absurd e3 e, fun e => absurd e4 e⟩, hPl, Or.inr (Or.inl ⟨h1, P, nxt P t, hP16, hn.1, eP, rfl, hn.2, e3, e4, e5, e6, hlb2, hDe, hPr⟩)⟩, rfl, rfl, Or.inl ⟨h1, ?_, e3⟩⟩
      show nI (nxt P t) ≠ S.1 2
      rw [et]
      exact fun e => nxt_n P hP16 h15 t ht hT2 ((nI_eq (by omega) (by omega)).mp e)
    rw [if_neg q4', b1s, if_pos rfl]
    unfold f_X0_isSettled
    rw [eP, e_bitc P hP16, b1s]
    rcases hlb with ⟨el, eb⟩ | ⟨l, b, l1, l5, b4, el, eb, pl3⟩
    · rw [if_pos eb, b1s, if_pos rfl]
      exact nx (Or.inl (hT.resolve_right (fun e => e eb))) (Or.inl ⟨el, eb⟩)
    · rw [if_neg (show ¬ S.1 12 = -1 by rw [eb]; exact n1I (by omega))]
      by_cases q3 : pc P = 3
      · rw [if_pos (show nI (pc P) = 3 by rw [q3]; rfl), b1s, if_neg n10]
        unfold f_X6_beginGame
        rw [el, eb]
        have hS3 : Sd (tk_I (tk_I S 3 (nI b)) 2 (nI b)) := ⟨Or.inr ⟨b, b4, rfl⟩, Or.inl e6, Or.inl e4, Or.inl e5, l, l5, el, fun _ => l1, fun e => absurd e4 e⟩
        by_cases q5 : l = 5
        · subst q5
          rw [if_pos (show (3 : Int32) < nI 5 by decide), if_pos (show (4 : Int32) < nI 5 by decide)]
          obtain ⟨B, x1, x2, x3, x4, x5, x6⟩ := S_begin (D := D) (S := tk_I (tk_I S 3 (nI b)) 2 (nI b)) hF hA hS3 l1 l5 b4 el rfl hDe.2.1 hPr
          rw [x1, b1s, b1s]
          refine ⟨_, _, rfl, x2, (x4 11 (by decide) (by decide)).trans el, rfl, Or.inr (Or.inr ⟨5, b, l1, l5, b4, (x4 11 (by decide) (by decide)).trans el, x4 3 (by decide) (by decide), ?_⟩)⟩
          rw [x3]; rfl
        · by_cases q44 : l = 4
          · subst q44
            rw [if_pos (show (3 : Int32) < nI 4 by decide), if_neg (show ¬ (4 : Int32) < nI 4 by decide), b1s]
            exact ⟨_, _, rfl, ⟨hF, hA, hS3, hPl, Or.inr (Or.inr (Or.inr (Or.inl ⟨rfl, 4, b, by omega, by omega, b4, el, rfl, hDe, hPr⟩)))⟩, el, rfl, Or.inr (Or.inr ⟨4, b, l1, l5, b4, el, rfl, rfl⟩)⟩
          · rw [if_neg (show ¬ (3 : Int32) < nI l from nI_nlt (b := l) (a := 3) (by omega) (by omega)), b1s]
            refine ⟨_, _, rfl, ⟨hF, hA, hS3, hPl, Or.inr (Or.inr (Or.inl ⟨rfl, l, b, by omega, by omega, b4, el, rfl, hDe, hPr⟩))⟩, el, rfl, Or.inr (Or.inr ⟨l, b, l1, l5, b4, el, rfl, ?_⟩)⟩
            rw [if_pos (show l < 4 by omega)]; rfl
      · rw [if_neg (show ¬ nI (pc P) = 3 from fun e => q3 ((nI_eq (b := 3) (by omega) (by decide)).mp e)), b1s, if_pos rfl]
        exact nx (Or.inr (by omega)) (Or.inr ⟨l, b, l1, l5, b4, el, eb, by omega⟩)
theorem S_bid {D : Nat} {S : tk_ST} (h : Inv D S) (h1 : S.1 1 = 1) {x : Nat} (hx : x < 6) : (0 < x ∧ ¬ S.1 11 < nI x ∧ f_X6_bid (nI x) S = some (2, 0, S)) ∨ ((x = 0 ∨ S.1 11 < nI x) ∧ ∃ r S', f_X6_bid (nI x) S = some (0, r, S') ∧ Inv D S' ∧ S'.1 11 = (if x = 0 then S.1 11 else nI x) ∧ BidOut S S' r) := by
  obtain ⟨hF, hA, hS, hPl, -⟩ := id h
  obtain ⟨P, t, hP16, ht, eP, et, ePt, e3, e4, e5, e6, hlb, hDe, hPr⟩ := h.b h1
  unfold f_X6_bid
  rw [if_neg (nneg (by omega)), if_pos (show nI x ≤ 5 from nI_le (b := 5) (by omega) (by decide)), if_pos h1]
  unfold f_X6_bid_62
  by_cases x0 : x = 0
  · subst x0
    refine Or.inr ⟨Or.inl rfl, ?_⟩
    rw [if_pos (show nI 0 ≤ 0 by decide), et]
    unfold f_X0_enter
    rw [if_pos (show nI 0 = 0 from rfl), b1s, eP, pas_or P hP16 t ht]
    obtain ⟨r1, r2, r3⟩ := pas_f P hP16 t ht ePt
    have r4 := r3 t ht
    rw [if_pos rfl] at r4
    obtain ⟨r, S', a1, a2, a3, a4⟩ := S_after (D := D) (S := tk_I S 10 (nI (P ||| 2 ^ t))) hF hA hPl h1 r1 ht rfl et e3 e4 e5 e6 (by
      rcases hlb with q | ⟨l, b, l1, l5, b4, el, eb, q⟩
      · exact Or.inl q
      · exact Or.inr ⟨l, b, l1, l5, b4, el, eb, by omega⟩) (Or.inl r4) hDe hPr
    exact ⟨r, S', a1, a2, a3, a4⟩
  · rw [if_neg (show ¬ nI x ≤ 0 from nI_nle (by omega) (by omega))]
    by_cases ql : S.1 11 < nI x
    · refine Or.inr ⟨Or.inr ql, ?_⟩
      rw [if_pos ql, et]
      unfold f_X0_enter
      rw [if_neg (nI_ne0 (by omega) (by omega)), b1s, if_neg x0]
      have p3 : pc P ≤ 3 := by
        have := pas_f P hP16 t ht ePt
        have := (pc4 _ this.1).2
        omega
      obtain ⟨r, S', a1, a2, a3, a4⟩ := S_after (D := D) (S := tk_I (tk_I S 11 (nI x)) 12 (nI t)) hF hA hPl h1 hP16 ht eP et e3 e4 e5 e6 (Or.inr ⟨x, t, by omega, by omega, ht, rfl, rfl, p3⟩) (Or.inr (n1I (by omega))) hDe hPr
      exact ⟨r, S', a1, a2, a3, a4⟩
    · refine Or.inl ⟨by omega, ql, ?_⟩
      rw [if_neg ql]
end
section
/-! call and take -/
theorem own_of {h : Nat → Int64} (hC : Crd h) {p c : Nat} (hp : p < 4) (ht : tb (h p) c = true) : own h c = nI p := by
  have n : ∀ q, q < 4 → q ≠ p → ¬ tb (h q) c = true := fun q hq e e1 => hC.2 q p hq hp e c ⟨e1, ht⟩
  unfold own
  rcases (show p = 0 ∨ p = 1 ∨ p = 2 ∨ p = 3 by omega) with rfl | rfl | rfl | rfl
  · rw [if_pos ht]
  · rw [if_neg (n 0 (by omega) (by omega)), if_pos ht]
  · rw [if_neg (n 0 (by omega) (by omega)), if_neg (n 1 (by omega) (by omega)), if_pos ht]
  · rw [if_neg (n 0 (by omega) (by omega)), if_neg (n 1 (by omega) (by omega)), if_neg (n 2 (by omega) (by omega)), if_pos ht]
theorem S_call {D : Nat} {S : tk_ST} (h : Inv D S) (h1 : S.1 1 = 2) {s : Nat} (hs : s < 4) : ∃ S', f0_X6_call (nI s) S = some (3, S') ∧ Inv D S' ∧ S'.1 4 = nI s ∧ (S'.1 6 = -1 ∨ ∃ q, q < 4 ∧ S'.1 6 = nI q ∧ tb (S'.2.2.2 0 q) (8 * s + 7) = true) ∧ ∀ p, p < 4 → tb (S'.2.2.2 0 p) (8 * s + 7) = true → nI p = S'.1 3 ∨ nI p = S'.1 6 := by
  obtain ⟨hF, hA, hS, hPl, -⟩ := id h
  obtain ⟨l, d, l1, l3, d4, el, ed, hDe, hPr⟩ := h.c h1
  have hC := hPl.1
  have hoo := own_or (S.2.2.2 0) (8 * s + 7)
  have hof : ∀ p, p < 4 → tb (S.2.2.2 0 p) (8 * s + 7) = true → own (S.2.2.2 0) (8 * s + 7) = nI p := fun p hp ht => own_of hC hp ht
  unfold f0_X6_call f_X6_call f_X6_calledKing f_X6_call_74
  rw [if_neg (nneg (by omega)), if_pos (show nI s < 4 from nI_lt hs (by decide)), if_pos h1, b1s, show (tk_I S 4 (nI s)).1 4 = nI s from rfl, e_king hs, e_owner (by omega), b1s, show (tk_I S 4 (nI s)).2.2.2 0 = S.2.2.2 0 from rfl]
  generalize own (S.2.2.2 0) (8 * s + 7) = o at hoo hof
  have ho5 : o = -1 ∨ ∃ q, q < 4 ∧ o = nI q := hoo.imp id fun ⟨q, q1, q2, _⟩ => ⟨q, q1, q2⟩
  by_cases q : o = S.1 3
  · rw [if_pos q, b3s, if_pos rfl]
    refine ⟨_, rfl, ⟨hF, hA, ⟨Or.inr ⟨d, d4, ed⟩, Or.inl rfl, Or.inr ⟨s, hs, rfl⟩, ho5, l, by omega, el, fun _ => l1, fun _ => by omega⟩, hPl, Or.inr (Or.inr (Or.inr (Or.inl ⟨rfl, l, d, l1, by omega, d4, el, ed, hDe, hPr⟩)))⟩, rfl, Or.inl rfl, fun p hp ht => Or.inl ?_⟩
    exact (hof p hp ht).symm.trans q
  · rw [if_neg q, b3s, if_pos rfl]
    refine ⟨_, rfl, ⟨hF, hA, ⟨Or.inr ⟨d, d4, ed⟩, hoo.imp id (fun ⟨x, x1, x2, _⟩ => ⟨x, x1, x2, q, n1I (by omega)⟩), Or.inr ⟨s, hs, rfl⟩, ho5, l, by omega, el, fun _ => l1, fun _ => by omega⟩, hPl, Or.inr (Or.inr (Or.inr (Or.inl ⟨rfl, l, d, l1, by omega, d4, el, ed, hDe, hPr⟩)))⟩, rfl, hoo, fun p hp ht => Or.inr ?_⟩
    exact (hof p hp ht).symm
theorem sum4 {f : Int64 → Nat} {h : Nat → Int64} {d : Nat} (hd : d < 4) (X : Int64) : f (vp_updL h d X 0) + f (vp_updL h d X 1) + f (vp_updL h d X 2) + f (vp_updL h d X 3) + f (h d) = f (h 0) + f (h 1) + f (h 2) + f (h 3) + f X := by
  rcases (show d = 0 ∨ d = 1 ∨ d = 2 ∨ d = 3 by omega) with rfl | rfl | rfl | rfl
  · show f X + f (h 1) + f (h 2) + f (h 3) + f (h 0) = _; omega
  · show f (h 0) + f X + f (h 2) + f (h 3) + f (h 1) = _; omega
  · show f (h 0) + f (h 1) + f X + f (h 3) + f (h 2) = _; omega
  · show f (h 0) + f (h 1) + f (h 2) + f X + f (h 3) = _; omega
theorem S_take {D : Nat} {S : tk_ST} (h : Inv D S) (h5 : S.1 1 = 3) {l d j : Nat} (l1 : 1 ≤ l) (l4 : l ≤ 4) (d4 : d < 4) (el : S.1 11 = nI l) (ed : S.1 3 = nI d) (hj : j < grl l) (hDe : De S) (hPr : Pre D S) : ∃ S', f0_X6_take (nI j) S = some (nI (szl l), S') ∧ Inv D S' ∧ S'.1 3 = nI d ∧ cn (S'.2.2.2 0 d) = 12 + szl l ∧ ¬ S'.1 0 = -1 ∧ ∃ c, c < 54 ∧ S'.2.2.1 0 (48 + j * szl l) = nI c ∧ tb (S'.2.2.2 0 d) c = true := by
  obtain ⟨hF, hA, hS, hPl, -⟩ := id h
  obtain ⟨z0, z4, zg, g0, g6⟩ := e_sz l1 l4
  have hz := gz_le l1 l4 hj
  obtain ⟨⟨v, hv, hi⟩, hcn, hrest⟩ := id hDe
  obtain ⟨e14, e9, p0, p1, hDj, hTot, ⟨f, f4, ef, e13⟩, hB⟩ := hPr
  unfold f0_X6_take f_X6_take f_X6_groupsNow
  rw [if_neg (nneg (by omega)), if_pos h5, el, e_grH l1 l4, b1s, b1s, if_pos (nI_lt hj (by omega)), if_pos h5, e_szH l1 l4, b1s, mul6 j (by omega) _ z4, show (48 : Int32) + nI (j * szl l) = nI (48 + j * szl l) from nI_add 48 _, e_from (by omega), b1s, ed, e_at13 d4, b1s, e_put13 d4, b1s, b3s, if_pos rfl]
  have hTb : ∀ c, tb (orr (S.2.2.1 0) (48 + j * szl l) (szl l)) c = true → c < 54 ∧ tb (S.2.1 1) c = true := by
    intro c hc
    obtain ⟨i, i1, i2⟩ := (tb_orr hv _ (by omega) c).mp hc
    refine ⟨by rw [← i2]; exact (hv _ (by omega)).1, ?_⟩
    rw [hrest, tb_orr hv 6 (by omega)]
    exact ⟨j * szl l + i, by omega, by rw [← Nat.add_assoc]; exact i2⟩
  have hTc : tb (orr (S.2.2.1 0) (48 + j * szl l) (szl l)) (v (48 + j * szl l)) = true := (tb_orr hv _ (by omega) _).mpr ⟨0, z0, rfl⟩
  have hcT : cn (orr (S.2.2.1 0) (48 + j * szl l) (szl l)) = szl l := cn_orr hv hi _ (by omega)
  have hv0 := hv (48 + j * szl l) (by omega)
  generalize orr (S.2.2.1 0) (48 + j * szl l) (szl l) = T at hTb hTc hcT
  obtain ⟨loc, k1, k2, k3, k4⟩ := id hDj
  have hdis : ∀ p, p < 4 → ∀ c, ¬ (tb (S.2.2.2 0 p) c = true ∧ tb T c = true) := fun p hp c ⟨a, b⟩ => by
    have x := (k1 p hp c a).2
    have y := (k3 c (hTb c b).2).2
    omega
  have hDj' : Dj (vp_updL (S.2.2.2 0) d (S.2.2.2 0 d ||| T)) (S.2.1 0) (S.2.1 1 &&& (T ^^^ (-1))) 0 (fun _ => 0) := by
    refine ⟨fun c => if tb T c = true then d else loc c, fun p hp c hc => ?_, fun c hc => ?_, fun c hc => ?_, fun j hj => absurd hj (Nat.not_lt_zero j)⟩
    · rw [updLE] at hc
      by_cases e : p = d
      · subst e
        rw [if_pos rfl, tbO] at hc
        by_cases t : tb T c = true
        · exact ⟨(hTb c t).1, by simp only [if_pos t]⟩
        · have := k1 p hp c (hc.resolve_right t)
          exact ⟨this.1, by simp only [if_neg t]; exact this.2⟩
      · rw [if_neg e] at hc
        have := k1 p hp c hc
        exact ⟨this.1, by simp only [if_neg (fun t => hdis p hp c ⟨hc, t⟩)]; exact this.2⟩
    · have := k2 c hc
      have nt : ¬ tb T c = true := fun t => by
        have y := (k3 c (hTb c t).2).2
        omega
      exact ⟨this.1, by simp only [if_neg nt]; exact this.2⟩
    · rw [tbN] at hc
      have := k3 c hc.1
      exact ⟨this.1, by simp only [if_neg hc.2]; exact this.2⟩
  have hTot' : Tot (vp_updL (S.2.2.2 0) d (S.2.2.2 0 d ||| T)) (S.2.1 0) (S.2.1 1 &&& (T ^^^ (-1))) 0 (fun _ => 0) := by
    unfold Tot at hTot ⊢
    have a1 := sum4 (f := th) (h := S.2.2.2 0) d4 (S.2.2.2 0 d ||| T)
    have a2 := th_or (hdis d d4)
    have a3 := th_sub (x := S.2.1 1) (y := T) (fun c hc => (hTb c hc).2)
    omega
  have hcd : cn (vp_updL (S.2.2.2 0) d (S.2.2.2 0 d ||| T) d) = 12 + szl l := by
    rw [updLE, if_pos rfl, cn_or (hdis d d4), hcn d d4, hcT]
  refine ⟨_, rfl, ⟨hF, hA, hS, ⟨hDj'.crd, hPl.2⟩, Or.inr (Or.inr (Or.inr (Or.inr (Or.inl ⟨rfl, l, d, szl l, l1, l4, d4, el, ed, z0, by omega, rfl, hcd, fun p hp e => ?_, e14, e9, p0, p1, hDj', hTot', ⟨f, f4, ef, e13⟩, hB⟩))))⟩, ed, hcd, ?_, v (48 + j * szl l), hv0.1, hv0.2, ?_⟩
  · show cn (vp_updL (S.2.2.2 0) d _ p) = 12
    rw [updLE, if_neg e]; exact hcn p hp
  · show ¬ S.1 0 = -1
    rw [ef]; exact n1I (by omega)
  · show tb (vp_updL (S.2.2.2 0) d _ d) _ = true
    rw [updLE, if_pos rfl, tbO]; exact Or.inr hTc
end
section
/-! discard and announce -/
theorem less_dj {h : Nat → Int64} {a b : Int64} {z : Nat} {kc : Nat → Nat} (H : Dj h a b z kc) {d c : Nat} (hd : d < 4) (hc : tb (h d) c = true) : Dj (less h d c) (a ||| jb c) b z kc := by
  obtain ⟨loc, k1, k2, k3, k4⟩ := H
  have hc54 := (k1 d hd c hc).1
  have hlc := (k1 d hd c hc).2
  refine ⟨fun x => if x = c then 4 else loc x, fun p hp x hx => ?_, fun x hx => ?_, fun x hx => ?_, fun j hj => ?_⟩
  · obtain ⟨y1, y2⟩ := (less_tb (by omega) p x).mp hx
    have := k1 p hp x y1
    have ne : ¬ x = c := fun e => by
      subst e
      exact y2 ⟨this.2.symm.trans hlc, rfl⟩
    exact ⟨this.1, by simp only [if_neg ne]; exact this.2⟩
  · rw [tbO, tbJ (by omega)] at hx
    by_cases e : x = c
    · subst e; exact ⟨hc54, if_pos rfl⟩
    · have := k2 x (hx.resolve_right (fun q => e q.symm))
      exact ⟨this.1, by simp only [if_neg e]; exact this.2⟩
  · have := k3 x hx
    have ne : ¬ x = c := fun e => by subst e; omega
    exact ⟨this.1, by simp only [if_neg ne]; exact this.2⟩
  · have := k4 j hj
    have ne : ¬ kc j = c := fun e => by rw [e] at this; omega
    exact ⟨this.1, by simp only [if_neg ne]; exact this.2⟩
theorem less_th {h : Nat → Int64} {d c : Nat} (hd : d < 4) (hc : c < 54) (ht : tb (h d) c = true) : th (less h d c 0) + th (less h d c 1) + th (less h d c 2) + th (less h d c 3) + w3 c = th (h 0) + th (h 1) + th (h 2) + th (h 3) := by
  have a1 := sum4 (f := th) (h := h) hd (h d &&& (jb c ^^^ (-1)))
  have a2 := th_rem hc ht
  unfold less
  omega
theorem S_discard {D : Nat} {S : tk_ST} (h : Inv D S) (h5 : S.1 1 = 4) {d c : Nat} (d4 : d < 4) (ed : S.1 3 = nI d) (hc : c < 54) (hh : tb (S.2.2.2 0 d) c = true) : (wo c = 5 ∧ f_X6_discard (nI c) S = some (2, 0, S)) ∨ (¬ wo c = 5 ∧ ∃ t S', f_X6_discard (nI c) S = some (0, nI t, S') ∧ cn (S.2.2.2 0 d) = t + 13 ∧ t < 3 ∧ Inv D S' ∧ S'.1 3 = nI d ∧ S'.2.2.2 0 d = S.2.2.2 0 d &&& (jb c ^^^ (-1)) ∧ (0 < t → S'.1 1 = 4) ∧ (t = 0 → S'.1 1 = 5 ∧ 1 ≤ th (S'.2.2.2 1 0))) := by
  obtain ⟨hF, hA, hS, hPl, -⟩ := id h
  obtain ⟨l, d', t, l1, l4, d5, el, ed', t1, t3, et, cd, co, hPr⟩ := h.d h5
  have hdd : d' = d := (nI_eq (by omega) (by omega)).mp (ed'.symm.trans ed)
  subst hdd
  unfold f_X6_discard f_X6_discard_62
  rw [e_isCard hc, b1s, if_neg n10, if_pos h5, ed, e_at13 d4, b1s, e_holds (by omega), b1s, if_pos hh, if_neg n10]
  have w5 := wo_lt c
  rcases e_layT c hc with ⟨y1, y2⟩ | ⟨y1, y2⟩
  · refine Or.inr ⟨by omega, ?_⟩
    rw [y1, b1s, if_neg n10, show f_X6_only (nI c) = some (jb c) from rfl, b1s, e_put13 d4, b1s, b1s]
    obtain ⟨t', rfl⟩ : ∃ t', t = t' + 1 := ⟨t - 1, by omega⟩
    rw [show (tk_B S 0 (vp_updL (S.2.2.2 0) d' (S.2.2.2 0 d' &&& (jb c ^^^ -1)))).1 7 = nI (t' + 1) from et, nI_pred]
    show ∃ t S', (if nI t' = 0 then (tk_b1 (f_X6_beginPlay (tk_I (tk_L (tk_B S 0 (less (S.2.2.2 0) d' c)) 0 (S.2.1 0 ||| jb c)) 7 (nI t'))) fun S29 => some (0, S29.1 7, S29)) else some (0, nI t', tk_I (tk_L (tk_B S 0 (less (S.2.2.2 0) d' c)) 0 (S.2.1 0 ||| jb c)) 7 (nI t'))) = some (0, nI t, S') ∧ _
    obtain ⟨e14, e9, p0, p1, hDj, hTot, hf, hB⟩ := hPr
    have hcn := less_cn (h := S.2.2.2 0) (d := d') hc hh
    have hDj' := less_dj hDj d4 hh
    have hdisj : ∀ x, ¬ (tb (S.2.1 0) x = true ∧ tb (jb c) x = true) := by
      obtain ⟨loc, k1, k2, -, -⟩ := id hDj
      intro x ⟨a, b⟩
      have e := (tbJ (by omega) x).mp b
      subst e
      have q1 := (k1 d' d4 c hh).2
      have q2 := (k2 c a).2
      omega
    have hTot' : Tot (less (S.2.2.2 0) d' c) (S.2.1 0 ||| jb c) (S.2.1 1) 0 (fun _ => 0) := by
      unfold Tot at hTot ⊢
      have a1 := less_th d4 hc hh
      have a2 := th_or hdisj
      rw [th_jb hc] at a2
      omega
    have hPre' : Pre D (tk_I (tk_L (tk_B S 0 (less (S.2.2.2 0) d' c)) 0 (S.2.1 0 ||| jb c)) 7 (nI t')) := ⟨e14, e9, p0, p1, hDj', hTot', hf, hB⟩
    by_cases q0 : t' = 0
    · subst q0
      rw [if_pos (show nI 0 = 0 from rfl)]
      obtain ⟨B, x1, x2, x3, x4, x5, x6⟩ := S_begin (D := D) (S := tk_I (tk_L (tk_B S 0 (less (S.2.2.2 0) d' c)) 0 (S.2.1 0 ||| jb c)) 7 (nI 0)) hF hA hS l1 (by omega) d4 el ed (fun p hp => by
        show cn (less (S.2.2.2 0) d' c p) = 12
        by_cases e : p = d'
        · subst e; omega
        · rw [less_ne e, co p hp e]) hPre'
      rw [x1, b1s]
      refine ⟨0, B, ?_, by omega, by omega, x2, (x4 3 (by decide) (by decide)).trans ed, ?_, fun e => absurd e (Nat.lt_irrefl 0), fun _ => ⟨x3, ?_⟩⟩
      · rw [x4 7 (by decide) (by decide)]; rfl
      · rw [x5]
        show less (S.2.2.2 0) d' c d' = _
        unfold less
        rw [updLE, if_pos rfl]
      · rw [x6]
        show 1 ≤ th (S.2.1 0 ||| jb c)
        exact th_pos hc (by rw [tbO]; exact Or.inr ((tbJ (by omega) c).mpr rfl))
    · rw [if_neg (nI_ne0 (by omega) (by omega))]
      refine ⟨t', _, rfl, by omega, by omega, ⟨hF, hA, hS, ⟨hDj'.crd, hPl.2⟩, Or.inr (Or.inr (Or.inr (Or.inr (Or.inl ⟨h5, l, d', t', l1, l4, d4, el, ed, by omega, by omega, rfl, ?_, fun p hp e => ?_, hPre'⟩))))⟩, ed, ?_, fun _ => h5, fun e => absurd e q0⟩
      · show cn (less (S.2.2.2 0) d' c d') = _
        omega
      · show cn (less (S.2.2.2 0) d' c p) = _
        rw [less_ne e, co p hp e]
      · show less (S.2.2.2 0) d' c d' = _
        unfold less
        rw [updLE, if_pos rfl]
  · refine Or.inl ⟨by omega, ?_⟩
    rw [y1, b1s, if_pos rfl]
theorem b2_t (b0 b1 j : Nat) (h0 : b0 < 2) (h1 : b1 < 2) (hj : j < 2) (q : (if j = 0 then b0 else b1) = 0) : (if j = 0 then 1 else b0) + (if j = 0 then b1 else 1) ≤ 2 := by
  split <;> omega
theorem S_announce {D : Nat} {S : tk_ST} (h : Inv D S) (h5 : S.1 1 = 5) {j : Nat} (hj : j < 2) : f_X6_announce (nI j) S = some (2, 0, S) ∨ ∃ r S', f_X6_announce (nI j) S = some (0, nI r, S') ∧ r ≤ 2 ∧ Inv D S' ∧ S.1 9 = 0 ∧ S.1 14 = 0 ∧ (j = 1 → ¬ (4 : Int32) ≤ S.1 11) ∧ f_X6_announce (nI j) S' = some (2, 0, S') ∧ S'.1 1 = 5 := by
  obtain ⟨hF, ⟨b0, b1, hb0, hb1, eb⟩, hS, hPl, hPh⟩ := id h
  obtain ⟨l, d, L, z, T, kc, hP⟩ := h.p h5
  obtain ⟨l1, l5, d4, L4, z4, T12, el, ed, eL, ez, eT, et, -⟩ := id hP
  by_cases qq : T = 0 ∧ z = 0 ∧ (if j = 0 then b0 else b1) = 0 ∧ (j = 1 → l ≤ 3)
  · obtain ⟨qT, qz, qb, ql⟩ := qq
    subst qT; subst qz
    refine Or.inr ⟨(if j = 0 then 1 else b0) + (if j = 0 then b1 else 1), tk_I S 8 (nI ((if j = 0 then 1 else b0) + 2 * (if j = 0 then b1 else 1))), ?_, b2_t b0 b1 j hb0 hb1 hj qb, ⟨hF, ⟨if j = 0 then 1 else b0, if j = 0 then b1 else 1, by split <;> omega, by split <;> omega, rfl⟩, hS, hPl, hPh⟩, eT, ez, fun e => ?_, ?_, h5⟩
    · unfold f_X6_announce
      rw [if_neg (nneg (by omega)), if_pos (show nI j < 2 from nI_lt hj (by decide)), if_pos h5, eT, if_neg (show ¬ 0 < nI 0 by decide), ez, if_pos (show nI 0 ≤ 0 by decide), e_ann hb0 hb1 hj eb, b1s, if_pos (show nI (if j = 0 then b0 else b1) = 0 by rw [qb]; rfl)]
      by_cases j1 : j = 1
      · rw [if_pos (show nI j = 1 by rw [j1]; rfl), el, if_pos (show nI l ≤ 3 from nI_le (ql j1) (by decide))]
        exact e_ann98 hb0 hb1 hj eb
      · rw [if_neg (show ¬ nI j = 1 from fun e => j1 ((nI_eq (b := 1) (by omega) (by decide)).mp e))]
        exact e_ann98 hb0 hb1 hj eb
    · rw [el]; exact nI_ge (b := 4) (by have := ql e; omega) (by decide)
    · have e8 : (tk_I S 8 (nI ((if j = 0 then 1 else b0) + 2 * (if j = 0 then b1 else 1)))).1 8 = nI ((if j = 0 then 1 else b0) + 2 * (if j = 0 then b1 else 1)) := rfl
      have ea := e_ann (j := j) (show (if j = 0 then 1 else b0) < 2 by split <;> omega) (show (if j = 0 then b1 else 1) < 2 by split <;> omega) hj e8
      unfold f_X6_announce
      rw [if_neg (nneg (by omega)), if_pos (show nI j < 2 from nI_lt hj (by decide)), if_pos (show (tk_I S 8 (nI ((if j = 0 then 1 else b0) + 2 * (if j = 0 then b1 else 1)))).1 1 = 5 from h5), show (tk_I S 8 (nI ((if j = 0 then 1 else b0) + 2 * (if j = 0 then b1 else 1)))).1 9 = nI 0 from eT, if_neg (show ¬ 0 < nI 0 by decide), show (tk_I S 8 (nI ((if j = 0 then 1 else b0) + 2 * (if j = 0 then b1 else 1)))).1 14 = nI 0 from ez, if_pos (show nI 0 ≤ 0 by decide), ea, b1s, if_neg ?_]
      rcases (show j = 0 ∨ j = 1 by omega) with rfl | rfl
      · exact n10
      · exact n10
  · refine Or.inl ?_
    unfold f_X6_announce f_X6_announce_44
    rw [if_neg (nneg (by omega)), if_pos (show nI j < 2 from nI_lt hj (by decide)), if_pos h5, eT]
    by_cases qT : T = 0
    · subst qT
      rw [if_neg (show ¬ 0 < nI 0 by decide), ez]
      by_cases qz : z = 0
      · subst qz
        rw [if_pos (show nI 0 ≤ 0 by decide), e_ann hb0 hb1 hj eb, b1s]
        by_cases qb : (if j = 0 then b0 else b1) = 0
        · rw [if_pos (show nI (if j = 0 then b0 else b1) = 0 by rw [qb]; rfl)]
          have ql : ¬ (j = 1 → l ≤ 3) := fun e => qq ⟨rfl, rfl, qb, e⟩
          have j1 : j = 1 := Classical.byContradiction fun e => ql (fun e' => absurd e' e)
          have l3 : ¬ l ≤ 3 := fun e => ql (fun _ => e)
          rw [if_pos (show nI j = 1 by rw [j1]; rfl), el, if_neg (show ¬ nI l ≤ 3 from nI_ge (a := 3) (by omega) (by omega))]
        · rw [if_neg (nI_ne0 (by omega) (by split <;> omega))]
      · rw [if_neg (show ¬ nI z ≤ 0 from nI_nle (by omega) (by omega))]
    · rw [if_pos (show (0 : Int32) < nI T from nI_lt (a := 0) (by omega) (by omega))]
end
section
/-! the end of a deal -/
def P5 (v : Int32) : Prop := v = 0 ∨ v = 25 ∨ v = -25 ∨ v = 50 ∨ v = -50
def K5 (v : Int32) : Prop := v = 0 ∨ v = 10 ∨ v = -10 ∨ v = 20 ∨ v = -20
theorem P5_pag (b0 : Nat) (x k z : Int32) : P5 (if b0 = 0 then (if x = -1 then 0 else if k = z then 25 else -25) else (if k = 0 then -50 else if z = 0 then -50 else 50)) := by
  unfold P5
  by_cases h0 : b0 = 0
  · rw [if_pos h0]
    by_cases h1 : x = -1
    · rw [if_pos h1]; exact Or.inl rfl
    · rw [if_neg h1]
      by_cases h2 : k = z
      · rw [if_pos h2]; exact Or.inr (Or.inl rfl)
      · rw [if_neg h2]; exact Or.inr (Or.inr (Or.inl rfl))
  · rw [if_neg h0]
    by_cases h1 : k = 0
    · rw [if_pos h1]; exact Or.inr (Or.inr (Or.inr (Or.inr rfl)))
    · rw [if_neg h1]
      by_cases h2 : z = 0
      · rw [if_pos h2]; exact Or.inr (Or.inr (Or.inr (Or.inr rfl)))
      · rw [if_neg h2]; exact Or.inr (Or.inr (Or.inr (Or.inl rfl)))
theorem K5_kin (b1 : Nat) (x k : Int32) : K5 (if b1 = 0 then (if x = 0 then 0 else if k = 0 then -10 else 10) else (if k = 0 then -20 else 20)) := by
  unfold K5
  by_cases h0 : b1 = 0
  · rw [if_pos h0]
    by_cases h1 : x = 0
    · rw [if_pos h1]; exact Or.inl rfl
    · rw [if_neg h1]
      by_cases h2 : k = 0
      · rw [if_pos h2]; exact Or.inr (Or.inr (Or.inl rfl))
      · rw [if_neg h2]; exact Or.inr (Or.inl rfl)
  · rw [if_neg h0]
    by_cases h1 : k = 0
    · rw [if_pos h1]; exact Or.inr (Or.inr (Or.inr (Or.inr rfl)))
    · rw [if_neg h1]; exact Or.inr (Or.inr (Or.inr (Or.inl rfl)))
theorem S_pagat {S : tk_ST} {kc : Nat → Nat} {L b0 b1 : Nat} (hL : L < 4) (eL : S.1 13 = nI L) (hk : Trk (S.2.2.1 1) kc) (e : S.1 14 = nI 4) (h0 : b0 < 2) (h1 : b1 < 2) (eb : S.1 8 = nI (b0 + 2 * b1)) (w : Int32) : ∃ v, f_X6_pagatPoints w S = some v ∧ P5 v := by
  have hp : f_X5_playerOf (32 : Int32) S = some (if fnd kc 32 < 4 then nI ((L + fnd kc 32) % 4) else -1) := e_plOf hL eL hk e (by decide)
  unfold f_X6_pagatPoints
  rw [hp, b1s]
  generalize (if fnd kc 32 < 4 then nI ((L + fnd kc 32) % 4) else -1) = x
  have key : ∀ k : Int32, ∃ v, f_X6_pagatPoints_20 x k S = some v ∧ P5 v := by
    intro k
    refine ⟨_, e_pag20 h0 h1 eb x k, ?_⟩
    exact P5_pag b0 x k _
  by_cases q : x = w
  · rw [if_pos q]; exact key 1
  · rw [if_neg q]; exact key 0
theorem S_king {S : tk_ST} {kc : Nat → Nat} {L b0 b1 : Nat} (hL : L < 4) (eL : S.1 13 = nI L) (hk : Trk (S.2.2.1 1) kc) (e : S.1 14 = nI 4) (h0 : b0 < 2) (h1 : b1 < 2) (eb : S.1 8 = nI (b0 + 2 * b1)) (hs : S.1 4 = -1 ∨ ∃ s, s < 4 ∧ S.1 4 = nI s) (w : Int32) : ∃ v, f_X6_kingPoints w S = some v ∧ K5 v := by
  have key : ∀ x k : Int32, ∃ v, f_X6_kingPoints_46 x k S = some v ∧ K5 v := by
    intro x k
    refine ⟨_, e_kin46 h0 h1 eb x k, ?_⟩
    exact K5_kin b1 x k
  have k28 : ∀ k : Int32, ∃ v, f_X6_kingPoints_28 w k S = some v ∧ K5 v := by
    intro k
    unfold f_X6_kingPoints_28 f_X6_kingPoints_45
    by_cases q : k = 0
    · rw [if_pos q]; exact key _ _
    · rw [if_neg q, e_side, b1s]
      by_cases r : sd w (S.1 3) (S.1 6) = 0
      · rw [if_pos r]; exact key _ _
      · rw [if_neg r]; exact key _ _
  unfold f_X6_kingPoints f_X6_kingPoints_27
  rcases hs with hs | ⟨s, s4, es⟩
  · rw [if_pos hs]; exact k28 0
  · have hn : ¬ S.1 4 = -1 := by rw [es]; exact n1I (by omega)
    unfold f_X6_calledKing
    rw [if_neg hn, es, e_king s4, b1s, e_plOf hL eL hk e (by omega), b1s]
    generalize (if fnd kc (8 * s + 7) < 4 then nI ((L + fnd kc (8 * s + 7)) % 4) else -1) = x
    by_cases q : x = -1
    · rw [if_pos q]; exact k28 0
    · rw [if_neg q]; exact k28 1
/-- what the game counts, as the law has it -/
def gmL (l t : Nat) : Int32 :=
  if t ≤ 105 then -((if l = 5 then 0 else ((105 : Int32) - nI t) / 3) + (if l = 4 then 50 else if l = 5 then 80 else (10 : Int32) * nI l))
  else (if l = 5 then 0 else (nI t - (105 : Int32)) / 3) + (if l = 4 then 50 else if l = 5 then 80 else (10 : Int32) * nI l)
theorem e_gm : ∀ l, l < 6 → 1 ≤ l → ∀ t, t < 211 → f_X6_gamePoints (nI l) (nI t) = some (gmL l t) := by decide +kernel
def Scd (S : tk_ST) : Prop := ∃ (d t l : Nat) (v1 v2 : Int32), d < 4 ∧ t ≤ 210 ∧ 1 ≤ l ∧ l ≤ 5 ∧ S.1 3 = nI d ∧ S.1 11 = nI l ∧ t = th (S.2.2.2 1 0) ∧ P5 v1 ∧ K5 v2 ∧ S.1 15 = resR (fun j => S.2.2.1 4 (4 + j)) d ((gmL l t + v1) + v2) ∧ (∀ p, p < 4 → S.2.2.1 2 p = S.2.2.1 4 p + (if sd (nI p) (nI d) (S.1 6) = 0 then S.1 15 else 0)) ∧ (∀ p, p < 4 → S.2.2.1 3 p = resA (fun j => S.2.2.1 4 (4 + j)) d t p + (if l ≤ 3 then 0 else 1)) ∧ ∃ n, n < 2 ^ 30 ∧ S.2.2.1 4 (4 + d) = nI n
theorem S_final {S : tk_ST} {d t l : Nat} (hd : d < 4) (ht : t ≤ 210) (l1 : 1 ≤ l) (l5 : l ≤ 5) (ed : S.1 3 = nI d) (hq : S.1 6 = -1 ∨ ∃ q', q' < 4 ∧ S.1 6 = nI q' ∧ S.1 6 ≠ S.1 3) (el : S.1 11 = nI l) (hth : f_X6_thirdsOf (S.2.2.2 1 0) = some (nI t)) {w v1 v2 : Int32} (h1 : f_X6_pagatPoints w S = some v1) (h2 : f_X6_kingPoints w S = some v2) :
    ∃ S', f_X6_enterResult w S = some S' ∧ (∀ i, i ≠ 15 → S'.1 i = S.1 i) ∧ Same S S' 2 3 ∧ S'.1 15 = resR (S.2.2.1 3) d ((gmL l t + v1) + v2) ∧ S'.2.2.1 2 = plus (S.2.2.1 2) (nI d) (S.1 6) (S'.1 15) ∧ ∀ j, j < 4 → S'.2.2.1 3 j = resA (S.2.2.1 3) d t j + (if l ≤ 3 then 0 else 1) := by
  have hg := e_gm l (by omega) l1 t (by omega)
  obtain ⟨Y, y1, y2, y3, y4, y5⟩ := e_enter hd (show t ≤ 702 by omega) (S.1 6) ((gmL l t + v1) + v2) S
  obtain ⟨Z, z1, z2, z3, z4⟩ := e_62 hd (q := S.1 6) (hq.imp id fun ⟨q', a, b, c⟩ => ⟨q', a, b, fun e => c (e.trans ed.symm)⟩) Y
  have hS : f_X6_enterResult w S = (if nI l ≤ 3 then some Z else (tk_b1 (f_X4_giveRadli Z) fun S25 => some S25)) := by
    unfold f_X6_enterResult
    rw [show f_X3_at_p15 (0 : Int32) S = some (S.2.2.2 1 0) from e_at15 (j := 0) (by decide) S, b1s, hth, b1s, el, hg, b1s, h1, b1s, h2, b1s, e_won (show t ≤ 702 by omega), b1s, ed, y1, z1, b1s]
  have hZS : ∀ i, i ≠ 15 → Z.1 i = S.1 i := fun i hi => by rw [z2]; exact y3 i hi
  have z15 : Z.1 15 = resR (S.2.2.1 3) d ((gmL l t + v1) + v2) := by rw [z2]; exact y2
  have zsc : Z.2.2.1 2 = plus (S.2.2.1 2) (nI d) (S.1 6) (Z.1 15) := by
    rw [z4, y4.2.2 2 (by decide) (by decide), z2]
  have zra : Z.2.2.1 3 = resA (S.2.2.1 3) d t := by
    rw [z3.2.2 3 (by decide) (by decide), y5]
  have hSm : Same S Z 2 3 := ⟨z3.1.trans y4.1, z3.2.1.trans y4.2.1, fun j h1 h2 => (z3.2.2 j h1 h1).trans (y4.2.2 j h2 h2)⟩
  by_cases q : l ≤ 3
  · rw [if_pos (show nI l ≤ 3 from nI_le (b := 3) q (by decide))] at hS
    refine ⟨Z, hS, hZS, hSm, z15, zsc, fun j hj => ?_⟩
    rw [zra, if_pos q, Int32.add_zero]
  · rw [if_neg (show ¬ nI l ≤ 3 from nI_ge (a := 3) (by omega) (by omega))] at hS
    obtain ⟨G, g1, g2, g3, g4⟩ := e_give Z
    rw [g1, b1s] at hS
    refine ⟨G, hS, fun i hi => by rw [g2]; exact hZS i hi, ⟨g3.1.trans hSm.1, g3.2.1.trans hSm.2.1, fun j h1 h2 => (g3.2.2 j h2 h2).trans (hSm.2.2 j h1 h2)⟩, by rw [g2]; exact z15, ?_, fun j hj => ?_⟩
    · rw [g3.2.2 2 (by decide) (by decide), g2]; exact zsc
    · rw [g4, zra, if_neg q]
      show _ + (if j < 4 then (1 : Int32) else 0) = _
      rw [if_pos hj]
end
section
/-! a card is played -/
def kz (kc : Nat → Nat) (z c : Nat) : Nat → Nat := fun i => if i = z then c else kc i
theorem trS_congr {k k' : Nat → Nat} : ∀ n, (∀ i, i < n → k i = k' i) → trS k n = trS k' n
  | 0, _ => rfl
  | n + 1, h => by
    show trS k n + w3 (k n) = trS k' n + w3 (k' n)
    rw [trS_congr n (fun i hi => h i (by omega)), h n (by omega)]
theorem tb_orT {f : Nat → Int32} {kc : Nat → Nat} : ∀ n, (∀ i, i < n → kc i < 54 ∧ f i = nI (kc i)) → ∀ c, tb (orr f 0 n) c = true ↔ ∃ i, i < n ∧ kc i = c
  | 0, _, c => ⟨fun e => absurd e (tbZ c), fun ⟨i, hi, _⟩ => absurd hi (Nat.not_lt_zero i)⟩
  | n + 1, h, c => by
    show tb (orr f 0 n ||| jbI (f (0 + n))) c = true ↔ _
    have hc := h n (by omega)
    rw [Nat.zero_add, hc.2, jbI_nI, tbO, tb_orT n (fun i hi => h i (by omega)) c, tbJ (by omega)]
    constructor
    · rintro (⟨i, hi, e⟩ | e)
      · exact ⟨i, by omega, e⟩
      · exact ⟨n, by omega, e⟩
    · rintro ⟨i, hi, e⟩
      by_cases q : i = n
      · subst q; exact Or.inr e
      · exact Or.inl ⟨i, by omega, e⟩
theorem th_orT {f : Nat → Int32} {kc : Nat → Nat} : ∀ n, (∀ i, i < n → kc i < 54 ∧ f i = nI (kc i)) → (∀ i j, i < n → j < n → kc i = kc j → i = j) → th (orr f 0 n) = trS kc n
  | 0, _, _ => th_zero
  | n + 1, h, hi => by
    show th (orr f 0 n ||| jbI (f (0 + n))) = trS kc n + w3 (kc n)
    have hc := h n (by omega)
    rw [Nat.zero_add, hc.2, jbI_nI, th_or, th_orT n (fun i hi => h i (by omega)) (fun i j h1 h2 => hi i j (by omega) (by omega)), th_jb hc.1]
    intro c
    rw [tb_orT n (fun i hi => h i (by omega)), tbJ (by omega)]
    rintro ⟨⟨i, h1, h2⟩, h3⟩
    have := hi i n (by omega) (by omega) (h2.trans h3.symm)
    omega
theorem Sd.eq {S S' : tk_ST} (h3 : S'.1 3 = S.1 3) (h4 : S'.1 4 = S.1 4) (h5 : S'.1 5 = S.1 5) (h6 : S'.1 6 = S.1 6) (h11 : S'.1 11 = S.1 11) (h : Sd S) : Sd S' := by
  unfold Sd
  rw [h3, h4, h5, h6, h11]
  exact h
theorem An.eq {S S' : tk_ST} (e : S'.1 8 = S.1 8) (h : An S) : An S' := by
  unfold An; rw [e]; exact h
theorem Fo.eq {D : Nat} {S S' : tk_ST} (e : S'.1 0 = S.1 0) (h : Fo D S) : Fo D S' := by
  unfold Fo; rw [e]; exact h
/-- the card goes into the trick -/
theorem card_dj {h : Nat → Int64} {a b : Int64} {z : Nat} {kc : Nat → Nat} (H : Dj h a b z kc) {t c : Nat} (ht : t < 4) (hc : tb (h t) c = true) : Dj (less h t c) a b (z + 1) (kz kc z c) := by
  obtain ⟨loc, k1, k2, k3, k4⟩ := H
  have hc54 := (k1 t ht c hc).1
  have hlc := (k1 t ht c hc).2
  refine ⟨fun x => if x = c then 6 + z else loc x, fun p hp x hx => ?_, fun x hx => ?_, fun x hx => ?_, fun j hj => ?_⟩
  · obtain ⟨y1, y2⟩ := (less_tb (by omega) p x).mp hx
    have := k1 p hp x y1
    have ne : ¬ x = c := fun e => by
      subst e
      exact y2 ⟨this.2.symm.trans hlc, rfl⟩
    exact ⟨this.1, by simp only [if_neg ne]; exact this.2⟩
  · have := k2 x hx
    have ne : ¬ x = c := fun e => by subst e; omega
    exact ⟨this.1, by simp only [if_neg ne]; exact this.2⟩
  · have := k3 x hx
    have ne : ¬ x = c := fun e => by subst e; omega
    exact ⟨this.1, by simp only [if_neg ne]; exact this.2⟩
  · unfold kz
    by_cases e : j = z
    · subst e
      have e0 : (if j = j then c else kc j) = c := if_pos rfl
      rw [e0]
      exact ⟨hc54, if_pos rfl⟩
    · have := k4 j (by omega)
      have ne : ¬ kc j = c := fun q => by rw [q] at this; omega
      simp only [if_neg e, if_neg ne]
      exact this
/-- the trick goes onto a pile -/
theorem pile_dj {h w : Nat → Int64} {z : Nat} {kc : Nat → Nat} (H : Dj h (w 0) (w 1) z kc) {tr : Int64} (htr : ∀ x, tb tr x = true ↔ ∃ i, i < z ∧ kc i = x) {s : Nat} (hs : s < 2) {v : Nat → Int64} (hv : ∀ q, v q = if q = s then w q ||| tr else w q) (k' : Nat → Nat) : Dj h (v 0) (v 1) 0 k' := by
  obtain ⟨loc, k1, k2, k3, k4⟩ := H
  have tl : ∀ x, tb tr x = true → x < 54 ∧ 6 ≤ loc x := fun x hx => by
    obtain ⟨i, i1, i2⟩ := (htr x).mp hx
    have := k4 i i1
    rw [i2] at this
    exact ⟨this.1, by omega⟩
  have pl : ∀ q, q < 2 → ∀ x, tb (w q) x = true → x < 54 ∧ loc x = 4 + q := fun q hq x hx => by
    rcases (show q = 0 ∨ q = 1 by omega) with rfl | rfl
    · exact k2 x hx
    · exact k3 x hx
  have vl : ∀ q, q < 2 → ∀ x, tb (v q) x = true → x < 54 ∧ (if tb tr x = true then 4 + s else loc x) = 4 + q := by
    intro q hq x hx
    rw [hv] at hx
    by_cases e : q = s
    · subst e
      rw [if_pos rfl, tbO] at hx
      by_cases t : tb tr x = true
      · exact ⟨(tl x t).1, if_pos t⟩
      · have := pl q hq x (hx.resolve_right t)
        exact ⟨this.1, by rw [if_neg t]; exact this.2⟩
    · rw [if_neg e] at hx
      have := pl q hq x hx
      have t : ¬ tb tr x = true := fun y => by
        have := (tl x y).2
        omega
      exact ⟨this.1, by rw [if_neg t]; exact this.2⟩
  refine ⟨fun x => if tb tr x = true then 4 + s else loc x, fun p hp x hx => ?_, vl 0 (by omega), vl 1 (by omega), fun j hj => absurd hj (Nat.not_lt_zero j)⟩
  have := k1 p hp x hx
  have t : ¬ tb tr x = true := fun y => by
    have := (tl x y).2
    omega
  exact ⟨this.1, by simp only [if_neg t]; exact this.2⟩
theorem pile_th {h w : Nat → Int64} {z : Nat} {kc : Nat → Nat} (H : Dj h (w 0) (w 1) z kc) {tr : Int64} (htr : ∀ x, tb tr x = true ↔ ∃ i, i < z ∧ kc i = x) {s : Nat} (hs : s < 2) {v : Nat → Int64} (hv : ∀ q, v q = if q = s then w q ||| tr else w q) : th (v 0) + th (v 1) = th (w 0) + th (w 1) + th tr := by
  obtain ⟨loc, k1, k2, k3, k4⟩ := H
  have tl : ∀ x, tb tr x = true → 6 ≤ loc x := fun x hx => by
    obtain ⟨i, i1, i2⟩ := (htr x).mp hx
    have := k4 i i1
    rw [i2] at this
    omega
  have a0 : th (w 0 ||| tr) = th (w 0) + th tr := th_or (fun x ⟨a, b⟩ => by have := tl x b; have := (k2 x a).2; omega)
  have a1 : th (w 1 ||| tr) = th (w 1) + th tr := th_or (fun x ⟨a, b⟩ => by have := tl x b; have := (k3 x a).2; omega)
  rw [hv 0, hv 1]
  rcases (show s = 0 ∨ s = 1 by omega) with rfl | rfl
  · rw [if_pos rfl, if_neg (by decide)]; omega
  · rw [if_neg (by decide), if_pos rfl]; omega
theorem resR_c {f g : Nat → Int32} {d : Nat} (e : f d = g d) (p : Int32) : resR f d p = resR g d p := by
  unfold resR; rw [e]
theorem resA_c {f g : Nat → Int32} {d t j : Nat} (e : f d = g d) (e2 : f j = g j) : resA f d t j = resA g d t j := by
  unfold resA
  rw [e]
  by_cases a : g d ≤ 0
  · rw [if_pos a, if_pos a]; exact e2
  · rw [if_neg a, if_neg a]
    by_cases b : t ≤ 105
    · rw [if_pos b, if_pos b]; exact e2
    · rw [if_neg b, if_neg b, updE, updE, e2]
theorem resA_n {f : Nat → Int32} {d t j n m : Nat} (ed : f d = nI n) (ej : f j = nI m) (hn : n < 2 ^ 30) : ∃ k, k ≤ m ∧ resA f d t j = nI k := by
  unfold resA
  by_cases a : f d ≤ 0
  · rw [if_pos a]; exact ⟨m, by omega, ej⟩
  · rw [if_neg a]
    by_cases b : t ≤ 105
    · rw [if_pos b]; exact ⟨m, by omega, ej⟩
    · rw [if_neg b, updE]
      by_cases e : j = d
      · subst e
        have n0 : 0 < n := by
          by_cases q : n = 0
          · subst q; rw [ed] at a; exact absurd (by decide) a
          · omega
        rw [if_pos rfl, ed]
        obtain ⟨n', rfl⟩ : ∃ n', n = n' + 1 := ⟨n - 1, by omega⟩
        have e2 : nI (n' + 1) = nI m := ed.symm.trans ej
        rw [nI_pred]
        by_cases hm2 : m < 2 ^ 31
        · have := (nI_eq (by omega) hm2).mp e2
          exact ⟨n', by omega, rfl⟩
        · exact ⟨n', by omega, rfl⟩
      · rw [if_neg e]; exact ⟨m, by omega, ej⟩
end
section
/-! a card is played: the whole of it -/
def Car (D l d L z T : Nat) (kc : Nat → Nat) (c : Nat) (S S' : tk_ST) (r : Int32) : Prop :=
  Inv D S' ∧ S'.2.2.2 0 = less (S.2.2.2 0) ((L + z) % 4) c ∧
  (z < 3 → r = -1 ∧ S'.1 14 = nI (z + 1) ∧ S'.2.2.1 1 z = nI c ∧ S'.1 2 = nI ((L + z + 1) % 4)) ∧
  (z = 3 → r = nI ((L + bst (kz kc 3 c)) % 4) ∧ S'.1 9 = nI (T + 1) ∧ S'.1 14 = 0 ∧ S'.1 2 = (if T = 11 then -1 else r) ∧ th (S'.2.2.2 1 0) + th (S'.2.2.2 1 1) = th (S.2.2.2 1 0) + th (S.2.2.2 1 1) + trS (kz kc 3 c) 4) ∧
  ((S'.1 1 = 5 ∧ ∃ (L' z' T' : Nat) (kc' : Nat → Nat), PlX D l d L' z' T' kc' S' ∧ 48 - 4 * T' - z' + 1 = 48 - 4 * T - z) ∨ (S'.1 1 = 0 ∧ 48 - 4 * T - z = 1 ∧ Scd S'))
theorem S_card {D : Nat} {S : tk_ST} (h : Inv D S) (hD : D < 2 ^ 29) (h5 : S.1 1 = 5) {l d L z T : Nat} {kc : Nat → Nat} (hP : PlX D l d L z T kc S) {c : Nat} (hc : c < 54) (hh : tb (S.2.2.2 0 ((L + z) % 4)) c = true) : ∃ r S', f_X6_addToTrick (nI c) S = some (r, S') ∧ Car D l d L z T kc c S S' r := by
  obtain ⟨hF, hA, hS, hPl, -⟩ := id h
  obtain ⟨l1, l5, d4, L4, z4, T12, el, ed, eL, ez, eT, et, hcn, hkc, hDj, hTot, hB⟩ := id hP
  have ht : (L + z) % 4 < 4 := Nat.mod_lt _ (by decide)
  have hcn' := cn_play L4 z4 T12 hc rfl hh hcn
  have hDj' := card_dj hDj ht hh
  have hth := less_th ht hc hh
  have hkc' : ∀ j, j < z + 1 → upd (S.2.2.1 1) z (nI c) j = nI (kz kc z c j) := by
    intro j hj
    unfold kz
    rw [updE]
    by_cases e : j = z
    · rw [if_pos e, if_pos e]
    · rw [if_neg e, if_neg e]; exact hkc j (by omega)
  have htr : trS (kz kc z c) (z + 1) = trS kc z + w3 c := by
    show trS (kz kc z c) z + w3 (kz kc z c z) = _
    rw [trS_congr z (fun i hi => show kz kc z c i = kc i from if_neg (by omega))]
    unfold kz
    rw [if_pos rfl]
  have hTot' : Tot (less (S.2.2.2 0) ((L + z) % 4) c) (S.2.2.2 1 0) (S.2.2.2 1 1) (z + 1) (kz kc z c) := by
    unfold Tot at hTot ⊢
    omega
  rw [e_first ht z4 et ez]
  by_cases qz : z < 3
  · show ∃ r S', (if (4 : Int32) ≤ nI (z + 1) then _ else _) = some (r, S') ∧ _
    rw [if_neg (show ¬ (4 : Int32) ≤ nI (z + 1) from nI_ge (b := 4) (by omega) (by decide))]
    have e2 : ((L + z) % 4 + 1) % 4 = (L + z + 1) % 4 := by omega
    have hX : PlX D l d L (z + 1) T (kz kc z c) (tk_I (tk_I (tk_A (tk_B S 0 (less (S.2.2.2 0) ((L + z) % 4) c)) 1 (upd (S.2.2.1 1) z (nI c))) 14 (nI (z + 1))) 2 (nI (((L + z) % 4 + 1) % 4))) := by
      refine ⟨l1, l5, d4, L4, by omega, T12, el, ed, eL, rfl, eT, ?_, hcn', hkc', hDj', hTot', hB⟩
      show nI (((L + z) % 4 + 1) % 4) = nI ((L + (z + 1)) % 4)
      rw [e2]; rfl
    refine ⟨-1, _, rfl, ⟨hF, hA, hS, ⟨hDj'.crd, hPl.2⟩, Or.inr (Or.inr (Or.inr (Or.inr (Or.inr ⟨h5, l, d, L, z + 1, T, _, hX⟩))))⟩, rfl, fun _ => ⟨rfl, rfl, ?_, ?_⟩, fun e => absurd e (by omega), Or.inl ⟨h5, L, z + 1, T, _, hX, by omega⟩⟩
    · show upd (S.2.2.1 1) z (nI c) z = nI c
      rw [updE, if_pos rfl]
    · show nI (((L + z) % 4 + 1) % 4) = _
      rw [e2]
  · obtain rfl : z = 3 := by omega
    have hk54 : ∀ i, i < 4 → kz kc 3 c i < 54 := by
      obtain ⟨loc, -, -, -, k4⟩ := id hDj'
      exact fun i hi => (k4 i hi).1
    have hinj : ∀ i j, i < 4 → j < 4 → kz kc 3 c i = kz kc 3 c j → i = j := by
      obtain ⟨loc, -, -, -, k4⟩ := id hDj'
      intro i j hi hj e
      have a := (k4 i hi).2
      have b := (k4 j hj).2
      rw [e] at a
      omega
    generalize hkk : kz kc 3 c = kk at hkc' htr hTot' hDj' hk54 hinj
    generalize hf : upd (S.2.2.1 1) 3 (nI c) = f at hkc'
    have hkT : Trk f kk := fun i hi => ⟨hk54 i hi, hkc' i hi⟩
    generalize hg : less (S.2.2.2 0) ((L + 3) % 4) c = hs at hcn' hDj' hTot'
    have hB4 := bst_lt kk
    have w4 : (L + bst kk) % 4 < 4 := Nat.mod_lt _ (by decide)
    show ∃ r S', (if (4 : Int32) ≤ nI (3 + 1) then _ else _) = some (r, S') ∧ _
    rw [if_pos (show (4 : Int32) ≤ nI (3 + 1) by decide)]
    rw [e_win (S := tk_I (tk_A (tk_B S 0 hs) 1 f) 14 (nI (3 + 1))) L4 eL hkT rfl, b1s, e_endTrick (S := tk_I (tk_A (tk_B S 0 hs) 1 f) 14 (nI (3 + 1))) (T := T) rfl eT]
    generalize hw : (L + bst kk) % 4 = w at w4
    show ∃ r S', (tk_b1 (if nI (T + 1) = 12 then _ else _) _) = some (r, S') ∧ _
    generalize hY : tk_B (tk_I (tk_A (tk_B S 0 hs) 1 f) 14 (nI (3 + 1))) 1 (vp_updL ((tk_I (tk_A (tk_B S 0 hs) 1 f) 14 (nI (3 + 1))).2.2.2 1) (sn (sd (nI w) ((tk_I (tk_A (tk_B S 0 hs) 1 f) 14 (nI (3 + 1))).1 3) ((tk_I (tk_A (tk_B S 0 hs) 1 f) 14 (nI (3 + 1))).1 6))) ((tk_I (tk_A (tk_B S 0 hs) 1 f) 14 (nI (3 + 1))).2.2.2 1 (sn (sd (nI w) ((tk_I (tk_A (tk_B S 0 hs) 1 f) 14 (nI (3 + 1))).1 3) ((tk_I (tk_A (tk_B S 0 hs) 1 f) 14 (nI (3 + 1))).1 6))) ||| orr ((tk_I (tk_A (tk_B S 0 hs) 1 f) 14 (nI (3 + 1))).2.2.1 1) 0 4)) = Y
    have y1 : ∀ i, i ≠ 14 → Y.1 i = S.1 i := fun i i1 => by rw [← hY, uB1, uI1, if_neg i1]; rfl
    have y14 : Y.1 14 = nI 4 := by rw [← hY]; rfl
    have ya1 : Y.2.2.1 1 = f := by rw [← hY]; rfl
    have ya : ∀ j, j ≠ 1 → Y.2.2.1 j = S.2.2.1 j := fun j hj => by rw [← hY]; show (tk_A _ 1 f).2.2.1 j = _; rw [uA3, if_neg hj]; rfl
    have yh : Y.2.2.2 0 = hs := by rw [← hY]; rfl
    have s2 : sn (sd (nI w) (S.1 3) (S.1 6)) < 2 := by unfold sn; split <;> omega
    have yp : ∀ s, Y.2.2.2 1 s = if s = sn (sd (nI w) (S.1 3) (S.1 6)) then S.2.2.2 1 s ||| orr f 0 4 else S.2.2.2 1 s := fun s => by
      rw [← hY]
      show vp_updL (S.2.2.2 1) (sn (sd (nI w) (S.1 3) (S.1 6))) (S.2.2.2 1 (sn (sd (nI w) (S.1 3) (S.1 6))) ||| orr f 0 4) s = _
      rw [updLE]
      by_cases e : s = sn (sd (nI w) (S.1 3) (S.1 6))
      · rw [if_pos e, if_pos e, ← e]
      · rw [if_neg e, if_neg e]
    clear hY
    have htb := tb_orT (f := f) (kc := kk) 4 (fun i hi => hkT i hi)
    have hDY : Dj (Y.2.2.2 0) (Y.2.2.2 1 0) (Y.2.2.2 1 1) 0 (fun _ => 0) := by
      rw [yh]
      exact pile_dj (w := S.2.2.2 1) (v := Y.2.2.2 1) hDj' htb s2 yp (fun _ => 0)
    have hsum : th (Y.2.2.2 1 0) + th (Y.2.2.2 1 1) = th (S.2.2.2 1 0) + th (S.2.2.2 1 1) + trS kk 4 := by
      rw [pile_th (w := S.2.2.2 1) (v := Y.2.2.2 1) hDj' htb s2 yp, th_orT 4 (fun i hi => hkT i hi) hinj]
    have hTY : Tot (Y.2.2.2 0) (Y.2.2.2 1 0) (Y.2.2.2 1 1) 0 (fun _ => 0) := by
      unfold Tot at hTot' ⊢
      rw [show trS kk (3 + 1) = trS kk 4 from rfl] at hTot'
      rw [yh]
      show _ + 0 = 210
      omega
    have h210 : th (Y.2.2.2 1 0) + th (Y.2.2.2 1 1) ≤ 210 := by
      unfold Tot at hTY
      omega
    have hnil : ∀ p, p < 4 → cn (Y.2.2.2 0 p) = 12 - (T + 1) := fun p hp => by
      rw [yh, hcn' p hp, if_pos (show (p + 4 - L) % 4 < 3 + 1 from Nat.mod_lt _ (by decide))]
      omega
    have hBY : ∀ p, p < 4 → S.2.2.1 4 p = S.2.2.1 2 p ∧ S.2.2.1 4 (4 + p) = S.2.2.1 3 p ∧ ∃ n, n + 1 ≤ D ∧ S.2.2.1 3 p = nI n := hB
    by_cases hT : T + 1 = 12
    · rw [if_pos (show nI (T + 1) = 12 by rw [hT]; rfl)]
      have hq6 : Y.1 6 = -1 ∨ ∃ q', q' < 4 ∧ Y.1 6 = nI q' ∧ Y.1 6 ≠ Y.1 3 := by
        rw [y1 6 (by decide), y1 3 (by decide)]
        exact hS.2.1.imp id (fun ⟨q, a, b, c, _⟩ => ⟨q, a, b, c⟩)
      obtain ⟨b0, b1, hb0, hb1, eb⟩ := id hA
      have eb' : Y.1 8 = nI (b0 + 2 * b1) := (y1 8 (by decide)).trans eb
      have eL' : Y.1 13 = nI L := (y1 13 (by decide)).trans eL
      have hkY : Trk (Y.2.2.1 1) kk := by rw [ya1]; exact hkT
      obtain ⟨v1, p1, p2⟩ := S_pagat (S := tk_I (tk_I Y 9 (nI (T + 1))) 2 (nI w)) L4 eL' hkY y14 hb0 hb1 eb' (nI w)
      obtain ⟨v2, k1, k2⟩ := S_king (S := tk_I (tk_I Y 9 (nI (T + 1))) 2 (nI w)) L4 eL' hkY y14 hb0 hb1 eb' (by
        show Y.1 4 = -1 ∨ ∃ s, s < 4 ∧ Y.1 4 = nI s
        rw [y1 4 (by decide)]; exact hS.2.2.1) (nI w)
      obtain ⟨U, u1, u2, ⟨u3, u4, u5⟩, u6, u7, u8⟩ := S_final (S := tk_I (tk_I Y 9 (nI (T + 1))) 2 (nI w)) (t := th (Y.2.2.2 1 0)) d4 (by omega) l1 l5 ((y1 3 (by decide)).trans ed) hq6 ((y1 11 (by decide)).trans el) (e_th _) p1 k1
      rw [u1, b1s, b1s]
      have gu : ∀ i, i ≠ 15 → i ≠ 9 → i ≠ 2 → i ≠ 14 → U.1 i = S.1 i := fun i i1 i2 i3 i4 => by rw [u2 i i1, uI1, if_neg i3, uI1, if_neg i2, y1 i i4]
      have u4' : U.2.2.2 = Y.2.2.2 := u4
      have u54 : U.2.2.1 4 = S.2.2.1 4 := (u5 4 (by decide) (by decide)).trans (ya 4 (by decide))
      have u7' : U.2.2.1 2 = plus (S.2.2.1 2) (nI d) (S.1 6) (U.1 15) := by
        rw [u7]
        show plus (Y.2.2.1 2) (nI d) (Y.1 6) (U.1 15) = _
        rw [ya 2 (by decide), y1 6 (by decide)]
      have u6' : U.1 15 = resR (S.2.2.1 3) d ((gmL l (th (Y.2.2.2 1 0)) + v1) + v2) := by
        rw [u6]
        show resR (Y.2.2.1 3) d _ = _
        rw [ya 3 (by decide)]
      have u8' : ∀ j, j < 4 → U.2.2.1 3 j = resA (S.2.2.1 3) d (th (Y.2.2.2 1 0)) j + (if l ≤ 3 then 0 else 1) := by
        intro j hj
        rw [u8 j hj]
        show resA (Y.2.2.1 3) d _ j + _ = _
        rw [ya 3 (by decide)]
      obtain ⟨-, bd2, nd, nd1, nd2⟩ := hBY d d4
      have hRad : ∀ p, p < 4 → ∃ n, n ≤ D ∧ U.2.2.1 3 p = nI n := by
        intro p hp
        obtain ⟨-, -, n, n1, n2⟩ := hBY p hp
        obtain ⟨k, k1, k2⟩ := resA_n (t := th (Y.2.2.2 1 0)) nd2 n2 (by omega)
        rw [u8' p hp, k2]
        by_cases q : l ≤ 3
        · rw [if_pos q, Int32.add_zero]; exact ⟨k, by omega, rfl⟩
        · rw [if_neg q, nI_1]; exact ⟨k + 1, by omega, rfl⟩
      have hsum' : th (U.2.2.2 1 0) + th (U.2.2.2 1 1) = th (S.2.2.2 1 0) + th (S.2.2.2 1 1) + trS kk 4 := by rw [u4']; exact hsum
      refine ⟨_, _, rfl, ⟨hF.eq (gu 0 (by decide) (by decide) (by decide) (by decide)), hA.eq (gu 8 (by decide) (by decide) (by decide) (by decide)), hS.eq (gu 3 (by decide) (by decide) (by decide) (by decide)) (gu 4 (by decide) (by decide) (by decide) (by decide)) (gu 5 (by decide) (by decide) (by decide) (by decide)) (gu 6 (by decide) (by decide) (by decide) (by decide)) (gu 11 (by decide) (by decide) (by decide) (by decide)), ⟨?_, 12, by omega, ?_, ?_, fun _ => ?_⟩, Or.inl ⟨rfl, rfl, rfl, hRad⟩⟩, ?_, fun e => absurd e (by decide), fun _ => ⟨?_, u2 9 (by decide), rfl, ?_, ?_⟩, Or.inr ⟨rfl, by omega, ?_⟩⟩
      · show Crd (U.2.2.2 0)
        rw [u4']; exact hDY.crd
      · show U.1 9 = nI 12
        rw [u2 9 (by decide)]
        show nI (T + 1) = nI 12
        rw [hT]
      · show th (U.2.2.2 1 0) + th (U.2.2.2 1 1) ≤ 210
        rw [u4']; exact h210
      · show th (U.2.2.2 1 0) + th (U.2.2.2 1 1) = 210
        rw [u4']
        unfold Tot at hTY
        have q0 := th_cn0 (x := Y.2.2.2 0 0) (by rw [hnil 0 (by omega)]; omega)
        have q1 := th_cn0 (x := Y.2.2.2 0 1) (by rw [hnil 1 (by omega)]; omega)
        have q2 := th_cn0 (x := Y.2.2.2 0 2) (by rw [hnil 2 (by omega)]; omega)
        have q3 := th_cn0 (x := Y.2.2.2 0 3) (by rw [hnil 3 (by omega)]; omega)
        have q4 : trS (fun _ => 0) 0 = 0 := rfl
        omega
      · show U.2.2.2 0 = _
        rw [u4', yh, hg]
      · rw [hkk, hw]
      · rw [if_pos (show T = 11 by omega)]; rfl
      · rw [hkk]; exact hsum'
      · refine ⟨d, th (Y.2.2.2 1 0), l, v1, v2, d4, by omega, l1, l5, (gu 3 (by decide) (by decide) (by decide) (by decide)).trans ed, (gu 11 (by decide) (by decide) (by decide) (by decide)).trans el, ?_, p2, k2, ?_, fun p hp => ?_, fun p hp => ?_, nd, by omega, ?_⟩
        · show _ = th (U.2.2.2 1 0)
          rw [u4']
        · show U.1 15 = resR (fun j => U.2.2.1 4 (4 + j)) d _
          rw [u6', u54]
          exact resR_c bd2.symm _
        · show U.2.2.1 2 p = U.2.2.1 4 p + (if sd (nI p) (nI d) (U.1 6) = 0 then U.1 15 else 0)
          rw [u7', u54, (hBY p hp).1, gu 6 (by decide) (by decide) (by decide) (by decide)]
          show S.2.2.1 2 p + (if p < 4 ∧ sd (nI p) (nI d) (S.1 6) = 0 then U.1 15 else 0) = _
          by_cases e : sd (nI p) (nI d) (S.1 6) = 0
          · rw [if_pos ⟨hp, e⟩, if_pos e]
          · rw [if_neg (fun y => e y.2), if_neg e]
        · show U.2.2.1 3 p = resA (fun j => U.2.2.1 4 (4 + j)) d _ p + _
          rw [u8' p hp, u54]
          exact congrArg (· + (if l ≤ 3 then (0 : Int32) else 1)) (resA_c bd2.symm (hBY p hp).2.1.symm)
        · show U.2.2.1 4 (4 + d) = nI nd
          rw [u54, bd2]; exact nd2
    · have hT' : ¬ nI (T + 1) = 12 := fun e => hT ((nI_eq (b := 12) (by omega) (by decide)).mp e)
      rw [if_neg hT', b1s]
      have hX : PlX D l d w 0 (T + 1) (fun _ => 0) (tk_I (tk_I (tk_I (tk_I Y 9 (nI (T + 1))) 2 (nI w)) 13 (nI w)) 14 0) := by
        refine ⟨l1, l5, d4, w4, by omega, by omega, (y1 11 (by decide)).trans el, (y1 3 (by decide)).trans ed, rfl, rfl, rfl, ?_, fun p hp => ?_, fun j hj => absurd hj (Nat.not_lt_zero j), hDY, hTY, fun p hp => ?_⟩
        · show nI w = nI ((w + 0) % 4)
          rw [Nat.add_zero, Nat.mod_eq_of_lt w4]
        · show cn (Y.2.2.2 0 p) = _
          rw [hnil p hp, if_neg (Nat.not_lt_zero _)]
          omega
        · show Y.2.2.1 4 p = Y.2.2.1 2 p ∧ Y.2.2.1 4 (4 + p) = Y.2.2.1 3 p ∧ ∃ n, n + 1 ≤ D ∧ Y.2.2.1 3 p = nI n
          rw [ya 4 (by decide), ya 2 (by decide), ya 3 (by decide)]
          exact hBY p hp
      have e1 : (tk_I (tk_I (tk_I (tk_I Y 9 (nI (T + 1))) 2 (nI w)) 13 (nI w)) 14 0).1 1 = 5 := (y1 1 (by decide)).trans h5
      refine ⟨_, _, rfl, ⟨hF.eq (y1 0 (by decide)), hA.eq (y1 8 (by decide)), hS.eq (y1 3 (by decide)) (y1 4 (by decide)) (y1 5 (by decide)) (y1 6 (by decide)) (y1 11 (by decide)), ⟨hDY.crd, T + 1, by omega, rfl, h210, fun e => absurd e hT⟩, Or.inr (Or.inr (Or.inr (Or.inr (Or.inr ⟨e1, l, d, w, 0, T + 1, _, hX⟩))))⟩, ?_, fun e => absurd e (by decide), fun _ => ⟨?_, rfl, rfl, ?_, ?_⟩, Or.inl ⟨e1, w, 0, T + 1, _, hX, by omega⟩⟩
      · show Y.2.2.2 0 = _
        rw [yh, hg]
      · rw [hkk, hw]
      · rw [if_neg (show ¬ T = 11 by omega)]; rfl
      · rw [hkk]; exact hsum
end
section
/-! play and playLowest -/
theorem now_ok {D : Nat} {S : tk_ST} (h : Inv D S) (h5 : S.1 1 = 5) {l d L z T : Nat} {kc : Nat → Nat} (hP : PlX D l d L z T kc S) : ∃ x, f_X6_playableNow S = some x ∧ (∀ c, tb x c = true → c < 54 ∧ tb (S.2.2.2 0 ((L + z) % 4)) c = true) ∧ ∃ c, c < 54 ∧ tb x c = true := by
  have hh := pl_hand hP
  obtain ⟨l1, l5, d4, hL, hz, hT, el, ed, eL, ez, eT, et, hcn, hkc, hDj, hTot, hB⟩ := id hP
  have hC := hDj.crd
  have ht : (L + z) % 4 < 4 := Nat.mod_lt _ (by decide)
  obtain ⟨loc, -, -, -, hl4⟩ := id hDj
  obtain ⟨x, x1, x2, x3, -, -⟩ := r_now (c0 := kc 0) h5 hC ht hz et ez (fun q => ⟨(hl4 0 q).1, hkc 0 q⟩)
  obtain ⟨c, c1, c2⟩ := hh
  obtain ⟨e, he⟩ := x3 ⟨c, c2⟩
  exact ⟨x, x1, fun c hc => ⟨hC.1 _ ht c (x2 c hc), x2 c hc⟩, e, hC.1 _ ht e (x2 e he), he⟩
theorem L_plow {D l d x : Nat} (hD : D < 2 ^ 29) (hx : x ≤ 48) : ∀ (n m : Nat) (S : tk_ST) (left : Nat), Inv D S → ((S.1 1 = 5 ∧ ∃ (L z T : Nat) (kc : Nat → Nat), PlX D l d L z T kc S ∧ left = 48 - 4 * T - z) ∨ (S.1 1 = 0 ∧ left = 0 ∧ Scd S)) → m ≤ x → x - m < n → ∃ S', f_X6_playLowest_43 n (nI x) (nI m) (nI m) S = some (0, nI (min x (m + left)), S') ∧ Inv D S' ∧ (S'.1 1 = 0 → Scd S') := by
  intro n
  induction n with
  | zero => intro m S left h g h1 h2; omega
  | succ n ih =>
    intro m S left h g hm hn
    rw [f_X6_playLowest_43_s]
    have hend : S.1 1 = 0 → Scd S := fun e => g.elim (fun y => absurd (y.1.symm.trans e) (by decide)) (fun y => y.2.2)
    by_cases q : m = x
    · subst q
      rw [if_pos (nI_le (Nat.le_refl m) (by omega)), show min m (m + left) = m by omega]
      exact ⟨S, rfl, h, hend⟩
    · rw [if_neg (nI_ge (by omega) (by omega))]
      rcases g with ⟨h5, L, z, T, kc, hP, hl⟩ | ⟨h0, hl, hs⟩
      · obtain ⟨X, x1, x2, x3⟩ := now_ok h h5 hP
        rw [if_pos h5, x1, b1s]
        rcases least X 54 with y | ⟨c, c1, c2, c3⟩
        · obtain ⟨e, e1, e2⟩ := x3
          exact absurd e2 (y e e1)
        · rw [show f_X6_lowestOf X = some (nI c) from L_low c1 c2 c3 64 0 (by omega) (by omega), b1s]
          obtain ⟨r, S', a1, a2, -, -, -, a6⟩ := S_card h hD h5 hP c1 (x2 c c2).2
          rw [a1, b2s, nI_1]
          obtain ⟨-, -, -, -, hz4, hT12, -⟩ := hP
          rcases a6 with ⟨b5, L', z', T', kc', hP', e⟩ | ⟨b0, e, hs⟩
          · obtain ⟨S2, c1, c2, c3⟩ := ih (m + 1) S' (48 - 4 * T' - z') a2 (Or.inl ⟨b5, L', z', T', kc', hP', rfl⟩) (by omega) (by omega)
            refine ⟨S2, ?_, c2, c3⟩
            rw [c1, show m + 1 + (48 - 4 * T' - z') = m + left by omega]
          · obtain ⟨S2, c1, c2, c3⟩ := ih (m + 1) S' 0 a2 (Or.inr ⟨b0, rfl, hs⟩) (by omega) (by omega)
            refine ⟨S2, ?_, c2, c3⟩
            rw [c1, show m + 1 + 0 = m + left by omega]
      · rw [if_neg (show ¬ S.1 1 = 5 by rw [h0]; decide), show min x (m + left) = m by omega]
        exact ⟨S, rfl, h, hend⟩
theorem S_plow {D : Nat} {S : tk_ST} (h : Inv D S) (hD : D < 2 ^ 29) (h5 : S.1 1 = 5) {l d L z T : Nat} {kc : Nat → Nat} (hP : PlX D l d L z T kc S) {x : Nat} (x1 : 1 ≤ x) (x48 : x ≤ 48) : ∃ S', f0_X6_playLowest (nI x) S = some (nI (min x (48 - 4 * T - z)), S') ∧ Inv D S' ∧ (S'.1 1 = 0 → Scd S') := by
  obtain ⟨S', a1, a2, a3⟩ := L_plow (l := l) (d := d) hD x48 64 0 S (48 - 4 * T - z) h (Or.inl ⟨h5, L, z, T, kc, hP, rfl⟩) (by omega) (by omega)
  refine ⟨S', ?_, a2, a3⟩
  rw [Nat.zero_add] at a1
  unfold f0_X6_playLowest f_X6_playLowest
  rw [if_neg (show ¬ nI x < 1 from nI_nlt (b := 1) (a := x) x1 (by omega)), if_pos (show nI x ≤ 48 from nI_le (b := 48) x48 (by decide)), if_pos h5, show f_X6_playLowest_43 64 (nI x) 0 0 S = _ from a1, b3s, if_pos rfl]
theorem w3_four {kk : Nat → Nat} (hk : ∀ i, i < 4 → kk i < 54) : ((3 : Int32) * (((nI (wo (kk 0)) + nI (wo (kk 1))) + nI (wo (kk 2))) + nI (wo (kk 3)))) - 8 = nI (trS kk 4) := by
  have a0 := wo_b _ (hk 0 (by omega))
  have a1 := wo_b _ (hk 1 (by omega))
  have a2 := wo_b _ (hk 2 (by omega))
  have a3 := wo_b _ (hk 3 (by omega))
  rw [nI_add, nI_add, nI_add, show (3 : Int32) * nI (wo (kk 0) + wo (kk 1) + wo (kk 2) + wo (kk 3)) = nI (3 * (wo (kk 0) + wo (kk 1) + wo (kk 2) + wo (kk 3))) from pk_mul 3 _, show ∀ n, 8 ≤ n → nI n - 8 = nI (n - 8) from fun n hn => pk_sub (b := 8) hn]
  · congr 1
    show _ = 0 + w3 (kk 0) + w3 (kk 1) + w3 (kk 2) + w3 (kk 3)
    unfold w3
    omega
  · omega
theorem lg_self (x : Int64) : lg_cmp x x = 0 := by rw [lg_cmp_eq]
theorem isPlayed_ok {D : Nat} {S : tk_ST} (h : Inv D S) (hD : D < 2 ^ 29) (h5 : S.1 1 = 5) {Y : Nat} (hY : Y < 2 ^ 30) : ∃ S', f_L_isPlayed (nI Y) S = some (1, S') ∧ Inv D S' ∧ (S'.1 1 = 0 → Scd S') := by
  obtain ⟨l, d, L, z, T, kc, hP⟩ := h.p h5
  have hh := pl_hand hP
  obtain ⟨X, x1, x2, -⟩ := now_ok h h5 hP
  obtain ⟨l1, l5, d4, L4, z4, T12, el, ed, eL, ez, eT, et, hcn, hkc, hDj, hTot, hB⟩ := id hP
  have ht : (L + z) % 4 < 4 := Nat.mod_lt _ (by decide)
  obtain ⟨c, hc, hcb, hdr⟩ := e_drawn hY hh
  have hk54 : ∀ i, i < z → kc i < 54 := by
    obtain ⟨loc, -, -, -, k4⟩ := id hDj
    exact fun i hi => (k4 i hi).1
  have hat : ∀ j, j < z → f0_X6_trickAt (nI j) S = some (nI (kc j)) := fun j hj => by rw [r_trickAt hj (by omega) ez, hkc j hj]
  have e1 : f_L_isPlayed (nI Y) S = f_L_isPlayed_87 (nI ((L + z) % 4)) (nI z) (nI T) (S.2.2.2 0 ((L + z) % 4)) (nI c) (if tb X c = true then 1 else 0) (nI (if 0 < z then kc 0 else c)) (nI (if 1 < z then kc 1 else c)) (nI (if 2 < z then kc 2 else c)) S := by
    unfold f_L_isPlayed f_X6_turn f_X6_inTrick f_X6_tricks
    rw [b1s, b1s, b1s, et, r_hand ht, b1s, hdr, b1s, r_canPlay x1 hc, b1s, ez, eT]
    unfold f_L_isPlayed_53 f_L_isPlayed_70
    rcases (show z = 0 ∨ z = 1 ∨ z = 2 ∨ z = 3 by omega) with rfl | rfl | rfl | rfl
    · rw [if_pos (show nI 0 ≤ 0 by decide), if_pos (show nI 0 ≤ 1 by decide), if_pos (show nI 0 ≤ 2 by decide)]
      rfl
    · rw [if_neg (show ¬ nI 1 ≤ 0 by decide), show f0_X6_trickAt (0 : Int32) S = some (nI (kc 0)) from hat 0 (by omega), b1s, if_pos (show nI 1 ≤ 1 by decide), if_pos (show nI 1 ≤ 2 by decide)]
      rfl
    · rw [if_neg (show ¬ nI 2 ≤ 0 by decide), show f0_X6_trickAt (0 : Int32) S = some (nI (kc 0)) from hat 0 (by omega), b1s, if_neg (show ¬ nI 2 ≤ 1 by decide), show f0_X6_trickAt (1 : Int32) S = some (nI (kc 1)) from hat 1 (by omega), b1s, if_pos (show nI 2 ≤ 2 by decide)]
      rfl
    · rw [if_neg (show ¬ nI 3 ≤ 0 by decide), show f0_X6_trickAt (0 : Int32) S = some (nI (kc 0)) from hat 0 (by omega), b1s, if_neg (show ¬ nI 3 ≤ 1 by decide), show f0_X6_trickAt (1 : Int32) S = some (nI (kc 1)) from hat 1 (by omega), b1s, if_neg (show ¬ nI 3 ≤ 2 by decide), show f0_X6_trickAt (2 : Int32) S = some (nI (kc 2)) from hat 2 (by omega), b1s]
      rfl
  rw [e1]
  unfold f_L_isPlayed_87 f_L_plays f_X6_play
  rw [r_thirds0, b1s, r_thirds1, b1s, e_isCard hc, b1s, if_neg n10, x1, b1s, e_holds (by omega), b1s]
  by_cases q : tb X c = true
  · obtain ⟨r, S', a1, a2, a3, a4, a5, a6⟩ := S_card h hD h5 hP hc hcb
    have hfin : S'.1 1 = 0 → Scd S' := fun e => a6.elim (fun y => absurd (y.1.symm.trans e) (by decide)) (fun y => y.2.2)
    rw [if_pos q, if_neg n10, a1, b2s, b3s, if_pos rfl, b2s, if_neg n10, r_hand ht, b1s, show (1 : Int64) <<< ((nI c).toInt64 &&& 63) = jb c from rfl, tb_sub (by omega) hcb, a3, show less (S.2.2.2 0) ((L + z) % 4) c ((L + z) % 4) = S.2.2.2 0 ((L + z) % 4) &&& (jb c ^^^ (-1)) by unfold less; rw [updLE, if_pos rfl], if_pos (lg_self _)]
    unfold f_L_isPlayed_168
    by_cases qz : z < 3
    · obtain ⟨b1, b2, b3, b4⟩ := a4 qz
      rw [if_neg (show ¬ (3 : Int32) ≤ nI z from nI_ge (b := 3) qz (by decide)), if_neg n10, if_pos b1]
      unfold f_X6_inTrick f_X6_turn
      rw [b1s, b2, nI_1, if_pos rfl, r_trickAt (z := z + 1) (by omega) (by omega) b2, b1s, b3, if_pos rfl, b1s, b4, nI_1, show (4 : Int32) = nI 4 from rfl, e_rem (by omega) (by decide) (by decide), if_pos (show nI ((L + z + 1) % 4) = nI (((L + z) % 4 + 1) % 4) by congr 1; omega)]
      exact ⟨S', rfl, a2, hfin⟩
    · obtain rfl : z = 3 := by omega
      obtain ⟨b1, b2, b3, b4, b5⟩ := a5 rfl
      have hkk : ∀ i, i < 4 → kz kc 3 c i < 54 := by
        intro i hi
        unfold kz
        by_cases e : i = 3
        · rw [if_pos e]; exact hc
        · rw [if_neg e]; exact hk54 i (by omega)
      have hw := e_Lwins hkk
      have h3 := w3_four hkk
      have hB4 := bst_lt (kz kc 3 c)
      rw [if_pos (show (3 : Int32) ≤ nI 3 by decide), show (if 0 < 3 then kc 0 else c) = kz kc 3 c 0 from rfl, show (if 1 < 3 then kc 1 else c) = kz kc 3 c 1 from rfl, show (if 2 < 3 then kc 2 else c) = kz kc 3 c 2 from rfl, show nI c = nI (kz kc 3 c 3) from rfl, r_value (hkk 0 (by omega)), b1s, r_value (hkk 1 (by omega)), b1s, r_value (hkk 2 (by omega)), b1s, r_value (hkk 3 (by omega)), b1s, if_neg n10, hw, b1s, h3, nI_1, nI_add, show (4 : Int32) = nI 4 from rfl, e_rem (by omega) (by decide) (by decide), if_pos (show r = nI (((L + 3) % 4 + 1 + bst (kz kc 3 c)) % 4) by rw [b1]; congr 1; omega)]
      unfold f_X6_tricks f_X6_inTrick f_X6_turn
      rw [b1s, b2, nI_1, if_pos rfl, b1s, if_pos b3, b1s, b4]
      have e320 : ∀ k : Int32, f_L_isPlayed_320 (nI (th (S.2.2.2 1 0)) + nI (th (S.2.2.2 1 1))) (nI (trS (kz kc 3 c) 4)) k k S' = some (1, S') := by
        intro k
        unfold f_L_isPlayed_320
        rw [if_pos rfl, r_thirds0, b1s, r_thirds1, b1s, nI_add, nI_add, nI_add, b5, if_pos rfl]
      refine ⟨S', ?_, a2, hfin⟩
      by_cases q11 : T = 11
      · rw [if_pos q11, if_pos (show nI T = 11 by rw [q11]; rfl)]
        exact e320 _
      · rw [if_neg q11, if_neg (show ¬ nI T = 11 from fun e => q11 ((nI_eq (b := 11) (by omega) (by decide)).mp e))]
        exact e320 _
  · rw [if_neg q, if_pos rfl, b3s, if_neg (show ¬ (2 : Int32) = 0 by decide), if_pos rfl, b2s, if_pos rfl, if_pos rfl, r_hand ht, b1s, if_pos (lg_self _)]
    unfold f_X6_turn
    rw [b1s, if_pos et]
    exact ⟨S, rfl, h, fun e => absurd (h5.symm.trans e) (by decide)⟩
end
section
/-! the law's look at the scores -/
theorem L_sc {S : tk_ST} {d : Nat} {R : Int32} (hd : d < 4) (ed : S.1 3 = nI d) (hsc : ∀ p, p < 4 → S.2.2.1 2 p = S.2.2.1 4 p + (if sd (nI p) (nI d) (S.1 6) = 0 then R else 0)) (n : Nat) {p : Nat} (hp : p < 4) : f_L_isScored_10 (n + 1) R 1 (nI p) S = f_L_isScored_10 n R 1 (nI (p + 1)) S := by
  have h := hsc p hp
  rw [f_L_isScored_10_s, if_neg (nge hp (by decide))]
  have key : ∀ k : Int32, S.2.2.1 2 p = S.2.2.1 4 p + k → f_L_isScored_39 (f_L_isScored_10 n) R 1 (nI p) k S = f_L_isScored_10 n R 1 (nI (p + 1)) S := by
    intro k hk
    unfold f_L_isScored_39 f_L_isScored_66
    rw [if_neg n10, r_score hp, b1s, if_neg (inR (show p < 8 by omega) (by decide)), cl (by omega), if_pos hk, nI_1]
  unfold f_L_isScored_34 f_X6_declarer f_X6_partner
  rw [b1s, ed]
  unfold sd at h
  by_cases q : nI p = nI d
  · rw [if_pos q]
    rw [if_pos q, if_pos rfl] at h
    exact key R h
  · rw [if_neg q, b1s]
    rw [if_neg q] at h
    by_cases r : nI p = S.1 6
    · rw [if_pos r]
      rw [if_pos r, if_pos rfl] at h
      exact key R h
    · rw [if_neg r]
      rw [if_neg r, if_neg n10] at h
      exact key 0 h
theorem L_ra {S : tk_ST} {d t l : Nat} (hd : d < 4) (ed : S.1 3 = nI d) (el : S.1 11 = nI l) (l5 : l ≤ 5) (hra : ∀ p, p < 4 → S.2.2.1 3 p = resA (fun j => S.2.2.1 4 (4 + j)) d t p + (if l ≤ 3 then 0 else 1)) (n : Nat) {p : Nat} (hp : p < 4) : f_L_isScored_253 (n + 1) 1 (if t ≤ 105 then 0 else 1) (S.2.2.1 4 (4 + d)) (nI p) S = f_L_isScored_253 n 1 (if t ≤ 105 then 0 else 1) (S.2.2.1 4 (4 + d)) (nI (p + 1)) S := by
  have h := hra p hp
  rw [f_L_isScored_253_s, if_neg (nge hp (by decide))]
  have key : ∀ k : Int32, resA (fun j => S.2.2.1 4 (4 + j)) d t p = S.2.2.1 4 (4 + p) - k → f_L_isScored_283 (f_L_isScored_253 n) 1 (if t ≤ 105 then 0 else 1) (S.2.2.1 4 (4 + d)) (nI p) k S = f_L_isScored_253 n 1 (if t ≤ 105 then 0 else 1) (S.2.2.1 4 (4 + d)) (nI (p + 1)) S := by
    intro k hk
    rw [hk] at h
    unfold f_L_isScored_283 f_L_isScored_317 f_L_isScored_326 f_X6_level
    rw [if_neg n10, r_radli hp, b1s, show (4 : Int32) + nI p = nI (4 + p) from nI_add 4 p, if_neg (inR (show 4 + p < 8 by omega) (by decide)), cl (by omega), b1s, el, nI_1]
    by_cases q : l ≤ 3
    · rw [if_pos (show nI l ≤ 3 from nI_le (b := 3) q (by decide))]
      rw [if_pos q] at h
      rw [if_pos h]
    · rw [if_neg (show ¬ nI l ≤ 3 from nI_ge (a := 3) (by omega) (by omega))]
      rw [if_neg q] at h
      rw [if_pos h]
  unfold f_L_isScored_282 f_X6_declarer
  rw [b1s, ed]
  unfold resA at key
  by_cases q : nI p = nI d
  · have e : p = d := (nI_eq (by omega) (by omega)).mp q
    subst e
    rw [if_pos rfl]
    by_cases a : S.2.2.1 4 (4 + p) ≤ 0
    · rw [if_pos a]
      exact key 0 (by rw [if_pos a, Int32.sub_zero])
    · rw [if_neg a]
      by_cases b : t ≤ 105
      · simp only [if_pos b]
        have := key 0 (by rw [if_neg a, if_pos b, Int32.sub_zero])
        simp only [if_pos b] at this
        rw [if_pos trivial]
        exact this
      · simp only [if_neg b]
        have := key 1 (by rw [if_neg a, if_neg b, updE, if_pos rfl])
        simp only [if_neg b] at this
        rw [if_neg n10]
        exact this
  · rw [if_neg q]
    refine key 0 ?_
    rw [Int32.sub_zero]
    by_cases a : S.2.2.1 4 (4 + d) ≤ 0
    · rw [if_pos a]
    · rw [if_neg a]
      by_cases b : t ≤ 105
      · rw [if_pos b]
      · rw [if_neg b, updE, if_neg (fun e => q (by rw [e]))]
theorem gm_w : ∀ l, l < 6 → 1 ≤ l → ∀ t, t < 211 → (gmL l t + 150).toNatClampNeg < 300 ∧ gmL l t = nI ((gmL l t + 150).toNatClampNeg) + -150 := by decide +kernel
theorem vv_w {v1 v2 : Int32} (h1 : P5 v1) (h2 : K5 v2) : (v1 + v2 + 70).toNatClampNeg < 150 ∧ v1 + v2 = nI ((v1 + v2 + 70).toNatClampNeg) + -70 := by
  rcases h1 with rfl | rfl | rfl | rfl | rfl <;> rcases h2 with rfl | rfl | rfl | rfl | rfl <;> decide
theorem vv_b {v1 v2 : Int32} (h1 : P5 v1) (h2 : K5 v2) : ¬ (v1 + v2 < -70) ∧ ¬ (70 < v1 + v2) ∧ tk_rem (v1 + v2) 5 = 0 := by
  rcases h1 with rfl | rfl | rfl | rfl | rfl <;> rcases h2 with rfl | rfl | rfl | rfl | rfl <;> decide
theorem half_w : ∀ m, m < 450 → ((nI m + -220) * 2) / 2 = nI m + -220 ∧ tk_rem ((nI m + -220) * 2) 2 = 0 := by decide +kernel
theorem add4 (x y p q : Int32) : (x + p) + (y + q) = (x + y) + (p + q) := by
  rw [Int32.add_assoc, ← Int32.add_assoc p y q, Int32.add_comm p y, Int32.add_assoc y p q, ← Int32.add_assoc x y (p + q)]
theorem half_ok {l t : Nat} (l1 : 1 ≤ l) (l5 : l ≤ 5) (ht : t ≤ 210) {v1 v2 : Int32} (h1 : P5 v1) (h2 : K5 v2) : (((gmL l t + v1) + v2) * 2) / 2 = (gmL l t + v1) + v2 ∧ tk_rem (((gmL l t + v1) + v2) * 2) 2 = 0 := by
  obtain ⟨a1, a2⟩ := gm_w l (by omega) l1 t (by omega)
  obtain ⟨b1, b2⟩ := vv_w h1 h2
  have e : (gmL l t + v1) + v2 = nI ((gmL l t + 150).toNatClampNeg + (v1 + v2 + 70).toNatClampNeg) + -220 := by
    rw [Int32.add_assoc, ← nI_add]
    have : (-220 : Int32) = -150 + -70 := by decide
    rw [this, ← add4, ← a2, ← b2]
  rw [e]
  exact half_w _ (by omega)
theorem e_179 {S : tk_ST} {l t : Nat} (el : S.1 11 = nI l) (l1 : 1 ≤ l) (l5 : l ≤ 5) (R : Int32) : f_L_isScored_92 R 1 (nI t) (if t ≤ 105 then 0 else 1) S = f_L_isScored_179 R 1 (if t ≤ 105 then 0 else 1) (gmL l t) S := by
  have k163 : ∀ m b : Int32, m = (if l = 5 then 0 else if t ≤ 105 then ((105 : Int32) - nI t) / 3 else (nI t - (105 : Int32)) / 3) → b = (if l = 4 then 50 else if l = 5 then 80 else (10 : Int32) * nI l) → f_L_isScored_163 R 1 (if t ≤ 105 then 0 else 1) m b S = f_L_isScored_179 R 1 (if t ≤ 105 then 0 else 1) (gmL l t) S := by
    intro m b hm hb
    unfold f_L_isScored_163 gmL
    by_cases q : t ≤ 105
    · simp only [if_pos q] at hm ⊢
      rw [if_pos trivial, ← hm, ← hb]
    · simp only [if_neg q] at hm ⊢
      rw [if_neg n10, ← hm, ← hb]
  have k126 : ∀ m : Int32, m = (if l = 5 then 0 else if t ≤ 105 then ((105 : Int32) - nI t) / 3 else (nI t - (105 : Int32)) / 3) → f_L_isScored_126 R 1 (if t ≤ 105 then 0 else 1) m S = f_L_isScored_179 R 1 (if t ≤ 105 then 0 else 1) (gmL l t) S := by
    intro m hm
    unfold f_L_isScored_126 f_X6_level
    rw [b1s, b1s, b1s, el]
    by_cases q4 : l = 4
    · rw [if_pos (show nI l = 4 by rw [q4]; rfl)]
      exact k163 m 50 hm (by rw [if_pos q4])
    · rw [if_neg (show ¬ nI l = 4 from fun e => q4 ((nI_eq (b := 4) (by omega) (by decide)).mp e))]
      by_cases q5 : l = 5
      · rw [if_pos (show nI l = 5 by rw [q5]; rfl)]
        exact k163 m 80 hm (by rw [if_neg q4, if_pos q5])
      · rw [if_neg (show ¬ nI l = 5 from fun e => q5 ((nI_eq (b := 5) (by omega) (by decide)).mp e))]
        exact k163 m _ hm (by rw [if_neg q4, if_neg q5])
  unfold f_L_isScored_92 f_L_isScored_124
  show (tk_b1 (f_X6_level S) _) = _
  unfold f_X6_level
  rw [b1s, el]
  by_cases q5 : l = 5
  · rw [if_pos (show nI l = 5 by rw [q5]; rfl)]
    exact k126 0 (by rw [if_pos q5])
  · rw [if_neg (show ¬ nI l = 5 from fun e => q5 ((nI_eq (b := 5) (by omega) (by decide)).mp e))]
    by_cases q : t ≤ 105
    · rw [if_pos (show (if t ≤ 105 then (0 : Int32) else 1) = 0 by rw [if_pos q])]
      exact k126 _ (by rw [if_neg q5, if_pos q])
    · rw [if_neg (show ¬ (if t ≤ 105 then (0 : Int32) else 1) = 0 by rw [if_neg q]; exact n10)]
      exact k126 _ (by rw [if_neg q5, if_neg q])
theorem isScored_ok {S : tk_ST} (h : Scd S) : f_L_isScored S = some 1 := by
  obtain ⟨d, t, l, v1, v2, hd, ht, l1, l5, ed, el, et, hv1, hv2, hR, hsc, hra, nd, hnd, end_⟩ := h
  have e253 : f_L_isScored_253 64 1 (if t ≤ 105 then 0 else 1) (S.2.2.1 4 (4 + d)) 0 S = some 1 := by
    show f_L_isScored_253 (63 + 1) 1 (if t ≤ 105 then 0 else 1) (S.2.2.1 4 (4 + d)) (nI 0) S = some 1
    rw [L_ra hd ed el l5 hra 63 (p := 0) (by omega), L_ra hd ed el l5 hra 62 (p := 1) (by omega), L_ra hd ed el l5 hra 61 (p := 2) (by omega), L_ra hd ed el l5 hra 60 (p := 3) (by omega), show 60 = 59 + 1 from rfl, f_L_isScored_253_s, if_pos (show (4 : Int32) ≤ nI (3 + 1) by decide), if_pos (Or.inr rfl)]
  have hb := vv_b hv1 hv2
  have e223 : f_L_isScored_223 (if t ≤ 105 then 0 else 1) (S.2.2.1 4 (4 + d)) (((gmL l t + v1) + v2) - gmL l t) S = some 1 := by
    have e : ((gmL l t + v1) + v2) - gmL l t = v1 + v2 := by
      rw [Int32.add_assoc, Int32.add_comm, Int32.add_sub_cancel]
    rw [e]
    unfold f_L_isScored_223 f_L_isScored_249
    rw [if_neg hb.1, if_neg hb.2.1, if_pos hb.2.2]
    exact e253
  have e179 : f_L_isScored_179 (S.1 15) 1 (if t ≤ 105 then 0 else 1) (gmL l t) S = some 1 := by
    unfold f_L_isScored_179 f_L_isScored_203 f_X6_declarer
    rw [b1s, ed, show (4 : Int32) + nI d = nI (4 + d) from nI_add 4 d, if_neg (inR (show 4 + d < 8 by omega) (by decide)), cl (by omega), hR]
    unfold resR
    by_cases q : nd = 0
    · have e0 : S.2.2.1 4 (4 + d) = 0 := by rw [end_, q]; rfl
      have e0' : S.2.2.1 4 (4 + d) ≤ 0 := by rw [e0]; decide
      rw [if_pos e0', if_pos e0', if_neg n10, if_pos e0]
      exact e223
    · have e0 : ¬ S.2.2.1 4 (4 + d) = 0 := by rw [end_]; exact nI_ne0 (by omega) (by omega)
      have e0' : ¬ S.2.2.1 4 (4 + d) ≤ 0 := by rw [end_]; exact nI_nle (by omega) (by omega)
      have hh := half_ok l1 l5 ht hv1 hv2
      rw [if_neg e0', if_neg e0', if_neg n10, if_neg e0, if_pos hh.2, hh.1]
      exact e223
  unfold f_L_isScored f_X6_result
  rw [b1s]
  show f_L_isScored_10 (63 + 1) (S.1 15) 1 (nI 0) S = some 1
  rw [L_sc hd ed hsc 63 (p := 0) (by omega), L_sc hd ed hsc 62 (p := 1) (by omega), L_sc hd ed hsc 61 (p := 2) (by omega), L_sc hd ed hsc 60 (p := 3) (by omega), show 60 = 59 + 1 from rfl, f_L_isScored_10_s, if_pos (show (4 : Int32) ≤ nI (3 + 1) by decide), r_thirds0, b1s, ← et]
  have e92 := e_179 (S := S) (t := t) el l1 l5 (S.1 15)
  by_cases q : t ≤ 105
  · rw [if_pos (show nI t ≤ 105 from nI_le (b := 105) q (by decide))]
    simp only [if_pos q] at e92 e179
    rw [e92]; exact e179
  · rw [if_neg (show ¬ nI t ≤ 105 from nI_ge (a := 105) (by omega) (by omega))]
    simp only [if_neg q] at e92 e179
    rw [e92]; exact e179
end
section
/-! the law's cases -/
theorem law_end {L : Nat} {xs : Nat → Int32} {K : Int32 → Int32 → Int32 → Int32 → tk_ST → Option Int32} {D : Nat} {S : tk_ST} (h : Inv D S) {x3 x5 x6 x9 : Int32} (hs : x9 = 5 → S.1 1 = 0 → Scd S) : f_law_1043 L xs K x3 1 x5 x6 x9 S = K x3 1 x5 (x6 + 1) S := by
  unfold f_law_1043 f_law_1083 f_law_1088 f_X6_phase
  rw [if_neg n10, areHands_ok h, b1s, if_neg n10, areSides_ok h, b1s, if_neg n10]
  by_cases q9 : x9 = 5
  · rw [if_pos q9, b1s]
    by_cases q0 : S.1 1 = 0
    · rw [if_pos q0, isScored_ok (hs q9 q0), b1s, if_neg n10]
    · rw [if_neg q0]
  · rw [if_neg q9]
theorem L_140 {L : Nat} {xs : Nat → Int32} {K : Int32 → Int32 → Int32 → Int32 → tk_ST → Option Int32} (n : Nat) {p : Nat} (hp : p < 4) (x3 x5 x6 x8 x9 : Int32) (S : tk_ST) : f_law_140 L xs K (n + 1) x3 x5 x6 x8 x9 (nI p) S = f_law_140 L xs K n x3 x5 x6 x8 x9 (nI (p + 1)) (tk_A S 4 (upd (upd (S.2.2.1 4) p (S.2.2.1 2 p)) (4 + p) (S.2.2.1 3 p))) := by
  rw [f_law_140_s, if_neg (nge hp (by decide)), r_score hp, b1s, if_neg (inR (show p < 8 by omega) (by decide)), b1s, r_radli hp, b1s, show (4 : Int32) + nI p = nI (4 + p) from nI_add 4 p, if_neg (inR (show 4 + p < 8 by omega) (by decide)), b1s, cl (by omega), cl (by omega), tk_AA, nI_1]
  rfl
theorem law_over {L : Nat} {xs : Nat → Int32} {K : Int32 → Int32 → Int32 → Int32 → tk_ST → Option Int32} {D : Nat} {S : tk_ST} (h : Inv D S) (hD : D < 2 ^ 29) (h1 : S.1 1 = 0) {x5 x6 : Int32} {Y : Nat} (hY : Y < 2 ^ 28) {x9 : Int32} (hx9 : ¬ x9 = 5) : ∃ S', f_law_140 L xs K 64 (nI D) x5 x6 (nI Y) x9 0 S = K (nI (D + 1)) 1 x5 (x6 + 1) S' ∧ Inv (D + 1) S' := by
  have hR : Rad D S := by
    rcases h.2.2.2.2 with h | h | h | h | h | h
    · exact h.2.2.2
    · exact absurd (h.1.symm.trans h1) (by decide)
    · exact absurd (h.1.symm.trans h1) (by decide)
    · exact absurd (h.1.symm.trans h1) (by decide)
    · exact absurd (h.1.symm.trans h1) (by decide)
    · exact absurd (h.1.symm.trans h1) (by decide)
  obtain ⟨X, hX, eX⟩ := pk_andE (nI Y) (m := 65535) 16 (by decide)
  show ∃ S', f_law_140 L xs K (63 + 1) (nI D) x5 x6 (nI Y) x9 (nI 0) S = _ ∧ _
  rw [L_140 63 (p := 0) (by omega), L_140 62 (p := 1) (by omega), L_140 61 (p := 2) (by omega), L_140 60 (p := 3) (by omega), show 60 = 59 + 1 from rfl, f_law_140_s, if_pos (show (4 : Int32) ≤ nI (3 + 1) by decide), eX]
  generalize hG : tk_A (tk_A (tk_A (tk_A S 4 _) 4 _) 4 _) 4 _ = G
  have g1 : G.1 = S.1 := by rw [← hG]; rfl
  have ga : ∀ j, j ≠ 4 → G.2.2.1 j = S.2.2.1 j := fun j hj => by rw [← hG, uA3, if_neg hj, uA3, if_neg hj, uA3, if_neg hj, uA3, if_neg hj]
  have hB : Bef (D + 1) G := by
    intro p hp
    obtain ⟨n, n1, n2⟩ := hR p hp
    rw [ga 2 (by decide), ga 3 (by decide)]
    refine ⟨?_, ?_, n, by omega, n2⟩
    · rw [← hG]
      rcases (show p = 0 ∨ p = 1 ∨ p = 2 ∨ p = 3 by omega) with rfl | rfl | rfl | rfl <;> rfl
    · rw [← hG]
      rcases (show p = 0 ∨ p = 1 ∨ p = 2 ∨ p = 3 by omega) with rfl | rfl | rfl | rfl <;> rfl
  obtain ⟨S', a1, a2, a0, a3, a4, a5, a6⟩ := S_deal (D := D) hX (by rw [g1]; exact h1) (h.1.eq (by rw [g1])) hB
  rw [a1, b2s]
  refine ⟨S', ?_, a2⟩
  have hn0 : ¬ S'.1 0 = -1 := by rw [a0]; exact n1I (by omega)
  have k191 : ∀ n j, j < 6 → f_law_191 L xs K (n + 1) (nI D) x5 x6 x9 (nI (D % 4)) (orr (S'.2.2.1 0) 48 j) (nI j) S' = f_law_191 L xs K n (nI D) x5 x6 x9 (nI (D % 4)) (orr (S'.2.2.1 0) 48 (j + 1)) (nI (j + 1)) S' := by
    intro n j hj
    rw [f_law_191_s, if_neg (show ¬ (6 : Int32) ≤ nI j from nI_ge (b := 6) hj (by decide)), r_talon hj hn0, b1s, nI_1]
    rfl
  show f_law_191 L xs K (63 + 1) (nI D) x5 x6 x9 (nI (D % 4)) (orr (S'.2.2.1 0) 48 0) (nI 0) S' = _
  rw [k191 63 0 (by omega), k191 62 1 (by omega), k191 61 2 (by omega), k191 60 3 (by omega), k191 59 4 (by omega), k191 58 5 (by omega), show 58 = 57 + 1 from rfl, f_law_191_s, if_pos (show (6 : Int32) ≤ nI (5 + 1) by decide), show (4 : Int32) = nI 4 from rfl, e_rem (by omega) (by decide) (by decide), if_pos rfl]
  unfold f_X6_turn f_X6_level f_X6_tricks
  rw [b1s, if_pos a3, show f0_X6_hand (0 : Int32) S' = some (S'.2.2.2 0 0) from r_hand (p := 0) (by omega) S', b1s, show f0_X6_hand (1 : Int32) S' = some (S'.2.2.2 0 1) from r_hand (p := 1) (by omega) S', b1s, show f0_X6_hand (2 : Int32) S' = some (S'.2.2.2 0 2) from r_hand (p := 2) (by omega) S', b1s, show f0_X6_hand (3 : Int32) S' = some (S'.2.2.2 0 3) from r_hand (p := 3) (by omega) S', b1s, e_bits, b1s, show nI (cn ((((orr (S'.2.2.1 0) 48 (5 + 1) ||| S'.2.2.2 0 0) ||| S'.2.2.2 0 1) ||| S'.2.2.2 0 2) ||| S'.2.2.2 0 3)) = 54 from congrArg nI a6, if_pos rfl, b1s, if_pos a4, b1s, if_pos a5]
  unfold f_law_287
  rw [nI_1]
  exact law_end a2 (fun e => absurd e hx9)
theorem law_bid {L : Nat} {xs : Nat → Int32} {K : Int32 → Int32 → Int32 → Int32 → tk_ST → Option Int32} {D : Nat} {S : tk_ST} (h : Inv D S) (h1 : S.1 1 = 1) {v : Nat} (hv : v < 6) (x3 x5 x6 : Int32) {x9 : Int32} (hx9 : ¬ x9 = 5) : ∃ S', f_law_320 L xs K x3 x5 x6 x9 (nI v) S = K x3 1 x5 (x6 + 1) S' ∧ Inv D S' := by
  have f487 : ∀ {S' : tk_ST}, Inv D S' → f_law_483 L xs K x3 x5 x6 x9 S' = K x3 1 x5 (x6 + 1) S' := by
    intro S' hI
    unfold f_law_483 f_law_488
    exact law_end hI (fun e => absurd e hx9)
  have f488 : ∀ {S' : tk_ST}, Inv D S' → f_law_488 L xs K x3 x5 x6 x9 1 S' = K x3 1 x5 (x6 + 1) S' := by
    intro S' hI
    unfold f_law_488
    exact law_end hI (fun e => absurd e hx9)
  unfold f_law_320 f_X6_level f_X6_turn
  rw [b1s, b1s]
  unfold f_L_bids
  rcases S_bid h h1 hv with ⟨q1, q2, q3⟩ | ⟨q1, r, S', a1, a2, a3, a4, a5⟩
  · rw [q3, b3s, if_neg (show ¬ (2 : Int32) = 0 by decide), if_pos rfl, b2s, if_neg (nI_nle q1 (by omega)), if_neg q2, if_pos rfl, b1s, if_pos rfl]
    exact ⟨S, f488 h, h⟩
  · rw [a1, b3s, if_pos rfl, b2s]
    have e378 : f_law_378 L xs K x3 x5 x6 x9 (nI v) (S.1 11) (S.1 2) r S' = K x3 1 x5 (x6 + 1) S' := by
      have e394 : f_law_394 L xs K x3 x5 x6 x9 (S.1 2) r (S'.1 11) (S'.1 11) S' = K x3 1 x5 (x6 + 1) S' := by
        unfold f_law_394 f_X6_phase f_X6_turn f_X6_declarer f_X6_level f_law_480
        rw [if_pos rfl, b1s, if_pos a4]
        rcases a5 with ⟨b1, b2, b3⟩ | ⟨b1, b2⟩ | ⟨l, d, l1, l5, d4, el, ed, er⟩
        · rw [if_pos b1, b1s, if_neg b2, b1s, if_neg (show ¬ 0 ≤ S'.1 3 by rw [b3]; decide)]
          exact f487 a2
        · rw [if_neg (show ¬ r = 1 by rw [b1]; decide), if_pos b1, b1s, if_pos b2]
          exact f487 a2
        · have r1 : ¬ r = 1 := by
            rw [er]
            split
            · decide
            · split <;> decide
          have r0 : ¬ r = 0 := by
            rw [er]
            split
            · decide
            · split <;> decide
          rw [if_neg r1, if_neg r0, b1s, if_neg (show ¬ S'.1 3 < 0 by rw [ed]; exact ni_neg (by omega)), b1s, b1s, el]
          by_cases q4 : l < 4
          · rw [if_neg (show ¬ (4 : Int32) ≤ nI l from nI_ge (b := 4) q4 (by decide)), if_pos (show r = 2 by rw [er, if_pos q4])]
            exact f487 a2
          · rw [if_pos (show (4 : Int32) ≤ nI l from nI_le (a := 4) (by omega) (by omega))]
            by_cases q5 : l = 4
            · rw [if_pos (show nI l = 4 by rw [q5]; rfl), if_pos (show r = 3 by rw [er, if_neg q4, if_pos q5])]
              exact f487 a2
            · rw [if_neg (show ¬ nI l = 4 from fun e => q5 ((nI_eq (b := 4) (by omega) (by decide)).mp e)), if_pos (show r = 5 by rw [er, if_neg q4, if_neg q5])]
              exact f487 a2
      unfold f_law_378 f_X6_level
      rw [b1s]
      by_cases v0 : v = 0
      · rw [if_pos (show nI v ≤ 0 by rw [v0]; decide)]
        rw [if_pos v0] at a3
        rw [← a3]
        exact e394
      · rw [if_neg (nI_nle (by omega) (by omega))]
        rw [if_neg v0] at a3
        rw [← a3]
        exact e394
    refine ⟨S', ?_, a2⟩
    by_cases v0 : v = 0
    · rw [if_pos (show nI v ≤ 0 by rw [v0]; decide)]
      exact e378
    · rw [if_neg (nI_nle (by omega) (by omega)), if_pos (q1.resolve_left v0)]
      exact e378
theorem L_567 {L : Nat} {xs : Nat → Int32} {K : Int32 → Int32 → Int32 → Int32 → tk_ST → Option Int32} {S : tk_ST} {c : Nat} (hc : c < 54) (hk : ∀ p, p < 4 → tb (S.2.2.2 0 p) c = true → nI p = S.1 3 ∨ nI p = S.1 6) (n : Nat) {p : Nat} (hp : p < 4) (x3 x5 x6 x9 : Int32) : f_law_567 L xs K (n + 1) x3 1 x5 x6 x9 (nI c) (nI p) S = f_law_567 L xs K n x3 1 x5 x6 x9 (nI c) (nI (p + 1)) S := by
  rw [f_law_567_s]
  unfold f_law_610 f_law_615 f_X6_declarer f_X6_partner
  rw [if_neg (nge hp (by decide)), if_neg n10, r_hand hp, b1s, e_Lhas (by omega), b1s, nI_1]
  by_cases t : tb (S.2.2.2 0 p) c = true
  · rw [if_pos t, if_neg n10, b1s]
    by_cases q : nI p = S.1 3
    · rw [if_pos q]
    · rw [if_neg q, b1s, if_pos ((hk p hp t).resolve_left q)]
  · rw [if_neg t, if_pos rfl]
theorem law_call {L : Nat} {xs : Nat → Int32} {K : Int32 → Int32 → Int32 → Int32 → tk_ST → Option Int32} {D : Nat} {S : tk_ST} (h : Inv D S) {c : Nat} (hc : c < 54) (hk : ∀ p, p < 4 → tb (S.2.2.2 0 p) c = true → nI p = S.1 3 ∨ nI p = S.1 6) (x3 x5 x6 : Int32) {x9 : Int32} (hx9 : ¬ x9 = 5) : f_law_557 L xs K x3 x5 x6 x9 (nI c) S = K x3 1 x5 (x6 + 1) S := by
  unfold f_law_557 f_law_562
  show f_law_567 L xs K (63 + 1) x3 1 x5 x6 x9 (nI c) (nI 0) S = _
  rw [L_567 hc hk 63 (p := 0) (by omega), L_567 hc hk 62 (p := 1) (by omega), L_567 hc hk 61 (p := 2) (by omega), L_567 hc hk 60 (p := 3) (by omega), show 60 = 59 + 1 from rfl, f_law_567_s, if_pos (show (4 : Int32) ≤ nI (3 + 1) by decide)]
  exact law_end h (fun e => absurd e hx9)
theorem law_take {L : Nat} {xs : Nat → Int32} {K : Int32 → Int32 → Int32 → Int32 → tk_ST → Option Int32} {D : Nat} {S : tk_ST} (h : Inv D S) (h1 : S.1 1 = 3) {l d Y : Nat} (hY : Y < 2 ^ 28) (l1 : 1 ≤ l) (l4 : l ≤ 4) (d4 : d < 4) (el : S.1 11 = nI l) (ed : S.1 3 = nI d) (hDe : De S) (hPr : Pre D S) (x3 x5 x6 : Int32) {x9 : Int32} (hx9 : ¬ x9 = 5) : ∃ S', f_law_650 L xs K x3 x5 x6 (nI Y) x9 (nI (szl l)) S = K x3 1 x5 (x6 + 1) S' ∧ Inv D S' := by
  obtain ⟨z0, z4, zg, g0, g6⟩ := e_sz l1 l4
  have e6 : (6 : Int32) / nI (szl l) = nI (grl l) := by
    rw [show (6 : Int32) = nI 6 from rfl, pk_div (by omega) z0 (by omega)]
    congr 1
    rw [← zg]
    exact Nat.mul_div_cancel _ z0
  have hj : Y % grl l < grl l := Nat.mod_lt _ g0
  have hz := gz_le l1 l4 hj
  obtain ⟨S', a1, a2, a3, a4, a5, c, c54, a6, a7⟩ := S_take h h1 l1 l4 d4 el ed hj hDe hPr
  refine ⟨S', ?_, a2⟩
  unfold f_law_650 f_law_722 f_X6_declarer
  rw [e6, if_neg (nI_ne0 z0 (by omega)), if_neg (nI_ne0 g0 (by omega)), e_rem (by omega) g0 (by omega), a1, b2s, if_pos rfl, b1s, a3, r_hand d4, b1s, e_bits, b1s, a4, show (12 : Int32) + nI (szl l) = nI (12 + szl l) from nI_add 12 _, if_pos rfl, b1s, r_hand d4, b1s, if_neg (nI_ne0 z0 (by omega)), if_neg (nI_ne0 g0 (by omega)), mul6 _ (by omega) _ z4, r_talon (by omega) a5, b1s, a6, e_Lhas (by omega), b1s, if_pos a7, if_neg n10]
  exact law_end a2 (fun e => absurd e hx9)
end
section
/-! the law's turns -/
theorem law_ann {L : Nat} {xs : Nat → Int32} {K : Int32 → Int32 → Int32 → Int32 → tk_ST → Option Int32} {D : Nat} {S : tk_ST} (h : Inv D S) (h5 : S.1 1 = 5) {j : Nat} (hj : j < 2) (x3 x5 x6 x9 : Int32) {can : Int32} (hcan : S.1 9 = 0 → S.1 14 = 0 → (j = 1 → ¬ (4 : Int32) ≤ S.1 11) → ¬ can = 0) : ∃ S', f_law_919 L xs K x3 x5 x6 x9 (nI j) can S = K x3 1 x5 (x6 + 1) S' ∧ Inv D S' := by
  have fin : ∀ {S' : tk_ST}, Inv D S' → S'.1 1 = 5 → f_law_958 L xs K x3 x5 x6 x9 S' = K x3 1 x5 (x6 + 1) S' := by
    intro S' hI h5'
    unfold f_law_958 f_law_963
    exact law_end hI (fun _ e => absurd (h5'.symm.trans e) (by decide))
  unfold f_law_919 f_L_announces
  rcases S_announce h h5 hj with q | ⟨r, S', a1, a2, a3, a4, a5, a6, a7, a8⟩
  · rw [q, b3s, if_neg (show ¬ (2 : Int32) = 0 by decide), if_pos rfl, b2s, if_pos rfl]
    exact ⟨S, fin h h5, h⟩
  · rw [a1, b3s, if_pos rfl, b2s, if_neg (show ¬ nI r = -3 from fun e => nneg (j := r) (by omega) (by rw [e]; decide)), if_neg (hcan a4 a5 a6), if_neg (show ¬ (2 : Int32) < nI r from nI_nlt (b := r) (a := 2) a2 (by decide)), a7, b3s, if_neg (show ¬ (2 : Int32) = 0 by decide), if_pos rfl, b2s, if_pos rfl]
    exact ⟨S', fin a3 a8, a3⟩
theorem law_step {L : Nat} {xs : Nat → Int32} {K : Int32 → Int32 → Int32 → Int32 → tk_ST → Option Int32} {D : Nat} {S : tk_ST} (h : Inv D S) (hD : D < 2 ^ 29) (x5 x6 x : Int32) : ∃ D' S', f_law_115 L xs K (nI D) x5 x6 x S = K (nI D') 1 x5 (x6 + 1) S' ∧ Inv D' S' ∧ D' ≤ D + 1 := by
  obtain ⟨Y, hY, eY⟩ := pk_andE (x >>> ((4 : Int32) &&& 31)) (m := 268435455) 28 (by decide)
  unfold f_law_115 f_X6_phase
  rw [b1s, eY]
  have n5 : ∀ {k : Int32}, S.1 1 = k → ¬ k = 5 → ¬ S.1 1 = 5 := fun e n q => n (e.symm.trans q)
  by_cases p0 : S.1 1 = 0
  · rw [if_pos p0]
    obtain ⟨S', a1, a2⟩ := law_over (L := L) (xs := xs) (K := K) h hD p0 (x5 := x5) (x6 := x6) hY (x9 := S.1 1) (n5 p0 (by decide))
    exact ⟨D + 1, S', a1, a2, Nat.le_refl _⟩
  · rw [if_neg p0]
    by_cases p1 : S.1 1 = 1
    · rw [if_pos p1]
      have n9 := n5 p1 (by decide)
      by_cases q : (6 : Int32) ≤ (x &&& (15 : Int32))
      · rw [if_pos q, b1s, show (6 : Int32) = nI 6 from rfl, e_rem (by omega) (by decide) (by decide)]
        obtain ⟨S', a1, a2⟩ := law_bid (L := L) (xs := xs) (K := K) h p1 (v := Y % 6) (Nat.mod_lt _ (by decide)) (nI D) x5 x6 n9
        exact ⟨D, S', a1, a2, by omega⟩
      · rw [if_neg q]
        obtain ⟨S', a1, a2⟩ := law_bid (L := L) (xs := xs) (K := K) h p1 (v := 0) (by decide) (nI D) x5 x6 n9
        exact ⟨D, S', a1, a2, by omega⟩
    · rw [if_neg p1]
      by_cases p2 : S.1 1 = 2
      · rw [if_pos p2]
        have n9 := n5 p2 (by decide)
        obtain ⟨s, hs, es⟩ := pk_andE (nI Y) (m := 3) 2 (by decide)
        have hs4 : s < 4 := hs
        rw [es, e_king hs4]
        obtain ⟨S', a1, a2, a3, a4, a5⟩ := S_call h p2 hs4
        unfold f_X6_called f_X6_partner
        rw [a1, b2s, if_pos rfl, b1s, if_pos a3, b1s]
        refine ⟨D, S', ?_, a2, by omega⟩
        rcases a4 with e | ⟨q, hq, e, ht⟩
        · rw [if_pos (show S'.1 6 < 0 by rw [e]; decide)]
          exact law_call a2 (by omega) a5 _ _ _ n9
        · rw [if_neg (show ¬ S'.1 6 < 0 by rw [e]; exact ni_neg (by omega)), b1s, e, r_hand hq, b1s, e_Lhas (by omega), b1s, if_pos ht, if_neg n10]
          exact law_call a2 (by omega) a5 _ _ _ n9
      · rw [if_neg p2]
        by_cases p3 : S.1 1 = 3
        · rw [if_pos p3]
          have n9 := n5 p3 (by decide)
          obtain ⟨l, d, l1, l4, d4, el, ed, hDe, hPr⟩ := h.t p3
          obtain ⟨S', a1, a2⟩ := law_take (L := L) (xs := xs) (K := K) h p3 hY l1 l4 d4 el ed hDe hPr (nI D) x5 x6 n9
          refine ⟨D, S', ?_, a2, by omega⟩
          unfold f_X6_level
          rw [b1s, b1s, el]
          have e3 := e_szM l1 l4
          by_cases q : (3 : Int32) ≤ nI l
          · rw [if_pos q]
            rw [if_pos q] at e3
            rw [← e3] at a1; exact a1
          · rw [if_neg q]
            rw [if_neg q] at e3
            rw [← e3] at a1; exact a1
        · rw [if_neg p3]
          by_cases p4 : S.1 1 = 4
          · rw [if_pos p4]
            have n9 := n5 p4 (by decide)
            obtain ⟨l, d, t, l1, l4, d4, el, ed, t1, t3, et, cd, co, hPr⟩ := h.d p4
            obtain ⟨c, hc, hcb, hdr⟩ := e_drawn (h := S.2.2.2 0 d) (show Y < 2 ^ 30 by omega) (cn_pos (by omega))
            have f868 : ∀ {S' : tk_ST}, Inv D S' → f_law_868 L xs K (nI D) x5 x6 (S.1 1) 1 S' = K (nI D) 1 x5 (x6 + 1) S' := by
              intro S' hI
              unfold f_law_868
              exact law_end hI (fun e => absurd e n9)
            unfold f_X6_declarer
            rw [b1s, ed, r_hand d4, b1s, hdr, b1s]
            unfold f_L_lays
            rcases S_discard h p4 d4 ed hc hcb with ⟨q1, q2⟩ | ⟨q1, t', S', a1, a2, a3, a4, a5, a6, a7, a8⟩
            · rw [q2, b3s, if_neg (show ¬ (2 : Int32) = 0 by decide), if_pos rfl, b2s, r_value hc, b1s, if_pos (show nI (wo c) = 5 by rw [q1]; rfl), if_pos rfl, b1s, ed, r_hand d4, b1s, if_pos (lg_self _)]
              exact ⟨D, S, f868 h, h, by omega⟩
            · rw [a1, b3s, if_pos rfl, b2s, r_value hc, b1s, if_neg (show ¬ nI (wo c) = 5 from fun e => q1 ((nI_eq (b := 5) (by have := wo_lt c; omega) (by decide)).mp e)), e_bits, b1s, show nI (cn (S.2.2.2 0 d)) - (13 : Int32) = nI (cn (S.2.2.2 0 d) - 13) from pk_sub (b := 13) (by omega), if_pos (show nI t' = nI (cn (S.2.2.2 0 d) - 13) by congr 1; omega), b1s, a5, r_hand d4, b1s, show (1 : Int64) <<< ((nI c).toInt64 &&& 63) = jb c from rfl, tb_sub (by omega) hcb, a6, if_pos (lg_self _)]
              refine ⟨D, S', ?_, a4, by omega⟩
              unfold f_law_863
              by_cases q0 : t' = 0
              · obtain ⟨b1, b2⟩ := a8 q0
                have := th_le (S'.2.2.2 1 0)
                rw [if_pos (show nI t' ≤ 0 by rw [q0]; decide), b1s, if_pos b1, r_thirds0, b1s, if_neg (nI_nle (by omega) (by omega))]
                exact f868 a4
              · rw [if_neg (nI_nle (by omega) (by omega)), b1s, if_pos (a7 (by omega))]
                exact f868 a4
          · rw [if_neg p4]
            have p5 : S.1 1 = 5 := by
              rcases h.2.2.2.2 with h | h | h | h | h | h
              · exact absurd h.1 p0
              · exact absurd h.1 p1
              · exact absurd h.1 p2
              · exact absurd h.1 p3
              · exact absurd h.1 p4
              · exact h.1
            by_cases q0 : (x &&& (15 : Int32)) = 0
            · rw [if_pos q0]
              obtain ⟨j, hj, ej⟩ := pk_andE (nI Y) (m := 1) 1 (by decide)
              have hj2 : j < 2 := hj
              rw [ej]
              unfold f_X6_tricks f_X6_inTrick f_X6_level f_law_914 f_law_918
              rw [b1s, b1s, b1s]
              by_cases c9 : S.1 9 = 0
              · rw [if_pos c9]
                by_cases c14 : S.1 14 = 0
                · rw [if_pos c14]
                  by_cases cj : nI j = 0
                  · rw [if_pos cj]
                    obtain ⟨S', a1, a2⟩ := law_ann (L := L) (xs := xs) (K := K) h p5 hj2 (nI D) x5 x6 (S.1 1) (can := 1) (fun _ _ _ => n10)
                    exact ⟨D, S', a1, a2, by omega⟩
                  · rw [if_neg cj]
                    have j1 : j = 1 := by
                      rcases (show j = 0 ∨ j = 1 by omega) with e | e
                      · exact absurd (by rw [e]; rfl) cj
                      · exact e
                    by_cases c4 : (4 : Int32) ≤ S.1 11
                    · rw [if_pos c4]
                      obtain ⟨S', a1, a2⟩ := law_ann (L := L) (xs := xs) (K := K) h p5 hj2 (nI D) x5 x6 (S.1 1) (can := 0) (fun _ _ e => absurd c4 (e j1))
                      exact ⟨D, S', a1, a2, by omega⟩
                    · rw [if_neg c4]
                      obtain ⟨S', a1, a2⟩ := law_ann (L := L) (xs := xs) (K := K) h p5 hj2 (nI D) x5 x6 (S.1 1) (can := 1) (fun _ _ _ => n10)
                      exact ⟨D, S', a1, a2, by omega⟩
                · rw [if_neg c14]
                  obtain ⟨S', a1, a2⟩ := law_ann (L := L) (xs := xs) (K := K) h p5 hj2 (nI D) x5 x6 (S.1 1) (can := 0) (fun _ e _ => absurd e c14)
                  exact ⟨D, S', a1, a2, by omega⟩
              · rw [if_neg c9]
                obtain ⟨S', a1, a2⟩ := law_ann (L := L) (xs := xs) (K := K) h p5 hj2 (nI D) x5 x6 (S.1 1) (can := 0) (fun e _ _ => absurd e c9)
                exact ⟨D, S', a1, a2, by omega⟩
            · rw [if_neg q0]
              by_cases q1 : (x &&& (15 : Int32)) = 1
              · rw [if_pos q1]
                obtain ⟨j, hj, ej⟩ := pk_andE (nI Y) (m := 15) 4 (by decide)
                have hj16 : j < 16 := hj
                obtain ⟨l, d, Ld, z, T, kc, hP⟩ := h.p p5
                obtain ⟨S', a1, a2, a3⟩ := S_plow h hD p5 hP (x := 1 + j) (by omega) (by omega)
                obtain ⟨l1, l5, d4, L4, z4, T12, el, ed, eL, ez, eT, -⟩ := id hP
                unfold f_X6_tricks f_X6_inTrick f_law_1022 f_law_1030
                rw [b1s, b1s, ej, show (1 : Int32) + nI j = nI (1 + j) from nI_add 1 j, a1, b2s, eT, ez, show (4 : Int32) * nI T = nI (4 * T) from pk_mul 4 T, show (48 : Int32) - nI (4 * T) = nI (48 - 4 * T) from pk_sub (a := 48) (by omega), pk_sub (by omega)]
                refine ⟨D, S', ?_, a2, by omega⟩
                by_cases c : 48 - 4 * T - z ≤ 1 + j
                · rw [if_pos (nI_le c (by omega)), if_pos (show nI (min (1 + j) (48 - 4 * T - z)) = nI (48 - 4 * T - z) by congr 1; omega)]
                  exact law_end a2 (fun _ => a3)
                · rw [if_neg (nI_ge (by omega) (by omega)), if_pos (show nI (min (1 + j) (48 - 4 * T - z)) = nI (1 + j) by congr 1; omega)]
                  exact law_end a2 (fun _ => a3)
              · rw [if_neg q1]
                obtain ⟨S', a1, a2, a3⟩ := isPlayed_ok h hD p5 (show Y < 2 ^ 30 by omega)
                rw [a1, b2s]
                exact ⟨D, S', law_end a2 (fun _ => a3), a2, by omega⟩
theorem law_runs {L : Nat} {xs : Nat → Int32} (hL : L ≤ 260) {Tn : Nat} (hT : Tn ≤ 480) : ∀ (n j D : Nat) (S : tk_ST), j ≤ Tn → Tn - j < n → D ≤ j → Inv D S → f_law_71 L xs n (nI D) 1 (nI Tn) (nI j) S = some 1 := by
  intro n
  induction n with
  | zero => intro j D S h1 h2; omega
  | succ n ih =>
    intro j D S hj hn hDj h
    rw [f_law_71_s]
    by_cases q : j = Tn
    · subst q; rw [if_pos (nI_le (Nat.le_refl _) (by omega))]
    · rw [if_neg (nI_ge (by omega) (by omega)), if_neg n10]
      have key : ∀ x, f_law_115 L xs (f_law_71 L xs n) (nI D) (nI Tn) (nI j) x S = some 1 := by
        intro x
        obtain ⟨D', S', a1, a2, a3⟩ := law_step (L := L) (xs := xs) (K := f_law_71 L xs n) h (by omega) (nI Tn) (nI j) x
        rw [a1, nI_1]
        exact ih (j + 1) D' S' (by omega) (by omega) (by omega) a2
      by_cases r : L ≤ j
      · rw [if_pos (show Int32.ofNat L ≤ nI j from nI_le (a := L) r (by omega))]
        exact key _
      · rw [if_neg (show ¬ Int32.ofNat L ≤ nI j from nI_ge (b := L) (by omega) (by omega)), if_neg (inR (show j < L by omega) (by omega))]
        exact key _
theorem law_all {L : Nat} {xs : Nat → Int32} (hL : L ≤ 260) {S : tk_ST} (h : Inv 0 S) : f_law L xs S = some 1 := by
  have k66 : ∀ Tn : Nat, Tn ≤ 480 → f_law_66 L xs 0 1 (nI Tn) S = some 1 := by
    intro Tn hT
    unfold f_law_66
    exact law_runs hL hT 500 0 0 S (by omega) (by omega) (by omega) h
  unfold f_law f_law_34
  rw [areHands_ok h, b1s, if_neg n10, areSides_ok h, b1s, if_neg n10]
  by_cases a : 60 ≤ L
  · rw [if_pos (show (60 : Int32) ≤ Int32.ofNat L from nI_le (a := 60) (b := L) a (by omega))]
    by_cases b : 120 ≤ L
    · rw [if_pos (show (120 : Int32) ≤ Int32.ofNat L from nI_le (a := 120) (b := L) b (by omega))]
      exact k66 480 (by omega)
    · rw [if_neg (show ¬ (120 : Int32) ≤ Int32.ofNat L from nI_ge (a := L) (b := 120) (by omega) (by decide)), show (4 : Int32) * Int32.ofNat L = nI (4 * L) from pk_mul 4 L]
      exact k66 (4 * L) (by omega)
  · rw [if_neg (show ¬ (60 : Int32) ≤ Int32.ofNat L from nI_ge (a := L) (b := 60) (by omega) (by decide))]
    exact k66 240 (by omega)
end
