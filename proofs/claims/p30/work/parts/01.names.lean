-- ===== PART A: goes FIRST, ahead of the names: the tables' words, and 'selects' of the private methods out of them =====
/-- a private method of a class that the tables say can be made, by its rows of tables_1 -/
def lw_okq (q : MethodName × Nat) : Prop := (q.1.cls ≠ "java/lang/invoke/MethodHandle" ∧ q.1.cls ≠ "java/lang/invoke/VarHandle") ∧ Cond.instantiable q.1.cls q.2 ∈ tables_1 ∧ Cond.privateMethod q.1 ∈ tables_1 ∧ Cond.instanceMethod q.1 ∈ tables_1
theorem lw_p0 : lw_okq (⟨"java/lang/Throwable", "fillInStackTrace", "(I)Ljava/lang/Throwable;"⟩, 6) := ⟨⟨by decide +kernel, by decide +kernel⟩, List.mem_of_getElem? (i := 217) (by decide +kernel), List.mem_of_getElem? (i := 215) (by decide +kernel), List.mem_of_getElem? (i := 216) (by decide +kernel)⟩
theorem lw_p1 : lw_okq (⟨"TarockHall", "clearDeal", "()V"⟩, 18) := ⟨⟨by decide +kernel, by decide +kernel⟩, List.mem_of_getElem? (i := 17) (by decide +kernel), List.mem_of_getElem? (i := 266) (by decide +kernel), List.mem_of_getElem? (i := 267) (by decide +kernel)⟩
theorem lw_p2 : lw_okq (⟨"TarockHall$Deck", "swap", "(II)V"⟩, 1) := ⟨⟨by decide +kernel, by decide +kernel⟩, List.mem_of_getElem? (i := 25) (by decide +kernel), List.mem_of_getElem? (i := 291) (by decide +kernel), List.mem_of_getElem? (i := 292) (by decide +kernel)⟩
theorem lw_p3 : lw_okq (⟨"TarockHall", "handOut", "()V"⟩, 18) := ⟨⟨by decide +kernel, by decide +kernel⟩, List.mem_of_getElem? (i := 17) (by decide +kernel), List.mem_of_getElem? (i := 299) (by decide +kernel), List.mem_of_getElem? (i := 300) (by decide +kernel)⟩
theorem lw_p4 : lw_okq (⟨"TarockHall", "calledKing", "()I"⟩, 18) := ⟨⟨by decide +kernel, by decide +kernel⟩, List.mem_of_getElem? (i := 17) (by decide +kernel), List.mem_of_getElem? (i := 331) (by decide +kernel), List.mem_of_getElem? (i := 332) (by decide +kernel)⟩
theorem lw_p5 : lw_okq (⟨"TarockHall", "ownerOf", "(I)I"⟩, 18) := ⟨⟨by decide +kernel, by decide +kernel⟩, List.mem_of_getElem? (i := 17) (by decide +kernel), List.mem_of_getElem? (i := 335) (by decide +kernel), List.mem_of_getElem? (i := 336) (by decide +kernel)⟩
theorem lw_p6 : lw_okq (⟨"TarockHall", "groupsNow", "()I"⟩, 18) := ⟨⟨by decide +kernel, by decide +kernel⟩, List.mem_of_getElem? (i := 17) (by decide +kernel), List.mem_of_getElem? (i := 350) (by decide +kernel), List.mem_of_getElem? (i := 351) (by decide +kernel)⟩
theorem lw_p7 : lw_okq (⟨"TarockHall", "playableNow", "()J"⟩, 18) := ⟨⟨by decide +kernel, by decide +kernel⟩, List.mem_of_getElem? (i := 17) (by decide +kernel), List.mem_of_getElem? (i := 369) (by decide +kernel), List.mem_of_getElem? (i := 370) (by decide +kernel)⟩
theorem lw_p8 : lw_okq (⟨"TarockHall", "addToTrick", "(I)I"⟩, 18) := ⟨⟨by decide +kernel, by decide +kernel⟩, List.mem_of_getElem? (i := 17) (by decide +kernel), List.mem_of_getElem? (i := 392) (by decide +kernel), List.mem_of_getElem? (i := 393) (by decide +kernel)⟩
theorem lw_p9 : lw_okq (⟨"TarockHall$Trick", "playerAt", "(I)I"⟩, 3) := ⟨⟨by decide +kernel, by decide +kernel⟩, List.mem_of_getElem? (i := 67) (by decide +kernel), List.mem_of_getElem? (i := 409) (by decide +kernel), List.mem_of_getElem? (i := 410) (by decide +kernel)⟩
theorem lw_p10 : lw_okq (⟨"TarockHall", "endTrick", "(I)V"⟩, 18) := ⟨⟨by decide +kernel, by decide +kernel⟩, List.mem_of_getElem? (i := 17) (by decide +kernel), List.mem_of_getElem? (i := 413) (by decide +kernel), List.mem_of_getElem? (i := 414) (by decide +kernel)⟩
theorem lw_p11 : lw_okq (⟨"TarockHall", "sideOf", "(I)I"⟩, 18) := ⟨⟨by decide +kernel, by decide +kernel⟩, List.mem_of_getElem? (i := 17) (by decide +kernel), List.mem_of_getElem? (i := 417) (by decide +kernel), List.mem_of_getElem? (i := 418) (by decide +kernel)⟩
theorem lw_p12 : lw_okq (⟨"TarockHall", "enterResult", "(I)V"⟩, 18) := ⟨⟨by decide +kernel, by decide +kernel⟩, List.mem_of_getElem? (i := 17) (by decide +kernel), List.mem_of_getElem? (i := 426) (by decide +kernel), List.mem_of_getElem? (i := 427) (by decide +kernel)⟩
theorem lw_p13 : lw_okq (⟨"TarockHall", "pagatPoints", "(I)I"⟩, 18) := ⟨⟨by decide +kernel, by decide +kernel⟩, List.mem_of_getElem? (i := 17) (by decide +kernel), List.mem_of_getElem? (i := 449) (by decide +kernel), List.mem_of_getElem? (i := 450) (by decide +kernel)⟩
theorem lw_p14 : lw_okq (⟨"TarockHall", "isAnnounced", "(I)Z"⟩, 18) := ⟨⟨by decide +kernel, by decide +kernel⟩, List.mem_of_getElem? (i := 17) (by decide +kernel), List.mem_of_getElem? (i := 457) (by decide +kernel), List.mem_of_getElem? (i := 458) (by decide +kernel)⟩
theorem lw_p15 : lw_okq (⟨"TarockHall", "kingPoints", "(I)I"⟩, 18) := ⟨⟨by decide +kernel, by decide +kernel⟩, List.mem_of_getElem? (i := 17) (by decide +kernel), List.mem_of_getElem? (i := 461) (by decide +kernel), List.mem_of_getElem? (i := 462) (by decide +kernel)⟩
def lw_privs_1 : List (MethodName × Nat) := [(⟨"java/lang/Throwable", "fillInStackTrace", "(I)Ljava/lang/Throwable;"⟩, 6), (⟨"TarockHall", "clearDeal", "()V"⟩, 18), (⟨"TarockHall$Deck", "swap", "(II)V"⟩, 1), (⟨"TarockHall", "handOut", "()V"⟩, 18), (⟨"TarockHall", "calledKing", "()I"⟩, 18), (⟨"TarockHall", "ownerOf", "(I)I"⟩, 18), (⟨"TarockHall", "groupsNow", "()I"⟩, 18), (⟨"TarockHall", "playableNow", "()J"⟩, 18), (⟨"TarockHall", "addToTrick", "(I)I"⟩, 18), (⟨"TarockHall$Trick", "playerAt", "(I)I"⟩, 3), (⟨"TarockHall", "endTrick", "(I)V"⟩, 18), (⟨"TarockHall", "sideOf", "(I)I"⟩, 18), (⟨"TarockHall", "enterResult", "(I)V"⟩, 18), (⟨"TarockHall", "pagatPoints", "(I)I"⟩, 18), (⟨"TarockHall", "isAnnounced", "(I)Z"⟩, 18), (⟨"TarockHall", "kingPoints", "(I)I"⟩, 18)]
theorem lw_r1 : ∀ q ∈ lw_privs_1, lw_okq q := List.forall_mem_cons.mpr ⟨lw_p0, List.forall_mem_cons.mpr ⟨lw_p1, List.forall_mem_cons.mpr ⟨lw_p2, List.forall_mem_cons.mpr ⟨lw_p3, List.forall_mem_cons.mpr ⟨lw_p4, List.forall_mem_cons.mpr ⟨lw_p5, List.forall_mem_cons.mpr ⟨lw_p6, List.forall_mem_cons.mpr ⟨lw_p7, List.forall_mem_cons.mpr ⟨lw_p8, List.forall_mem_cons.mpr ⟨lw_p9, List.forall_mem_cons.mpr ⟨lw_p10, List.forall_mem_cons.mpr ⟨lw_p11, List.forall_mem_cons.mpr ⟨lw_p12, List.forall_mem_cons.mpr ⟨lw_p13, List.forall_mem_cons.mpr ⟨lw_p14, List.forall_mem_cons.mpr ⟨lw_p15, fun _ h => absurd h List.not_mem_nil⟩⟩⟩⟩⟩⟩⟩⟩⟩⟩⟩⟩⟩⟩⟩⟩
theorem lw_p16 : lw_okq (⟨"TarockHall$Sheet", "addScore", "(I)V"⟩, 3) := ⟨⟨by decide +kernel, by decide +kernel⟩, List.mem_of_getElem? (i := 86) (by decide +kernel), List.mem_of_getElem? (i := 471) (by decide +kernel), List.mem_of_getElem? (i := 472) (by decide +kernel)⟩
theorem lw_p17 : lw_okq (⟨"TarockHall", "endDeal", "()V"⟩, 18) := ⟨⟨by decide +kernel, by decide +kernel⟩, List.mem_of_getElem? (i := 17) (by decide +kernel), List.mem_of_getElem? (i := 479) (by decide +kernel), List.mem_of_getElem? (i := 480) (by decide +kernel)⟩
theorem lw_p18 : lw_okq (⟨"TarockHall", "beginGame", "()V"⟩, 18) := ⟨⟨by decide +kernel, by decide +kernel⟩, List.mem_of_getElem? (i := 17) (by decide +kernel), List.mem_of_getElem? (i := 587) (by decide +kernel), List.mem_of_getElem? (i := 588) (by decide +kernel)⟩
theorem lw_p19 : lw_okq (⟨"TarockHall", "beginPlay", "()V"⟩, 18) := ⟨⟨by decide +kernel, by decide +kernel⟩, List.mem_of_getElem? (i := 17) (by decide +kernel), List.mem_of_getElem? (i := 591) (by decide +kernel), List.mem_of_getElem? (i := 592) (by decide +kernel)⟩
theorem lw_p20 : lw_okq (⟨"TarockHall$Bidding", "hasPassed", "(I)Z"⟩, 3) := ⟨⟨by decide +kernel, by decide +kernel⟩, List.mem_of_getElem? (i := 49) (by decide +kernel), List.mem_of_getElem? (i := 600) (by decide +kernel), List.mem_of_getElem? (i := 601) (by decide +kernel)⟩
theorem lw_p21 : lw_okq (⟨"TarockHall", "sidesAreOpen", "()Z"⟩, 18) := ⟨⟨by decide +kernel, by decide +kernel⟩, List.mem_of_getElem? (i := 17) (by decide +kernel), List.mem_of_getElem? (i := 667) (by decide +kernel), List.mem_of_getElem? (i := 668) (by decide +kernel)⟩
def lw_privs_2 : List (MethodName × Nat) := [(⟨"TarockHall$Sheet", "addScore", "(I)V"⟩, 3), (⟨"TarockHall", "endDeal", "()V"⟩, 18), (⟨"TarockHall", "beginGame", "()V"⟩, 18), (⟨"TarockHall", "beginPlay", "()V"⟩, 18), (⟨"TarockHall$Bidding", "hasPassed", "(I)Z"⟩, 3), (⟨"TarockHall", "sidesAreOpen", "()Z"⟩, 18)]
theorem lw_r2 : ∀ q ∈ lw_privs_2, lw_okq q := List.forall_mem_cons.mpr ⟨lw_p16, List.forall_mem_cons.mpr ⟨lw_p17, List.forall_mem_cons.mpr ⟨lw_p18, List.forall_mem_cons.mpr ⟨lw_p19, List.forall_mem_cons.mpr ⟨lw_p20, List.forall_mem_cons.mpr ⟨lw_p21, fun _ h => absurd h List.not_mem_nil⟩⟩⟩⟩⟩⟩
def lw_privs : List (MethodName × Nat) := lw_privs_1 ++ (lw_privs_2)
def lw_tbl : List Cond := k2_sels lw_privs ++ tables_1
theorem lw_privs_ok : ∀ q ∈ lw_privs, lw_okq q := by
  show ∀ q ∈ lw_privs_1 ++ (lw_privs_2), lw_okq q
  exact List.forall_mem_append.mpr ⟨lw_r1, lw_r2⟩
-- ===== end of PART A; then your names; then what follows =====
/-! ===== BEGIN words of one list among another's, by their places ===== -/
theorem goodIn_r {big : List Cond} (ws : List Cond) (ps : List Nat) (hp : ws = ps.filterMap (fun i => big[i]?)) (h : ws.all goodWord = true) : GoodIn big ws := by
  intro w hw
  have h1 := List.all_eq_true.mp h w hw
  rw [hp] at hw
  obtain ⟨i, -, hi⟩ := List.mem_filterMap.mp hw
  have hm : w ∈ big := by first | exact List.mem_of_getElem? hi | exact List.getElem?_mem hi
  exact ⟨hm, good_of_word h1⟩
theorem goodIn_app {big a b : List Cond} (ha : GoodIn big a) (hb : GoodIn big b) : GoodIn big (a ++ b) := fun w h => (List.mem_append.mp h).elim (ha w) (hb w)
theorem goodIn_ca {big a b : List Cond} {c : Cond} (ha : GoodIn big (c :: a)) (hb : GoodIn big b) : GoodIn big (c :: (a ++ b)) := fun w h => (List.mem_cons.mp h).elim (fun e => ha w (List.mem_cons.mpr (Or.inl e))) (fun h => (List.mem_append.mp h).elim (fun h => ha w (List.mem_cons.mpr (Or.inr h))) (hb w))
theorem goodIn_sub {big ws : List Cond} (hm : ∀ w ∈ ws, w ∈ big) (h : ws.all goodWord = true) : GoodIn big ws := fun w hw => ⟨hm w hw, good_of_word (List.all_eq_true.mp h w hw)⟩
/-! ===== END ===== -/

/-! ===== BEGIN exceptions that leave a method, and their catching by the caller (launches without stack traces) ===== -/
section VXA
/-! The laws vx_back, vx_callV, vx_callS, vx_callSW, vx_throw0, vx_throwS follow proofs of the library, with one case more: JvmDerived/Free/Laws.lean (Back.of_free), Shelf42/LK1.lean (callV, callS), Shelf/KitTraced.lean (throwNew0V, throwNewS). -/
/-- where a method has thrown q: the class by its name, the cell, what was written, the world -/
def vx_T (XC : String → State → State → Prop) (st : State) (q : Addr) (t : State) (mc ms : Nat) (free : Addr → Prop) : Prop :=
  ∃ (E : String) (ce : Cell) (L : List Loc), XC E st t ∧ t.heap[q]? = some ce ∧ ce.vm = .none ∧ st.vm.findClass E = some ce.cls ∧ st.WarmedH t.vm ∧ st.sameButNew ({ t with vm := st.vm } : State) L mc ms ∧ ∀ z ∈ L, free z.base
def vx_Q (Qc : Array Value → State → Outcome → State → Prop) (XC : String → State → State → Prop) (mc ms : Nat) (free : Addr → Prop) : Array Value → State → Outcome → State → Prop := fun a st o t =>
  (Qc a st o t ∧ ∃ L, FrameEnd st o t L mc ms ∧ ∀ q ∈ L, free q.base) ∨ ∃ q, o = .threw q ∧ vx_T XC st q t mc ms free
/-- a callee that returns or throws -/
def vx_Met (l : Launch) (y : MethodName) (ws : List Cond) (rm : Room) (Pc : Array Value → State → Prop) (Qc : Array Value → State → Outcome → State → Prop) (XC : String → State → State → Prop) (mc ms : Nat) (free : Addr → Prop) : Prop :=
  MetFree l y (headSpec ws rm) Pc (fun _ _ _ _ _ => True) (vx_Q Qc XC mc ms free)
def vx_Post (XC : String → State → State → Prop) (mc ms : Nat) (free : Addr → Prop) : Pt → Array Value → Addr → Pt → Prop := fun A a q B =>
  ∃ (g : JFrame) (mk : MethodId) (t : State) (L : List Loc) (E : String) (ce : Cell), B.U.heap = t.heap ∧ B.U.vm = t.vm ∧ XC E (A.U.calling g mk a) t ∧ t.heap[q]? = some ce ∧ ce.vm = .none ∧ A.U.vm.findClass E = some ce.cls ∧ B.locs = A.locs ++ L ∧ (∀ z ∈ L, free z.base) ∧ B.cells = A.cells + mc ∧ B.slots = A.slots + ms
def vx_Back (l : Launch) (R : Room) (p : Program) (e : Env) (below : List Frame) (s : State) (sargs : Array Value) (y : MethodName) (len W9 : Nat)
    (Pre : Pt → Array Value → Prop) (Post : Pt → Array Value → Option Value → Pt → Prop) (PostX : Pt → Array Value → Addr → Pt → Prop) : Prop :=
  ∀ (m : MethodId) (meth : Method) (c : Code) (A : Pt) (g : JFrame) (ig : Instr) (mk : MethodId) (a : Array Value),
    Stand p l e R s m sargs below meth c A.U A.locs A.cells A.slots → g.method = m → g.locals.size = c.maxLocals → decode c.code g.pc = .ok (ig, len) →
    2 * g.monitorRoom + (g.stack.map fun v => v.category).sum ≤ W9 → A.U.methodNamed? y = some mk → Pre A a →
    (∃ (v : Option Value) (B : Pt), Stand p l e R s m sargs below meth c B.U B.locs B.cells B.slots ∧ Post A a v B ∧
      Steps p.tables e below (doInvoke e (A.U.setTop g) [] mk a).1 (B.U.setTop { g with pc := g.pc + len, stack := v.toList ++ g.stack })) ∨
    (∃ (q : Addr) (B : Pt), Stand p l e R s m sargs below meth c B.U B.locs B.cells B.slots ∧ PostX A a q B ∧
      Steps p.tables e below (doInvoke e (A.U.setTop g) [] mk a).1 ((B.U.setTop g).pushFrame (.throwing q)))
section Payer
variable {l : Launch} {R : Room} {p : Program} {e : Env} {below : List Frame} {s : State} {sargs : Array Value} {y : MethodName} {len W9 : Nat}
theorem vx_back {ws : List Cond} {rm : Room} {Pc : Array Value → State → Prop} {Qc : Array Value → State → Outcome → State → Prop} {XC : String → State → State → Prop} {mc ms : Nat} {free : Addr → Prop} {bytes : ByteArray} {maxL : Nat} {ret : Option FieldType}
    (hM : vx_Met l y ws rm Pc Qc XC mc ms free) (hblind : FrameBlind Pc) (hrc : rm.cells = mc) (hrs : rm.slots = ms)
    (hframes : rm.frames + 1 ≤ R.frames) (hlocals : W9 + (maxL + 11) + rm.locals ≤ R.locals)
    (hws : ∀ w ∈ ws, ∀ a' U, s.WarmedH U.vm → w.before a' U = true) (hcode : Cond.code y bytes maxL ret ∈ ws) (hinit : ∀ a' U, s.WarmedH U.vm → (Cond.initialized y.cls).before a' U = true) :
    vx_Back l R p e below s sargs y len W9 (PreOf R mc ms Pc) (PostOf Qc mc ms free) (vx_Post XC mc ms free) := by
  intro m meth c A g ig mk a X hg hsize hdg hW hn hp
  have h1 : (headSpec ws rm).pre.before a A.U = true := atoms_intro fun w hw => hws w hw _ _ X.warmed
  have h2 : (Cond.code y bytes maxL ret).before a A.U = true := hws _ hcode _ _ X.warmed
  have h3 : (Cond.initialized y.cls).before a A.U = true := hinit _ _ X.warmed
  have h4 : A.cells + (headSpec ws rm).room.cells ≤ R.cells := by rw [show (headSpec ws rm).room.cells = mc from hrc]; exact hp.1
  have h5 : A.slots + (headSpec ws rm).room.slots ≤ R.slots := by rw [show (headSpec ws rm).room.slots = ms from hrs]; exact hp.2.1
  have hPc : Pc a (A.U.calling g mk a) := hblind _ _ _ _ hp.2.2
  obtain ⟨U, Ls, c0, s0⟩ := A
  dsimp only [Pt.U, Pt.locs, Pt.cells, Pt.slots] at h1 h2 h3 h4 h5 X hn hPc ⊢
  obtain ⟨methY, cY, hmY, hcY, -, hlY, -, -, -, -⟩ := Cond.code_spec hn h2
  obtain ⟨kY, hkY, -⟩ := className_of_methodNamed hn
  have hinitY : kY.init = .initialized := Cond.initialized_spec (findClass_of_methodNamed hn) hkY h3
  have h : At U g.method c below := by rw [hg]; exact X.here
  have hlocals9 : W9 + (maxL + 11) + (headSpec ws rm).room.locals ≤ R.locals := hlocals
  have happ : (headSpec ws rm).appliesLoose y e.platform (U.calling g mk a) = true :=
    Spec.appliesLoose_calling (g := g) h hdg hn hkY hinitY
      (X.room_calling (g := g) (R' := (headSpec ws rm).room) hsize hmY hcY hframes (by rw [hlY]; omega) h4 h5) h1
  obtain ⟨mid, hmid⟩ := h.above
  have hfr : (U.setTop g).frames = (.java g :: mid) ++ below := by rw [State.frames_setTop' g h.top, hmid]; rfl
  obtain ⟨o, s₂, hsteps, -, hend, hq⟩ := Steps.callFree hM p X.admits X.cas X.clock (acts := []) hfr happ hPc trivial
  have hq' : vx_Q Qc XC mc ms free a (U.calling g mk a) o s₂ := hq
  rw [State.frames_setTop' g h.top] at hend
  obtain ⟨g₀, hg0⟩ := Option.isSome_iff_exists.mp h.top
  obtain ⟨r, hr⟩ := State.topJava?_eq_some.mp hg0
  have hr' : (({ U with heap := s₂.heap, slotsUsed := s₂.slotsUsed } : State).setVm s₂.vm).frames = .java g₀ :: r := hr
  rcases hq' with ⟨hqc, L, hfe, hL⟩ | ⟨q, rfl, E, ce, L, hx, hce, hcv, hcl, hW₂, hsm, hL⟩
  · obtain ⟨⟨v, rfl⟩, hW₂, e2, q2, q3, q4, q5, q6⟩ := id hfe
    have e3 : s₂ = ({ (U.calling g mk a).setFrames s₂.frames with heap := s₂.heap, slotsUsed := s₂.slotsUsed } : State).setVm s₂.vm := by
      have : s₂ = ({ s₂ with vm := (U.calling g mk a).vm } : State).setVm s₂.vm := rfl
      rw [e2] at this
      exact this
    obtain ⟨c₂, i₂, len₂, hc₂, hd₂, hf₂⟩ := hend
    have hW' : U.WarmedH s₂.vm := hW₂
    have hcc : c₂ = c := by
      have h1 : s₂.code? g.method = U.code? g.method := by
        rw [State.code?_eq, State.code?_eq, hW'.alike.method?]
      exact Option.some.inj (hc₂.symm.trans (h1.trans h.code))
    subst hcc
    have hlen : len₂ = len := by rw [hdg] at hd₂; cases hd₂; rfl
    subst hlen
    have hs₂ : s₂ = (({ U with heap := s₂.heap, slotsUsed := s₂.slotsUsed } : State).setVm s₂.vm).setTop { g with pc := g.pc + len₂, stack := v.toList ++ g.stack } := by
      refine e3.trans ?_
      rw [hf₂, State.calling_eq h.top, State.setFrames_setFrames, State.setTop_of_frames _ hr', hr]
      rfl
    have hsame : U.sameButNew ({ U with heap := s₂.heap, slotsUsed := s₂.slotsUsed } : State) L mc ms := by
      refine ⟨?_, q2, q3, q4, q5, q6⟩
      obtain ⟨t, ht, -⟩ := State.frames_cons hr
      show ({ U with heap := s₂.heap, slotsUsed := s₂.slotsUsed } : State) = { U.setFrames U.frames with heap := s₂.heap, slotsUsed := s₂.slotsUsed }
      rw [State.setFrames_self ht]
    subst hg
    refine Or.inl ⟨v, ⟨(({ U with heap := s₂.heap, slotsUsed := s₂.slotsUsed } : State).setVm s₂.vm), Ls ++ L, c0 + mc, s0 + ms⟩,
      ⟨X.admits, X.cas, X.clock, X.frames, X.room, X.hears, X.method, X.code, (X.here.setHeapUsed s₂.heap s₂.slotsUsed).setVm hW'.alike, X.tail, State.WarmedH.trans X.warmed hW', X.limits, X.bytes, X.same.trans (hsame.setVm s.vm)⟩,
      ⟨g, mk, s₂, L, rfl, rfl, hqc, rfl, hL, rfl, rfl⟩, ?_⟩
    show Steps p.tables e below _ ((({ U with heap := s₂.heap, slotsUsed := s₂.slotsUsed } : State).setVm s₂.vm).setTop { g with pc := g.pc + len₂, stack := v.toList ++ g.stack })
    rw [← hs₂]
    exact hsteps
  · obtain ⟨e2, q2, q3, q4, q5, q6⟩ := id hsm
    have e3 : s₂ = ({ (U.calling g mk a).setFrames s₂.frames with heap := s₂.heap, slotsUsed := s₂.slotsUsed } : State).setVm s₂.vm := by
      have : s₂ = ({ s₂ with vm := (U.calling g mk a).vm } : State).setVm s₂.vm := rfl
      rw [e2] at this
      exact this
    have hf₂ : s₂.frames = .throwing q :: .java g :: U.frames.tail := hend
    have hW' : U.WarmedH s₂.vm := hW₂
    have hs₂ : s₂ = ((({ U with heap := s₂.heap, slotsUsed := s₂.slotsUsed } : State).setVm s₂.vm).setTop g).pushFrame (.throwing q) := by
      refine e3.trans ?_
      rw [hf₂, State.calling_eq h.top, State.setFrames_setFrames, State.pushFrame, State.frames_setTop _ hr', State.setTop_of_frames _ hr', State.setFrames_setFrames, hr]
      rfl
    have hsame : U.sameButNew ({ U with heap := s₂.heap, slotsUsed := s₂.slotsUsed } : State) L mc ms := by
      refine ⟨?_, q2, q3, q4, q5, q6⟩
      obtain ⟨t, ht, -⟩ := State.frames_cons hr
      show ({ U with heap := s₂.heap, slotsUsed := s₂.slotsUsed } : State) = { U.setFrames U.frames with heap := s₂.heap, slotsUsed := s₂.slotsUsed }
      rw [State.setFrames_self ht]
    subst hg
    refine Or.inr ⟨q, ⟨(({ U with heap := s₂.heap, slotsUsed := s₂.slotsUsed } : State).setVm s₂.vm), Ls ++ L, c0 + mc, s0 + ms⟩,
      ⟨X.admits, X.cas, X.clock, X.frames, X.room, X.hears, X.method, X.code, (X.here.setHeapUsed s₂.heap s₂.slotsUsed).setVm hW'.alike, X.tail, State.WarmedH.trans X.warmed hW', X.limits, X.bytes, X.same.trans (hsame.setVm s.vm)⟩,
      ⟨g, mk, s₂, L, E, ce, rfl, rfl, hx, hce, hcv, hcl, rfl, hL, rfl, rfl⟩, ?_⟩
    show Steps p.tables e below _ (((({ U with heap := s₂.heap, slotsUsed := s₂.slotsUsed } : State).setVm s₂.vm).setTop g).pushFrame (.throwing q))
    rw [← hs₂]
    exact hsteps
end Payer
section Calls
variable {p : Program} {l : Launch} {e : Env} {R : Room} {s : State} {m : MethodId} {args : Array Value} {below : List Frame} {meth : Method} {c : Code} {T : State} {locs : List Loc} {cells slots : Nat}
theorem vx_callV (X : Stand p l e R s m args below meth c T locs cells slots) (hexec : p.tables.exec = Jvm.exec) {own C : String} {index : Nat} {y : MethodName} {bytes : ByteArray} {maxL : Nat} {ret : Option FieldType}
    (hown : s.vm.findClass own = some m.cls) (hlink : (Cond.methodLink own index y).before args s = true) (hinst : (Cond.instanceMethod y).before args s = true) (hsel : (Cond.selects C y y).before args s = true)
    (hcode : (Cond.code y bytes maxL ret).before args s = true) (hy : y.cls ≠ "java/lang/invoke/MethodHandle" ∧ y.cls ≠ "java/lang/invoke/VarHandle")
    {W9 : Nat} {Pre : Pt → Array Value → Prop} {Post : Pt → Array Value → Option Value → Pt → Prop} {PostX : Pt → Array Value → Addr → Pt → Prop} (hK : vx_Back l R p e below s args y 3 W9 Pre Post PostX)
    {b : Addr} {cellB : Cell} (hcell : T.heap[b]? = some cellB) (hobj : cellB.vm.isStatics = false) (hcls : s.vm.findClass C = some cellB.cls)
    {g : JFrame} (hg : g.method = m) (hsize : g.locals.size = c.maxLocals) {argsL rest : List Value} (hlen : ∀ sig, parseMethodDescriptor y.desc = some sig → argsL.length = sig.parameters.length)
    (hstack : g.stack = argsL.reverse ++ .ref b :: rest) (hW : 2 * g.monitorRoom + (rest.map fun v => v.category).sum ≤ W9) (hdg : decode c.code g.pc = .ok (.invokevirtual index, 3))
    (hpre : ∀ vm₁, s.WarmedH vm₁ → Pre ⟨T.setVm vm₁, locs, cells, slots⟩ (Value.ref b :: argsL).toArray) :
    (∃ (v : Option Value) (vm₁ : Vm) (B : Pt), s.WarmedH vm₁ ∧ Stand p l e R s m args below meth c B.U B.locs B.cells B.slots ∧ Post ⟨T.setVm vm₁, locs, cells, slots⟩ (Value.ref b :: argsL).toArray v B ∧
      ∀ target, Steps p.tables e below (B.U.setTop { g with pc := g.pc + 3, stack := v.toList ++ rest }) target → Steps p.tables e below (T.setTop g) target) ∨
    (∃ (q : Addr) (vm₁ : Vm) (B : Pt), s.WarmedH vm₁ ∧ Stand p l e R s m args below meth c B.U B.locs B.cells B.slots ∧ PostX ⟨T.setVm vm₁, locs, cells, slots⟩ (Value.ref b :: argsL).toArray q B ∧
      Steps p.tables e below (T.setTop g) ((B.U.setTop { g with stack := rest }).pushFrame (.throwing q))) := by
  obtain ⟨mk, methM, hnamed, hmethM, hstM, habM⟩ := Cond.instanceMethod_spec hinst
  obtain ⟨methM', cM, hmethM', -, -, -, -, -, -, hsigM⟩ := Cond.code_spec hnamed hcode
  cases hmethM.symm.trans hmethM'
  obtain ⟨c2, r2, m2, q1, q2, q3, q4, kP, hkP, hkPi⟩ := Cond.selects_spec hsel
  cases hcls.symm.trans q1
  cases (State.methodFound?_of_named hnamed hy).symm.trans q2
  cases hnamed.symm.trans q3
  have hselP : selectMethod e.platform s.vm cellB.cls mk = .method mk := by rw [Launch.admits_selectMethod X.admits]; exact q4
  obtain ⟨vm₁, X₁, hstep₁⟩ := X.invokevirtual hexec hown hlink hnamed hmethM hstM hkP hkPi hy (a := b) (cell := cellB) hcell
    (fun z h => by rw [h] at hobj; cases hobj) hselP hmethM habM hkP hkPi (g := g) hg (argsL := argsL) (rest := rest) (hlen _ hsigM) hstack hdg
  rcases hK m meth c ⟨T.setVm vm₁, locs, cells, slots⟩ { g with stack := rest } (.invokevirtual index) mk (Value.ref b :: argsL).toArray X₁ hg hsize hdg hW (X₁.named hnamed) (hpre vm₁ X₁.warmed) with ⟨v, B, X', hpost, hsteps⟩ | ⟨q, B, X', hpost, hsteps⟩
  · exact Or.inl ⟨v, vm₁, B, X₁.warmed, X', hpost, fun target h => hstep₁ _ fun acts => by rw [doInvoke_state]; exact hsteps.trans h⟩
  · exact Or.inr ⟨q, vm₁, B, X₁.warmed, X', hpost, hstep₁ _ fun acts => by rw [doInvoke_state]; exact hsteps⟩
theorem vx_callS (X : Stand p l e R s m args below meth c T locs cells slots) (hexec : p.tables.exec = Jvm.exec) {own : String} {index : Nat} {y : MethodName} {bytes : ByteArray} {maxL : Nat} {ret : Option FieldType}
    (hown : s.vm.findClass own = some m.cls) (hlink : (Cond.methodLink own index y).before args s = true) (hstat : (Cond.static y).before args s = true) (hinit : (Cond.initialized y.cls).before args s = true)
    (hcode : (Cond.code y bytes maxL ret).before args s = true) (hy : y.cls ≠ "java/lang/invoke/MethodHandle" ∧ y.cls ≠ "java/lang/invoke/VarHandle")
    {W9 : Nat} {Pre : Pt → Array Value → Prop} {Post : Pt → Array Value → Option Value → Pt → Prop} {PostX : Pt → Array Value → Addr → Pt → Prop} (hK : vx_Back l R p e below s args y 3 W9 Pre Post PostX)
    {g : JFrame} (hg : g.method = m) (hsize : g.locals.size = c.maxLocals) {argsL rest : List Value} (hlen : ∀ sig, parseMethodDescriptor y.desc = some sig → argsL.length = sig.parameters.length)
    (hstack : g.stack = argsL.reverse ++ rest) (hW : 2 * g.monitorRoom + (rest.map fun v => v.category).sum ≤ W9) (hdg : decode c.code g.pc = .ok (.invokestatic index, 3))
    (hpre : ∀ vm₁, s.WarmedH vm₁ → Pre ⟨T.setVm vm₁, locs, cells, slots⟩ argsL.toArray) :
    (∃ (v : Option Value) (vm₁ : Vm) (B : Pt), s.WarmedH vm₁ ∧ Stand p l e R s m args below meth c B.U B.locs B.cells B.slots ∧ Post ⟨T.setVm vm₁, locs, cells, slots⟩ argsL.toArray v B ∧
      ∀ target, Steps p.tables e below (B.U.setTop { g with pc := g.pc + 3, stack := v.toList ++ rest }) target → Steps p.tables e below (T.setTop g) target) ∨
    (∃ (q : Addr) (vm₁ : Vm) (B : Pt), s.WarmedH vm₁ ∧ Stand p l e R s m args below meth c B.U B.locs B.cells B.slots ∧ PostX ⟨T.setVm vm₁, locs, cells, slots⟩ argsL.toArray q B ∧
      Steps p.tables e below (T.setTop g) ((B.U.setTop { g with stack := rest }).pushFrame (.throwing q))) := by
  obtain ⟨mk, hnamed⟩ := Cond.code_named hcode
  obtain ⟨methM, cM, hmethM, -, -, -, -, -, -, hsigM⟩ := Cond.code_spec hnamed hcode
  have hstatic : methM.isStatic = true := Cond.static_spec hnamed hmethM hstat
  obtain ⟨kP, hkP, -⟩ := className_of_methodNamed hnamed
  have hinitP : kP.init = .initialized := Cond.initialized_spec (findClass_of_methodNamed hnamed) hkP hinit
  obtain ⟨vm₁, X₁, hstep₁⟩ := X.invokestatic hexec hown hlink hnamed hmethM hstatic hkP hinitP hy (g := g) hg (argsL := argsL) (rest := rest) (hlen _ hsigM) hstack hdg
  rcases hK m meth c ⟨T.setVm vm₁, locs, cells, slots⟩ { g with stack := rest } (.invokestatic index) mk argsL.toArray X₁ hg hsize hdg hW (X₁.named hnamed) (hpre vm₁ X₁.warmed) with ⟨v, B, X', hpost, hsteps⟩ | ⟨q, B, X', hpost, hsteps⟩
  · exact Or.inl ⟨v, vm₁, B, X₁.warmed, X', hpost, fun target h => hstep₁ _ fun acts => by rw [doInvoke_state]; exact hsteps.trans h⟩
  · exact Or.inr ⟨q, vm₁, B, X₁.warmed, X', hpost, hstep₁ _ fun acts => by rw [doInvoke_state]; exact hsteps⟩
end Calls
theorem vx_cls {s : State} {T : State} {vm₁ : Vm} {E : String} {k : ClassId} (hW : s.WarmedH vm₁) (h : (T.setVm vm₁).vm.findClass E = some k) : s.vm.findClass E = some k := by
  have h1 : vm₁.findClass E = some k := h
  rw [hW.alike.findClass] at h1
  exact h1
/-- the method's frame g, with q thrown over it -/
def vx_W (p : Program) (l : Launch) (e : Env) (R : Room) (s : State) (m : MethodId) (args : Array Value) (below : List Frame) (meth : Method) (c : Code) (H : Heap) (locs : List Loc) (cells slots : Nat) (Q : State → Prop) (g : JFrame) (q : Addr) : Prop :=
  ∀ T : State, T.heap = H → Stand p l e R s m args below meth c T locs cells slots → ∃ t, Steps p.tables e below ((T.setTop g).pushFrame (.throwing q)) t ∧ Q t
def vx_Run (p : Program) (l : Launch) (e : Env) (R : Room) (s : State) (m : MethodId) (args : Array Value) (below : List Frame) (meth : Method) (c : Code) (H : Heap) (locs : List Loc) (cells slots mc ms : Nat) (g : JFrame) (rest : List Value) (Qa : State → Outcome → State → Prop) (XC : String → State → State → Prop) (free : Addr → Prop) : Prop :=
  ∀ T : State, T.heap = H → Stand p l e R s m args below meth c T locs cells slots →
    (∃ (v : Option Value) (st₀ t T' : State) (L : List Loc), st₀.heap = H ∧ Stand p l e R s m args below meth c T' (locs ++ L) (cells + mc) (slots + ms) ∧ (∀ q ∈ L, free q.base) ∧ T'.heap = t.heap ∧ T'.vm = t.vm ∧ Qa st₀ (.returned v) t ∧
      Goes p e below T g T' { g with pc := g.pc + 3, stack := v.toList ++ rest }) ∨
    (∃ (q : Addr) (st₀ t T' : State) (L : List Loc) (E : String) (ce : Cell), st₀.heap = H ∧ Stand p l e R s m args below meth c T' (locs ++ L) (cells + mc) (slots + ms) ∧ (∀ z ∈ L, free z.base) ∧ T'.heap = t.heap ∧ T'.vm = t.vm ∧ XC E st₀ t ∧ t.heap[q]? = some ce ∧ ce.vm = .none ∧ s.vm.findClass E = some ce.cls ∧
      Steps p.tables e below (T.setTop g) ((T'.setTop { g with stack := rest }).pushFrame (.throwing q)))
def vx_X {S : Type} (px : S → Prop) (B : String → S → State → Prop) (A : Nat → Prop) : String → State → State → Prop := fun E st t => ∃ u : S, px u ∧ B E u t ∧ va_F A st t
section Runs
variable {p : Program} {l : Launch} {e : Env} {R : Room} {s : State} {m : MethodId} {args : Array Value} {below : List Frame} {meth : Method} {c : Code} {H : Heap} {locs : List Loc} {cells slots : Nat}
variable {y : MethodName} {bytes cc : ByteArray} {maxL nL mc ms n index : Nat} {ret : Option FieldType} {ws : List Cond} {rm : Room} {Pc : Array Value → State → Prop} {Qc : Array Value → State → Outcome → State → Prop} {XC : String → State → State → Prop} {free : Addr → Prop} {Ts : List Cond} {own C : String} {b : Addr} {As rest : List Value} {g : JFrame}
theorem vx_callBack (cb : CallB R s args own index y bytes maxL ret ws rm mc ms n) (hM : vx_Met l y ws rm Pc Qc XC mc ms free) (hbl : FrameBlind Pc) : vx_Back l R p e below s args y 3 8 (PreOf R mc ms Pc) (PostOf Qc mc ms free) (vx_Post XC mc ms free) := by
  obtain ⟨hrc, hrs, hfr, hlo, hws, hcw, -, hini, -⟩ := cb
  exact vx_back (bytes := bytes) (maxL := maxL) (ret := ret) hM hbl hrc hrs hfr hlo hws hcw (fun a' U hW => word_at hW (Or.inl (by first | rfl | simp [Cond.onTables, Cond.keeps, Cond.steady])) hini)
theorem vx_runV (S : CallFix p m c cc nL s args Ts own) (hM : vx_Met l y ws rm Pc Qc XC mc ms free) (cw : CallW R s args own C index y bytes maxL ret ws rm mc ms n) (hp : PreV s H C b Pc As)
    (hg : g.method = m) (hn : As.length = n) (hsize : g.locals.size = nL) (hstack : g.stack = As.reverse ++ .ref b :: rest) (hW : 2 * g.monitorRoom + (rest.map fun v => v.category).sum ≤ 8) (hdg : decode cc g.pc = .ok (.invokevirtual index, 3)) (hf : cells + mc ≤ R.cells ∧ slots + ms ≤ R.slots) :
    vx_Run p l e R s m args below meth c H locs cells slots mc ms g rest (Qc (Value.ref b :: As).toArray) XC free := by
  have hK : vx_Back l R p e below s args y 3 8 (PreOf R mc ms Pc) (PostOf Qc mc ms free) (vx_Post XC mc ms free) := vx_callBack cw.1 hM hp.1
  obtain ⟨⟨-, -, -, -, -, -, hcode, -, hy, hlen, hl⟩, hin, hse⟩ := cw
  obtain ⟨hx, hb, hml, ho, -⟩ := S
  obtain ⟨-, ⟨cellB, hcB, hoB, hclB⟩, hPc⟩ := hp
  intro T hT X
  rcases vx_callV X hx (C := C) (bytes := bytes) (maxL := maxL) (ret := ret) ho hl hin hse hcode hy hK (by rw [hT]; exact hcB) hoB hclB hg (hsize.trans hml.symm) (argsL := As) (rest := rest) (fun sig h => hn.trans (hlen sig h)) hstack hW (by rw [hb]; exact hdg)
    (fun vm₁ hW₁ => ⟨hf.1, hf.2, hPc (T.setVm vm₁) hT hW₁⟩) with ⟨v, vm₁, ⟨U', l2, c2, s2⟩, hW₁, X', ⟨g', mk, t, L, e1, e2, hq, h1, hL, h2, h3⟩, st⟩ | ⟨q, vm₁, ⟨U', l2, c2, s2⟩, hW₁, X', ⟨g', mk, t, L, E, ce, e1, e2, hq, hce, hcv, hcl, h1, hL, h2, h3⟩, st⟩
  · dsimp only [Pt.U, Pt.locs, Pt.cells, Pt.slots] at X' e1 e2 h1 h2 h3 st
    subst h1; subst h2; subst h3
    exact Or.inl ⟨v, (T.setVm vm₁).calling g' mk (Value.ref b :: As).toArray, t, U', L, hT, X', hL, e1, e2, hq, st⟩
  · dsimp only [Pt.U, Pt.locs, Pt.cells, Pt.slots] at X' e1 e2 h1 h2 h3 st hcl
    subst h1; subst h2; subst h3
    exact Or.inr ⟨q, (T.setVm vm₁).calling g' mk (Value.ref b :: As).toArray, t, U', L, E, ce, hT, X', hL, e1, e2, hq, hce, hcv, vx_cls hW₁ hcl, st⟩
theorem vx_runS (S : CallFix p m c cc nL s args Ts own) (hM : vx_Met l y ws rm Pc Qc XC mc ms free) (cw : CallB R s args own index y bytes maxL ret ws rm mc ms n ∧ (Cond.static y).before args s = true) (hp : PreS s H Pc As)
    (hg : g.method = m) (hn : As.length = n) (hsize : g.locals.size = nL) (hstack : g.stack = As.reverse ++ rest) (hW : 2 * g.monitorRoom + (rest.map fun v => v.category).sum ≤ 8) (hdg : decode cc g.pc = .ok (.invokestatic index, 3)) (hf : cells + mc ≤ R.cells ∧ slots + ms ≤ R.slots) :
    vx_Run p l e R s m args below meth c H locs cells slots mc ms g rest (Qc As.toArray) XC free := by
  have hK : vx_Back l R p e below s args y 3 8 (PreOf R mc ms Pc) (PostOf Qc mc ms free) (vx_Post XC mc ms free) := vx_callBack cw.1 hM hp.1
  obtain ⟨⟨-, -, -, -, -, -, hcode, hini, hy, hlen, hl⟩, hstt⟩ := cw
  obtain ⟨hx, hb, hml, ho, -⟩ := S
  intro T hT X
  rcases vx_callS X hx (bytes := bytes) (maxL := maxL) (ret := ret) ho hl hstt hini hcode hy hK hg (hsize.trans hml.symm) (argsL := As) (rest := rest) (fun sig h => hn.trans (hlen sig h)) hstack hW (by rw [hb]; exact hdg)
    (fun vm₁ hW₁ => ⟨hf.1, hf.2, hp.2 (T.setVm vm₁) hT hW₁⟩) with ⟨v, vm₁, ⟨U', l2, c2, s2⟩, hW₁, X', ⟨g', mk, t, L, e1, e2, hq, h1, hL, h2, h3⟩, st⟩ | ⟨q, vm₁, ⟨U', l2, c2, s2⟩, hW₁, X', ⟨g', mk, t, L, E, ce, e1, e2, hq, hce, hcv, hcl, h1, hL, h2, h3⟩, st⟩
  · dsimp only [Pt.U, Pt.locs, Pt.cells, Pt.slots] at X' e1 e2 h1 h2 h3 st
    subst h1; subst h2; subst h3
    exact Or.inl ⟨v, (T.setVm vm₁).calling g' mk As.toArray, t, U', L, hT, X', hL, e1, e2, hq, st⟩
  · dsimp only [Pt.U, Pt.locs, Pt.cells, Pt.slots] at X' e1 e2 h1 h2 h3 st hcl
    subst h1; subst h2; subst h3
    exact Or.inr ⟨q, (T.setVm vm₁).calling g' mk As.toArray, t, U', L, E, ce, hT, X', hL, e1, e2, hq, hce, hcv, vx_cls hW₁ hcl, st⟩
end Runs
section Rows
variable {p : Program} {l : Launch} {e : Env} {R : Room} {s : State} {m : MethodId} {args : Array Value} {below : List Frame} {meth : Method} {c : Code} {H : Heap} {locs : List Loc} {cells slots : Nat} {Q : State → Prop}
variable {mc ms : Nat} {free : Addr → Prop} {A0 A1 : Nat → Prop} {H0 : Heap} {a : Array Value} {pc : Nat} {ls : Array Slot} {st0 rest : List Value}
theorem vx_keep {st₀ t T' : State} {L : List Loc} (h0 : st₀.heap = H) (e1 : T'.heap = t.heap) (hS : va_S A0 H0 H locs) (hA : ∀ q, q < H.size → A1 q → A0 q) (hf : ∀ q, free q → A0 q) (hL : ∀ q ∈ L, free q.base) (hF : va_F A1 st₀ t) :
    H.size ≤ T'.heap.size ∧ (∀ q : Nat, q < H.size → ¬ A1 q → T'.heap[q]? = H[q]?) ∧ va_S A0 H0 T'.heap (locs ++ L) := by
  obtain ⟨hz, hk⟩ := hF
  rw [h0] at hz hk
  exact ⟨by rw [e1]; exact hz, fun q h1 h2 => by rw [e1]; exact hk q h1 h2,
    ⟨Nat.le_trans hS.1 (by rw [e1]; exact hz), fun q h1 h2 => by rw [e1, hk q (Nat.lt_of_lt_of_le h1 hS.1) (fun z => h2 (hA q (Nat.lt_of_lt_of_le h1 hS.1) z))]; exact hS.2.1 q h1 h2, fun q hq => by
      rcases List.mem_append.mp hq with h | h
      · exact hS.2.2 q h
      · exact hf _ (hL q h)⟩⟩
theorem vx_calli {S SX : Type} {post : Int32 → S → Prop} {px : SX → Prop} {B : S → State → Prop} {BX : String → SX → State → Prop} {AX : Nat → Prop} (hr : vx_Run p l e R s m args below meth c H locs cells slots mc ms (F0 m pc ls st0) rest (va_Qi post B A1 a) (vx_X px BX AX) free) (hS : va_S A0 H0 H locs) (hA : ∀ q, q < H.size → A1 q → A0 q) (hf : ∀ q, free q → A0 q) (hAX : ∀ q, q < H.size → AX q → A0 q)
    (kx : ∀ (E : String) (ce : Cell) (q9 : Addr) (u : SX) (t : State) (H1 : Heap) (locs1 : List Loc), t.heap = H1 → s.vm.Alike t.vm → px u → BX E u t → H.size ≤ H1.size → (∀ q : Nat, q < H.size → ¬ AX q → H1[q]? = H[q]?) → va_S A0 H0 H1 locs1 → H1[q9]? = some ce → ce.vm = .none → s.vm.findClass E = some ce.cls → vx_W p l e R s m args below meth c H1 locs1 (cells + mc) (slots + ms) Q (F0 m pc ls rest) q9)
    (kk : ∀ (r : Int32) (u : S) (t : State) (H1 : Heap) (locs1 : List Loc), t.heap = H1 → s.vm.Alike t.vm → post r u → B u t → H.size ≤ H1.size → (∀ q : Nat, q < H.size → ¬ A1 q → H1[q]? = H[q]?) → va_S A0 H0 H1 locs1 → W p l e R s m args below meth c H1 locs1 (cells + mc) (slots + ms) Q (F0 m (pc + 3) ls (.int r :: rest))) : W p l e R s m args below meth c H locs cells slots Q (F0 m pc ls st0) := by
  intro T hT X
  rcases hr T hT X with ⟨v, st₀, t, T', L, h0, X', hL, e1, e2, ⟨⟨r, u, hv, hp, hb⟩, hF⟩, st⟩ | ⟨q, st₀, t, T', L, E, ce, h0, X', hL, e1, e2, ⟨u, hp, hb, hF⟩, hce, hcv, hcl, st⟩
  · cases hv
    obtain ⟨k1, k2, k3⟩ := vx_keep h0 e1 hS hA hf hL hF
    obtain ⟨t2, a1, b1⟩ := kk r u t T'.heap (locs ++ L) e1.symm (by rw [← e2]; exact X'.warmed.alike) hp hb k1 k2 k3 T' rfl X'
    exact ⟨t2, st t2 a1, b1⟩
  · obtain ⟨k1, k2, k3⟩ := vx_keep h0 e1 hS hAX hf hL hF
    obtain ⟨t2, a1, b1⟩ := kx E ce q u t T'.heap (locs ++ L) e1.symm (by rw [← e2]; exact X'.warmed.alike) hp hb k1 k2 k3 (by rw [e1]; exact hce) hcv hcl T' rfl X'
    exact ⟨t2, st.trans a1, b1⟩
theorem vx_calll {S SX : Type} {post : Int64 → S → Prop} {px : SX → Prop} {B : S → State → Prop} {BX : String → SX → State → Prop} {AX : Nat → Prop} (hr : vx_Run p l e R s m args below meth c H locs cells slots mc ms (F0 m pc ls st0) rest (va_Ql post B A1 a) (vx_X px BX AX) free) (hS : va_S A0 H0 H locs) (hA : ∀ q, q < H.size → A1 q → A0 q) (hf : ∀ q, free q → A0 q) (hAX : ∀ q, q < H.size → AX q → A0 q)
    (kx : ∀ (E : String) (ce : Cell) (q9 : Addr) (u : SX) (t : State) (H1 : Heap) (locs1 : List Loc), t.heap = H1 → s.vm.Alike t.vm → px u → BX E u t → H.size ≤ H1.size → (∀ q : Nat, q < H.size → ¬ AX q → H1[q]? = H[q]?) → va_S A0 H0 H1 locs1 → H1[q9]? = some ce → ce.vm = .none → s.vm.findClass E = some ce.cls → vx_W p l e R s m args below meth c H1 locs1 (cells + mc) (slots + ms) Q (F0 m pc ls rest) q9)
    (kk : ∀ (r : Int64) (u : S) (t : State) (H1 : Heap) (locs1 : List Loc), t.heap = H1 → s.vm.Alike t.vm → post r u → B u t → H.size ≤ H1.size → (∀ q : Nat, q < H.size → ¬ A1 q → H1[q]? = H[q]?) → va_S A0 H0 H1 locs1 → W p l e R s m args below meth c H1 locs1 (cells + mc) (slots + ms) Q (F0 m (pc + 3) ls (.long r :: rest))) : W p l e R s m args below meth c H locs cells slots Q (F0 m pc ls st0) := by
  intro T hT X
  rcases hr T hT X with ⟨v, st₀, t, T', L, h0, X', hL, e1, e2, ⟨⟨r, u, hv, hp, hb⟩, hF⟩, st⟩ | ⟨q, st₀, t, T', L, E, ce, h0, X', hL, e1, e2, ⟨u, hp, hb, hF⟩, hce, hcv, hcl, st⟩
  · cases hv
    obtain ⟨k1, k2, k3⟩ := vx_keep h0 e1 hS hA hf hL hF
    obtain ⟨t2, a1, b1⟩ := kk r u t T'.heap (locs ++ L) e1.symm (by rw [← e2]; exact X'.warmed.alike) hp hb k1 k2 k3 T' rfl X'
    exact ⟨t2, st t2 a1, b1⟩
  · obtain ⟨k1, k2, k3⟩ := vx_keep h0 e1 hS hAX hf hL hF
    obtain ⟨t2, a1, b1⟩ := kx E ce q u t T'.heap (locs ++ L) e1.symm (by rw [← e2]; exact X'.warmed.alike) hp hb k1 k2 k3 (by rw [e1]; exact hce) hcv hcl T' rfl X'
    exact ⟨t2, st.trans a1, b1⟩
theorem vx_callf {S SX : Type} {post : UInt32 → S → Prop} {px : SX → Prop} {B : S → State → Prop} {BX : String → SX → State → Prop} {AX : Nat → Prop} (hr : vx_Run p l e R s m args below meth c H locs cells slots mc ms (F0 m pc ls st0) rest (va_Qf post B A1 a) (vx_X px BX AX) free) (hS : va_S A0 H0 H locs) (hA : ∀ q, q < H.size → A1 q → A0 q) (hf : ∀ q, free q → A0 q) (hAX : ∀ q, q < H.size → AX q → A0 q)
    (kx : ∀ (E : String) (ce : Cell) (q9 : Addr) (u : SX) (t : State) (H1 : Heap) (locs1 : List Loc), t.heap = H1 → s.vm.Alike t.vm → px u → BX E u t → H.size ≤ H1.size → (∀ q : Nat, q < H.size → ¬ AX q → H1[q]? = H[q]?) → va_S A0 H0 H1 locs1 → H1[q9]? = some ce → ce.vm = .none → s.vm.findClass E = some ce.cls → vx_W p l e R s m args below meth c H1 locs1 (cells + mc) (slots + ms) Q (F0 m pc ls rest) q9)
    (kk : ∀ (r : UInt32) (u : S) (t : State) (H1 : Heap) (locs1 : List Loc), t.heap = H1 → s.vm.Alike t.vm → post r u → B u t → H.size ≤ H1.size → (∀ q : Nat, q < H.size → ¬ A1 q → H1[q]? = H[q]?) → va_S A0 H0 H1 locs1 → W p l e R s m args below meth c H1 locs1 (cells + mc) (slots + ms) Q (F0 m (pc + 3) ls (.float r :: rest))) : W p l e R s m args below meth c H locs cells slots Q (F0 m pc ls st0) := by
  intro T hT X
  rcases hr T hT X with ⟨v, st₀, t, T', L, h0, X', hL, e1, e2, ⟨⟨r, u, hv, hp, hb⟩, hF⟩, st⟩ | ⟨q, st₀, t, T', L, E, ce, h0, X', hL, e1, e2, ⟨u, hp, hb, hF⟩, hce, hcv, hcl, st⟩
  · cases hv
    obtain ⟨k1, k2, k3⟩ := vx_keep h0 e1 hS hA hf hL hF
    obtain ⟨t2, a1, b1⟩ := kk r u t T'.heap (locs ++ L) e1.symm (by rw [← e2]; exact X'.warmed.alike) hp hb k1 k2 k3 T' rfl X'
    exact ⟨t2, st t2 a1, b1⟩
  · obtain ⟨k1, k2, k3⟩ := vx_keep h0 e1 hS hAX hf hL hF
    obtain ⟨t2, a1, b1⟩ := kx E ce q u t T'.heap (locs ++ L) e1.symm (by rw [← e2]; exact X'.warmed.alike) hp hb k1 k2 k3 (by rw [e1]; exact hce) hcv hcl T' rfl X'
    exact ⟨t2, st.trans a1, b1⟩
theorem vx_calld {S SX : Type} {post : UInt64 → S → Prop} {px : SX → Prop} {B : S → State → Prop} {BX : String → SX → State → Prop} {AX : Nat → Prop} (hr : vx_Run p l e R s m args below meth c H locs cells slots mc ms (F0 m pc ls st0) rest (va_Qd post B A1 a) (vx_X px BX AX) free) (hS : va_S A0 H0 H locs) (hA : ∀ q, q < H.size → A1 q → A0 q) (hf : ∀ q, free q → A0 q) (hAX : ∀ q, q < H.size → AX q → A0 q)
    (kx : ∀ (E : String) (ce : Cell) (q9 : Addr) (u : SX) (t : State) (H1 : Heap) (locs1 : List Loc), t.heap = H1 → s.vm.Alike t.vm → px u → BX E u t → H.size ≤ H1.size → (∀ q : Nat, q < H.size → ¬ AX q → H1[q]? = H[q]?) → va_S A0 H0 H1 locs1 → H1[q9]? = some ce → ce.vm = .none → s.vm.findClass E = some ce.cls → vx_W p l e R s m args below meth c H1 locs1 (cells + mc) (slots + ms) Q (F0 m pc ls rest) q9)
    (kk : ∀ (r : UInt64) (u : S) (t : State) (H1 : Heap) (locs1 : List Loc), t.heap = H1 → s.vm.Alike t.vm → post r u → B u t → H.size ≤ H1.size → (∀ q : Nat, q < H.size → ¬ A1 q → H1[q]? = H[q]?) → va_S A0 H0 H1 locs1 → W p l e R s m args below meth c H1 locs1 (cells + mc) (slots + ms) Q (F0 m (pc + 3) ls (.double r :: rest))) : W p l e R s m args below meth c H locs cells slots Q (F0 m pc ls st0) := by
  intro T hT X
  rcases hr T hT X with ⟨v, st₀, t, T', L, h0, X', hL, e1, e2, ⟨⟨r, u, hv, hp, hb⟩, hF⟩, st⟩ | ⟨q, st₀, t, T', L, E, ce, h0, X', hL, e1, e2, ⟨u, hp, hb, hF⟩, hce, hcv, hcl, st⟩
  · cases hv
    obtain ⟨k1, k2, k3⟩ := vx_keep h0 e1 hS hA hf hL hF
    obtain ⟨t2, a1, b1⟩ := kk r u t T'.heap (locs ++ L) e1.symm (by rw [← e2]; exact X'.warmed.alike) hp hb k1 k2 k3 T' rfl X'
    exact ⟨t2, st t2 a1, b1⟩
  · obtain ⟨k1, k2, k3⟩ := vx_keep h0 e1 hS hAX hf hL hF
    obtain ⟨t2, a1, b1⟩ := kx E ce q u t T'.heap (locs ++ L) e1.symm (by rw [← e2]; exact X'.warmed.alike) hp hb k1 k2 k3 (by rw [e1]; exact hce) hcv hcl T' rfl X'
    exact ⟨t2, st.trans a1, b1⟩
theorem vx_callv {S SX : Type} {post : S → Prop} {px : SX → Prop} {B : S → State → Prop} {BX : String → SX → State → Prop} {AX : Nat → Prop} (hr : vx_Run p l e R s m args below meth c H locs cells slots mc ms (F0 m pc ls st0) rest (va_Qv post B A1 a) (vx_X px BX AX) free) (hS : va_S A0 H0 H locs) (hA : ∀ q, q < H.size → A1 q → A0 q) (hf : ∀ q, free q → A0 q) (hAX : ∀ q, q < H.size → AX q → A0 q)
    (kx : ∀ (E : String) (ce : Cell) (q9 : Addr) (u : SX) (t : State) (H1 : Heap) (locs1 : List Loc), t.heap = H1 → s.vm.Alike t.vm → px u → BX E u t → H.size ≤ H1.size → (∀ q : Nat, q < H.size → ¬ AX q → H1[q]? = H[q]?) → va_S A0 H0 H1 locs1 → H1[q9]? = some ce → ce.vm = .none → s.vm.findClass E = some ce.cls → vx_W p l e R s m args below meth c H1 locs1 (cells + mc) (slots + ms) Q (F0 m pc ls rest) q9)
    (kk : ∀ (u : S) (t : State) (H1 : Heap) (locs1 : List Loc), t.heap = H1 → s.vm.Alike t.vm → post u → B u t → H.size ≤ H1.size → (∀ q : Nat, q < H.size → ¬ A1 q → H1[q]? = H[q]?) → va_S A0 H0 H1 locs1 → W p l e R s m args below meth c H1 locs1 (cells + mc) (slots + ms) Q (F0 m (pc + 3) ls (rest))) : W p l e R s m args below meth c H locs cells slots Q (F0 m pc ls st0) := by
  intro T hT X
  rcases hr T hT X with ⟨v, st₀, t, T', L, h0, X', hL, e1, e2, ⟨⟨u, hv, hp, hb⟩, hF⟩, st⟩ | ⟨q, st₀, t, T', L, E, ce, h0, X', hL, e1, e2, ⟨u, hp, hb, hF⟩, hce, hcv, hcl, st⟩
  · cases hv
    obtain ⟨k1, k2, k3⟩ := vx_keep h0 e1 hS hA hf hL hF
    obtain ⟨t2, a1, b1⟩ := kk u t T'.heap (locs ++ L) e1.symm (by rw [← e2]; exact X'.warmed.alike) hp hb k1 k2 k3 T' rfl X'
    exact ⟨t2, st t2 a1, b1⟩
  · obtain ⟨k1, k2, k3⟩ := vx_keep h0 e1 hS hAX hf hL hF
    obtain ⟨t2, a1, b1⟩ := kx E ce q u t T'.heap (locs ++ L) e1.symm (by rw [← e2]; exact X'.warmed.alike) hp hb k1 k2 k3 (by rw [e1]; exact hce) hcv hcl T' rfl X'
    exact ⟨t2, st.trans a1, b1⟩
/-- caught by the row x of this method's table; the rows ahead don't take it -/
theorem vx_catch {own name : String} {E : String} {ce : Cell} {q : Addr} (hown : s.vm.findClass own = some m.cls) (pre : List ExceptionTableEntry) (x : ExceptionTableEntry) (suf : List ExceptionTableEntry) (hsplit : c.exceptionTable.toList = pre ++ x :: suf)
    (hpass : ∀ z ∈ pre, covers z pc = false ∨ (z.catchType ≠ 0 ∧ ∃ nm : String, (Cond.classLink own z.catchType nm).before args s = true ∧ va_Nc E nm s)) (hx : covers x pc = true) (h0 : x.catchType ≠ 0)
    (hlink : (Cond.classLink own x.catchType name).before args s = true) (hcast : (Cond.castable E name).before args s = true) (hcell : H[q]? = some ce) (hv : ce.vm = .none) (hcl : s.vm.findClass E = some ce.cls)
    (kk : W p l e R s m args below meth c H locs cells slots Q (F0 m x.handlerPc ls [.ref q])) : vx_W p l e R s m args below meth c H locs cells slots Q (F0 m pc ls rest) q := by
  intro T hT X
  have hpl : e.platform.magicAccessors = ({} : Platform).magicAccessors := by rw [X.admits.platform]
  obtain ⟨c3, c4, hc3, hc4, hasg⟩ := Cond.castable_spec hcast
  cases Option.some.inj (hc3.symm.trans hcl)
  obtain ⟨c5, hc5, hcl5⟩ := Cond.classLink_spec hown hlink e.platform hpl
  cases Option.some.inj (hc4.symm.trans hc5)
  obtain ⟨vm', X', st⟩ := X.thenCaughtThrough q (g := F0 m pc ls rest) rfl (Steps.refl _) (by rw [hT]; exact hcell) (by rw [hv]; rfl) (by obtain ⟨k9, h9, -⟩ := Vm.findClass_spec hcl; exact ⟨k9, h9⟩) pre x suf hsplit
    (fun z hz => by
      rcases hpass z hz with h | ⟨hz0, nm, hl1, hn1⟩
      · exact Or.inl h
      · obtain ⟨c6, hc6, hcl6⟩ := Cond.classLink_spec hown hl1 e.platform hpl
        obtain ⟨a8, b8, h1, h2, h3⟩ := hn1
        cases Option.some.inj (h1.symm.trans hcl)
        cases Option.some.inj (h2.symm.trans hc6)
        exact Or.inr ⟨hz0, _, hcl6, h3⟩) hx (Or.inr ⟨h0, c4, hcl5, hasg⟩)
  obtain ⟨t, a1, b1⟩ := kk (T.setVm vm') hT X'
  exact ⟨t, st.trans a1, b1⟩
end Rows
section Ends
variable {p : Program} {l : Launch} {e : Env} {R : Room} {s : State} {m : MethodId} {args : Array Value} {below : List Frame} {meth : Method} {c : Code} {H : Heap} {locs : List Loc} {cells slots : Nat} {Q : State → Prop}
variable {mc ms : Nat} {free : Addr → Prop} {A0 A1 : Nat → Prop} {H0 : Heap} {a : Array Value} {ls : Array Slot} {st0 rest : List Value}
variable {Qc : Array Value → State → Outcome → State → Prop} {XC : String → State → State → Prop}
/-- what a body that may throw owes at its end -/
def vx_MQ (below : List Frame) (Qc : Array Value → State → Outcome → State → Prop) (XC : String → State → State → Prop) (a : Array Value) (s : State) (mc ms : Nat) (free : Addr → Prop) : State → Prop := fun t =>
  ∃ o, t.status = .running ∧ Ended t below o ∧ vx_Q Qc XC mc ms free a s o t
theorem vx_ret {g : JFrame} {mc ms : Nat} (k : W p l e R s m args below meth c H locs cells slots (MQ below Qc args s mc ms free) g) : W p l e R s m args below meth c H locs cells slots (vx_MQ below Qc XC args s mc ms free) g := by
  intro T hT X
  obtain ⟨t, a1, o, b1, b2, b3, b4⟩ := k T hT X
  exact ⟨t, a1, o, b1, b2, Or.inl ⟨b3, b4⟩⟩
/-- not caught here: it goes on to the caller -/
theorem vx_widen {g : JFrame} {q : Addr} {k n : Nat} (h1 : cells ≤ k) (h2 : slots ≤ n) (kk : vx_W p l e R s m args below meth c H locs k n Q g q) : vx_W p l e R s m args below meth c H locs cells slots Q g q := fun T hT X => kk T hT (stand_widen X h1 h2)
theorem vx_out {pc : Nat} {E : String} {ce : Cell} {q : Addr} {mc ms : Nat} (hout : ∀ x ∈ c.exceptionTable.toList, covers x pc = false) (hlocks : meth.locks = false) (hcell : H[q]? = some ce) (hv : ce.vm = .none) (hcl : s.vm.findClass E = some ce.cls)
    (hx : ∀ t : State, t.heap = H → s.vm.Alike t.vm → XC E s t) (hf : ∀ z ∈ locs, free z.base) (hc : cells ≤ mc) (hs : slots ≤ ms) :
    vx_W p l e R s m args below meth c H locs cells slots (vx_MQ below Qc XC args s mc ms free) (F0 m pc ls rest) q := by
  intro T hT X
  obtain ⟨st1, hrun, hend, hW, hsm⟩ := X.leaveThrown q (g := F0 m pc ls rest) rfl rfl rfl hout hlocks
  have hcell9 : (T.setFrames (.throwing q :: below)).heap[q]? = some ce := by
    show T.heap[q]? = some ce
    rw [hT]; exact hcell
  exact ⟨_, st1, .threw q, hrun, hend, Or.inr ⟨q, rfl, E, ce, locs, hx _ hT hW.alike, hcell9, hv, hcl, hW, hsm.mono hc hs, hf⟩⟩
theorem vx_frame {U : State} {k n : Nat} (h : s.sameButNew ({ U with vm := s.vm } : State) locs k n) : s.heap.size ≤ U.heap.size ∧ ∀ q : Nat, q < s.heap.size → (∀ z ∈ locs, z.base ≠ q) → U.heap[q]? = s.heap[q]? := by
  obtain ⟨-, h2, -, -, -, h6⟩ := h
  refine ⟨h2, fun q hq hz => ?_⟩
  obtain ⟨c9, e1, e2, e3, e4⟩ := h6 q _ (Array.getElem?_eq_getElem hq)
  have hs : c9.slots = (s.heap[q]).slots := Array.ext_getElem? fun i => e4 i fun hm => hz _ hm rfl
  have h9 : c9 = s.heap[q] := by
    rw [hs] at e2
    exact e2
  have e5 : U.heap[q]? = some c9 := e1
  rw [e5, h9, Array.getElem?_eq_getElem hq]
/-- the words of a throw but the four that speak of the heap -/
def vx_no (w : Cond) : Bool := decide (w ≠ .isRef (.static Bundle.tN "UNASSIGNED_STACK" Bundle.steD)) && decide (w ≠ .isRef (.static Bundle.tN "SUPPRESSED_SENTINEL" Bundle.listD)) && decide (w ≠ .laysStatic Bundle.tN "UNASSIGNED_STACK" Bundle.steD) && decide (w ≠ .laysStatic Bundle.tN "SUPPRESSED_SENTINEL" Bundle.listD)
def vx_at0 (own : String) (ic : Nat) (X : String) (names : List String) : List Cond := (Bundle.ownAtoms0 own ic X names).filter vx_no
def vx_atS (own : String) (ic : Nat) (X : String) (names : List String) : List Cond := (Bundle.ownAtoms own ic X names).filter vx_no
/-- a word that the tables alone decide, or a good one -/
def vx_ot (w : Cond) : Bool := w.onTables || goodWord w
theorem vx_ot_at {args a' : Array Value} {s U : State} {w : Cond} (hW : s.WarmedH U.vm) (hvm : s.vm = U.vm) (hg : vx_ot w = true) (h : w.before args s = true) : w.before a' U = true := by
  simp only [vx_ot, Bool.or_eq_true] at hg
  rcases hg with hg | hg
  · exact va_tabs hg hvm h
  · exact word_at hW (good_of_word hg) h
/-- a list's words: the good ones out of the method's own list, the others by premises of their own -/
theorem vx_hat {args : Array Value} {s : State} {L B : List Cond} (h1 : ∀ w ∈ L.filter goodWord, w.before args s = true) (h2 : ∀ w ∈ L.filter (fun w => !goodWord w), w ∈ B) (h3 : ∀ w ∈ B, w.before args s = true) : ∀ w ∈ L, w.before args s = true := by
  intro w hw
  by_cases g : goodWord w = true
  · exact h1 w (List.mem_filter.mpr ⟨hw, g⟩)
  · refine h3 w (h2 w (List.mem_filter.mpr ⟨hw, ?_⟩))
    show (!goodWord w) = true
    cases hgw : goodWord w
    · rfl
    · exact absurd hgw g
theorem vx_c {args : Array Value} {s : State} {w : Cond} {B : List Cond} (h : w.before args s = true) (t : ∀ w ∈ B, w.before args s = true) : ∀ w' ∈ w :: B, w'.before args s = true := fun w' h' => (List.mem_cons.mp h').elim (fun e => by rw [e]; exact h) (t w')
theorem vx_n {args : Array Value} {s : State} : ∀ w ∈ ([] : List Cond), w.before args s = true := fun _ h => nomatch h
theorem vx_own {args : Array Value} {s : State} {L : List Cond} (h1 : ∀ w ∈ L.filter vx_no, w.before args s = true)
    (hU : (Cond.isRef (.static Bundle.tN "UNASSIGNED_STACK" Bundle.steD)).before args s = true) (hN : (Cond.isRef (.static Bundle.tN "SUPPRESSED_SENTINEL" Bundle.listD)).before args s = true)
    (lU : (Cond.laysStatic Bundle.tN "UNASSIGNED_STACK" Bundle.steD).before args s = true) (lN : (Cond.laysStatic Bundle.tN "SUPPRESSED_SENTINEL" Bundle.listD).before args s = true) : ∀ w ∈ L, w.before args s = true := by
  intro w hw
  by_cases e1 : w = .isRef (.static Bundle.tN "UNASSIGNED_STACK" Bundle.steD)
  · rw [e1]; exact hU
  · by_cases e2 : w = .isRef (.static Bundle.tN "SUPPRESSED_SENTINEL" Bundle.listD)
    · rw [e2]; exact hN
    · by_cases e3 : w = .laysStatic Bundle.tN "UNASSIGNED_STACK" Bundle.steD
      · rw [e3]; exact lU
      · by_cases e4 : w = .laysStatic Bundle.tN "SUPPRESSED_SENTINEL" Bundle.listD
        · rw [e4]; exact lN
        · exact h1 w (List.mem_filter.mpr ⟨hw, by unfold vx_no; rw [decide_eq_true e1, decide_eq_true e2, decide_eq_true e3, decide_eq_true e4]; rfl⟩)
/-- where a static field lies, its class's statics cell in H -/
def vx_L (C n d : String) (A : Nat → Prop) (U : State) (H : Heap) : Prop := ∃ (c : ClassId) (k : Class) (i : Nat) (f : Field) (a : Nat) (cell : Cell), U.vm.findClass C = some c ∧ U.fieldFound? C n d = some (c, k, i, f) ∧ f.isStatic = true ∧ k.statics = some a ∧ H[a]? = some cell ∧ cell.vm.isStatics = true ∧ cell.cls = c ∧ f.slot < cell.slots.size ∧ k.staticTypes[f.slot]? = some f.type ∧ ¬ A a
theorem vx_L.moved {C n d : String} {A : Nat → Prop} {u U : State} {H : Heap} (hvm : u.vm.Alike U.vm) (h : vx_L C n d A u H) : vx_L C n d A U H := by
  obtain ⟨c, k, i, f, a, cell, h1, h2, h3, h4, h5, h6, h7, h8, h9, h10⟩ := h
  obtain ⟨k', hi', he⟩ := State.fieldFound?_setVm hvm h2
  exact ⟨c, k', i, f, a, cell, by rw [hvm.findClass]; exact h1, hi', h3, by rw [he]; exact h4, h5, h6, h7, h8, by rw [he]; exact h9, h10⟩
theorem vx_L.kept {C n d : String} {A : Nat → Prop} {U : State} {H H1 : Heap} (h : vx_L C n d A U H) (hq : ∀ a : Nat, a < H.size → ¬ A a → H1[a]? = H[a]?) : vx_L C n d A U H1 := by
  obtain ⟨c, k, i, f, a, cell, h1, h2, h3, h4, h5, h6, h7, h8, h9, h10⟩ := h
  exact ⟨c, k, i, f, a, cell, h1, h2, h3, h4, by rw [hq a (Array.getElem?_eq_some_iff.mp h5).1 h10]; exact h5, h6, h7, h8, h9, h10⟩
theorem vx_L.narrow {C n d : String} {A B : Nat → Prop} {U : State} {H : Heap} (h : vx_L C n d A U H) (hAB : ∀ q, B q → A q) : vx_L C n d B U H := by
  obtain ⟨c, k, i, f, a, cell, h1, h2, h3, h4, h5, h6, h7, h8, h9, h10⟩ := h
  exact ⟨c, k, i, f, a, cell, h1, h2, h3, h4, h5, h6, h7, h8, h9, fun z => h10 (hAB _ z)⟩
theorem vx_L.word {C n d : String} {A : Nat → Prop} {s : State} {args : Array Value} (h : vx_L C n d A s s.heap) : (Cond.laysStatic C n d).before args s = true := by
  obtain ⟨c, k, i, f, a, cell, h1, h2, h3, h4, h5, h6, h7, h8, h9, -⟩ := h
  show (Cond.laysStatic C n d).holds args s none s [] = true
  exact Cond.laysStatic_of h1 h2 h3 h4 h5 h6 h7 h8 h9
/-- .. and what it holds: null or some reference -/
def vx_Zq (C n d : String) (A : Nat → Prop) (U : State) (H : Heap) : Prop := va_Zq C n d A U H ∧ vx_L C n d A U H
theorem vx_Zq.moved {C n d : String} {A : Nat → Prop} {u U : State} {H : Heap} (hvm : u.vm.Alike U.vm) (h : vx_Zq C n d A u H) : vx_Zq C n d A U H := ⟨va_Zq.moved hvm h.1, vx_L.moved hvm h.2⟩
theorem vx_Zq.kept {C n d : String} {A : Nat → Prop} {U : State} {H H1 : Heap} (h : vx_Zq C n d A U H) (hq : ∀ a : Nat, a < H.size → ¬ A a → H1[a]? = H[a]?) : vx_Zq C n d A U H1 := ⟨va_Zq.kept h.1 hq, vx_L.kept h.2 hq⟩
theorem vx_Zq.narrow {C n d : String} {A B : Nat → Prop} {U : State} {H : Heap} (h : vx_Zq C n d A U H) (hAB : ∀ q, B q → A q) : vx_Zq C n d B U H := ⟨va_Zq.narrow h.1 hAB, vx_L.narrow h.2 hAB⟩
theorem vx_Zqof {args : Array Value} {s : State} {C n d : String} {A : Nat → Prop} (hl : (Cond.laysStatic C n d).before args s = true) (hini : (Cond.initialized C).before args s = true) (h : (Cond.isRef (.static C n d)).before args s = true) (hA : ∀ a : Nat, a < s.heap.size → ¬ A a) : vx_Zq C n d A s s.heap := by
  refine ⟨va_Zqof hl hini h hA, ?_⟩
  obtain ⟨c, k, i, f, a, cell, h1, h2, h3, h4, h5, h6, h7, h8, h9⟩ := Cond.laysStatic_spec hl
  exact ⟨c, k, i, f, a, cell, h1, h2, h3, h4, h5, h6, h7, h8, h9, hA a (Array.getElem?_eq_some_iff.mp h5).1⟩
theorem vx_isRef {C n d : String} {v : Value} {A : Nat → Prop} {s : State} {args : Array Value} (h : va_Z C n d v A s s.heap) (hv : v.isRef = true) : (Cond.isRef (.static C n d)).before args s = true := by
  obtain ⟨cf, kf, fi, f, a, cell, h1, h2, h3, h4, h5, h6, h7, -⟩ := h
  have he : (Term.static C n d).eval args s none [] s = some v := by
    simp [Term.eval, State.fieldNamed?, h1, h2, h4, h5, h6, h7]
  simp only [Cond.before, Cond.holds, Cond.value, he]
  cases v <;> simp_all [Value.isRef]
theorem vx_isRefq {C n d : String} {A : Nat → Prop} {s : State} {args : Array Value} (h : va_Zq C n d A s s.heap) : (Cond.isRef (.static C n d)).before args s = true := by
  rcases h with h | ⟨t, h⟩
  · exact vx_isRef h rfl
  · exact vx_isRef h rfl
/-- the same frame, seen from here: as if the method were called anew in this heap -/
theorem vx_rebase {T : State} (X : Stand p l e R s m args below meth c T locs cells slots) {R' : Room} (hf : R'.frames ≤ R.frames) (hl : R'.locals ≤ R.locals) (hc : cells + R'.cells ≤ R.cells) (hs : slots + R'.slots ≤ R.slots) :
    Stand p l e R' ((T.setVm s.vm).setFrames (.invoking m args :: below)) m args below meth c T [] 0 0 := by
  have htop : (T.setVm s.vm).topJava?.isSome := X.here.top
  have hF : ((T.setVm s.vm).setFrames (.invoking m args :: below)).frames = .invoking m args :: below := State.frames_setFrames _ (State.cur_lt_of_top htop)
  obtain ⟨g₀, hg0⟩ := Option.isSome_iff_exists.mp htop
  obtain ⟨r, hr⟩ := State.topJava?_eq_some.mp hg0
  have hl9 : e.platform.stackLimits (T.setVm s.vm).me = e.platform.stackLimits s.me := X.limits
  have hb9 : (T.setVm s.vm).me.stackBytes = s.me.stackBytes := X.bytes
  refine ⟨X.admits, X.cas, X.clock, hF, ?_, X.hears, X.method, X.code, X.here, X.tail, X.warmed, ?_, ?_, ?_⟩
  · have h := X.room
    have hU : ((T.setVm s.vm).setFrames (.invoking m args :: below)).localsInUse = s.localsInUse := by
      rw [State.localsInUse_invoking hF (meth := meth) (c := c) X.method X.code, State.localsInUse_invoking X.frames X.method X.code]
    simp only [State.hasRoom, Bool.and_eq_true, decide_eq_true_eq] at h ⊢
    obtain ⟨⟨⟨⟨h1, h2, h3, h4, h5, h6⟩, h7⟩, h8⟩, h9⟩ := h
    rw [X.frames, List.length_cons] at h2 h3
    have q1 := X.heapSize
    have q2 := X.used
    simp only [hF, hU, List.length_cons, State.stackLimits_setFrames, State.stackBytes_setFrames, hl9, hb9]
    refine ⟨⟨⟨⟨by omega, by omega, by omega, by omega, by omega, h6⟩, ?_⟩, ?_⟩, X.book⟩
    · show T.heap.size + R'.cells ≤ e.platform.maxCells
      omega
    · show T.slotsUsed + R'.slots ≤ e.platform.maxSlots
      omega
  · rw [State.stackLimits_setFrames]; rfl
  · rw [State.stackBytes_setFrames]; rfl
  · refine ⟨?_, Nat.le_refl _, Nat.le_refl _, ?_, ?_, fun a c9 h9 => ⟨c9, h9, rfl, rfl, fun _ _ => rfl⟩⟩
    · obtain ⟨t, ht, -⟩ := State.frames_cons hr
      show T.setVm s.vm = { ((T.setVm s.vm).setFrames (.invoking m args :: below)).setFrames (T.setVm s.vm).frames with heap := T.heap, slotsUsed := T.slotsUsed }
      rw [State.setFrames_setFrames, State.setFrames_self ht]
      rfl
    · show T.slotsUsed = T.slotsUsed + ((T.heap.toList.drop T.heap.size).map (·.slots.size)).sum
      rw [List.drop_eq_nil_of_le (Nat.le_of_eq Array.length_toList)]
      rfl
    · show ((T.heap.toList.drop T.heap.size).map (·.slots.size)).sum ≤ 0
      rw [List.drop_eq_nil_of_le (Nat.le_of_eq Array.length_toList)]
      exact Nat.le_refl _
/-- 'throw new E()': new; dup; invokespecial; athrow -/
theorem vx_throw0 {cc : ByteArray} {pc : Nat} (hexec : p.tables.exec = Jvm.exec) (hb : c.code = cc) (hl : l.stackTraces = false) {own cls : String} {names : List String} {ik ic mc ms : Nat} {A : Nat → Prop}
    (hown : s.vm.findClass own = some m.cls) (hcls : Bundle.fit cls = true) (hnames : ∀ n ∈ names, Bundle.fit n = true)
    (hk : (Cond.classLink own ik cls).before args s = true) (hini : (Cond.initialized cls).before args s = true) (hat : ∀ w ∈ vx_at0 own ic cls names, w.before args s = true)
    (hgood : ∀ w ∈ Cond.classLink own ik cls :: Cond.initialized cls :: vx_at0 own ic cls names, vx_ot w = true)
    (hU : vx_Zq Bundle.tN "UNASSIGNED_STACK" Bundle.steD A s s.heap) (hN : vx_Zq Bundle.tN "SUPPRESSED_SENTINEL" Bundle.listD A s s.heap) (hS : va_S A s.heap H locs) (hsize : ls.size = c.maxLocals)
    (d0 : decode cc pc = .ok (.new ik, 3)) (d3 : decode cc (pc + 3) = .ok (.dup, 1)) (d4 : decode cc (pc + 4) = .ok (.invokespecial ic, 3)) (d7 : decode cc (pc + 7) = .ok (.athrow, 1))
    (hout : ∀ x ∈ c.exceptionTable.toList, covers x (pc + 7) = false)
    (hRframes : names.length + 3 < R.frames) (hRlocals : (rest.map fun v => v.category).sum + (13 * (names.length + 1) + 42) ≤ R.locals) (hRcells : cells + 1 ≤ R.cells) (hRslots : slots + 6 ≤ R.slots) (hlocks : meth.locks = false)
    (hx : ∀ t : State, s.vm.Alike t.vm → H.size ≤ t.heap.size → (∀ q : Nat, q < H.size → t.heap[q]? = H[q]?) → XC cls s t)
    (hf : ∀ z ∈ locs, free z.base) (hc : cells + 1 ≤ mc) (hs : slots + 6 ≤ ms) :
    W p l e R s m args below meth c H locs cells slots (vx_MQ below Qc XC args s mc ms free) (F0 m pc ls rest) := by
  intro T hT X
  have htr : e.platform.stackTraces = false := (show e.platform.stackTraces = l.stackTraces by rw [X.admits.platform]).trans hl
  have Y := vx_rebase X (R' := { frames := R.frames, locals := R.locals, cells := 1, slots := 6 }) (Nat.le_refl _) (Nat.le_refl _) hRcells hRslots
  obtain ⟨s', hA⟩ : ∃ z, z = (T.setVm s.vm).setFrames (.invoking m args :: below) := ⟨_, rfl⟩
  rw [← hA] at Y
  have hvm : s'.vm = s.vm := by rw [hA]; rfl
  have hhp : s'.heap = H := by rw [hA]; exact hT
  have hW0 : s.WarmedH s'.vm := by rw [hvm]; exact State.WarmedH.refl s
  have hat' : ∀ w ∈ vx_at0 own ic cls names, w.before args s' = true := fun w hw => vx_ot_at hW0 hvm.symm (hgood w (List.mem_cons_of_mem _ (List.mem_cons_of_mem _ hw))) (hat w hw)
  have hk' : (Cond.classLink own ik cls).before args s' = true := vx_ot_at hW0 hvm.symm (hgood _ List.mem_cons_self) hk
  have hini' : (Cond.initialized cls).before args s' = true := vx_ot_at hW0 hvm.symm (hgood _ (List.mem_cons_of_mem _ List.mem_cons_self)) hini
  have hU' : vx_Zq Bundle.tN "UNASSIGNED_STACK" Bundle.steD A s' s'.heap := by rw [hhp]; exact vx_Zq.moved hW0.alike (hU.kept hS.2.1)
  have hN' : vx_Zq Bundle.tN "SUPPRESSED_SENTINEL" Bundle.listD A s' s'.heap := by rw [hhp]; exact vx_Zq.moved hW0.alike (hN.kept hS.2.1)
  have h : ∀ w ∈ Bundle.ownAtoms0 own ic cls names, w.before args s' = true := vx_own hat' (vx_isRefq hU'.1) (vx_isRefq hN'.1) hU'.2.word hN'.2.word
  have hown' : s'.vm.findClass own = some m.cls := by rw [hvm]; exact hown
  have hins : (Cond.instantiable cls 6).before args s' = true := h _ (by simp [Bundle.ownAtoms0])
  obtain ⟨vm₁, cX, kX, hfX, hkX, -, -, X₁, st1⟩ := Y.newCold hexec (own := own) (C := cls) (index := ik) (n := 6) hown' hk' hins hini'
    (g := F0 m pc ls rest) rfl (by rw [hb]; exact d0) (Nat.le_refl _) (Nat.le_refl _)
  generalize hT1 : (T.setVm vm₁).pushCell { cls := cX, slots := kX.instanceTypes.map defaultValue, vm := .none } = T1 at X₁ st1
  have hcat : (Value.ref T.heap.size).category = 1 := rfl
  have hcellA : T1.heap[T.heap.size]? = some (freshCell cX kX) := by rw [← hT1]; exact State.heap_pushCell_size _ _
  have d3' : decode c.code (pc + 3) = .ok (.dup, 1) := by rw [hb]; exact d3
  obtain ⟨U, hsteps, hrun, hend, hW, hsame, ce, hce, hO⟩ := X₁.ctorThrow0 hexec htr (own := own) (cls := cls) (names := names) (ic := ic) hown' hcls hnames h (fun x hx => nomatch hx) hfX hkX hcellA (by rw [hhp, hT]; exact Nat.le_refl _)
    (g := { method := m, pc := pc + 4, locals := ls, stack := .ref T.heap.size :: .ref T.heap.size :: rest, locked := none }) rfl hsize rfl rfl (rest := rest) rfl
    (by rw [hb]; exact d4) (by rw [hb]; exact d7) hout hRframes (by simp only [List.map_cons, List.sum_cons, hcat]; omega) hlocks
  obtain ⟨f1, f2⟩ := vx_frame hsame
  rw [hhp] at f1 f2
  have hWs : s.WarmedH U.vm := State.WarmedH.trans hW0 hW
  have hcl : s.vm.findClass cls = some ce.cls := by
    have h9 := hO.cls
    rw [hvm] at h9
    exact h9
  have hall : s.sameButNew ({ U with vm := s.vm } : State) locs mc ms := by
    subst hA
    obtain ⟨e1, e2⟩ := hsame
    rw [State.setFrames_setFrames] at e1
    have h2 : (T.setVm s.vm).sameButNew ({ U with vm := s.vm } : State) [] (0 + 1) (0 + 6) := ⟨e1, e2⟩
    have h3 := X.same.trans h2
    rw [List.append_nil] at h3
    exact h3.mono hc hs
  refine ⟨U, ?_, .threw T.heap.size, hrun, hend, Or.inr ⟨T.heap.size, rfl, cls, ce, locs, hx U hWs.alike f1 (fun q hq => f2 q hq (fun z hz => nomatch hz)), hce, hO.vm, hcl, hWs, hall, hf⟩⟩
  refine st1 _ ?_
  show Steps p.tables e below (T1.setTop { method := m, pc := pc + 3, locals := ls, stack := .ref T.heap.size :: rest, locked := none }) _
  jvm_step X₁.here [X₁.here.top, hexec, d3', Value.category]
  exact hsteps
/-- 'throw new E("text")': new; dup; ldc; invokespecial; athrow -/
theorem vx_throwS {cc : ByteArray} {pc : Nat} (hexec : p.tables.exec = Jvm.exec) (hb : c.code = cc) (hl : l.stackTraces = false) {own cls text : String} {names : List String} {ik is ic mc ms sa : Nat} {A : Nat → Prop}
    (hown : s.vm.findClass own = some m.cls) (hcls : Bundle.fit cls = true) (hnames : ∀ n ∈ names, Bundle.fit n = true)
    (hk : (Cond.classLink own ik cls).before args s = true) (hini : (Cond.initialized cls).before args s = true) (hstr : vk_R own is text sa s) (hat : ∀ w ∈ vx_atS own ic cls names, w.before args s = true)
    (hgood : ∀ w ∈ Cond.classLink own ik cls :: Cond.initialized cls :: vx_atS own ic cls names, vx_ot w = true)
    (hU : vx_Zq Bundle.tN "UNASSIGNED_STACK" Bundle.steD A s s.heap) (hN : vx_Zq Bundle.tN "SUPPRESSED_SENTINEL" Bundle.listD A s s.heap) (hS : va_S A s.heap H locs) (hsize : ls.size = c.maxLocals)
    (d0 : decode cc pc = .ok (.new ik, 3)) (d3 : decode cc (pc + 3) = .ok (.dup, 1)) (d4 : decode cc (pc + 4) = .ok (.ldc is, 2)) (d6 : decode cc (pc + 6) = .ok (.invokespecial ic, 3)) (d9 : decode cc (pc + 9) = .ok (.athrow, 1))
    (hout : ∀ x ∈ c.exceptionTable.toList, covers x (pc + 9) = false)
    (hRframes : names.length + 3 < R.frames) (hRlocals : (rest.map fun v => v.category).sum + (13 * (names.length + 1) + 43) ≤ R.locals) (hRcells : cells + 1 ≤ R.cells) (hRslots : slots + 6 ≤ R.slots) (hlocks : meth.locks = false)
    (hx : ∀ t : State, s.vm.Alike t.vm → H.size ≤ t.heap.size → (∀ q : Nat, q < H.size → t.heap[q]? = H[q]?) → XC cls s t)
    (hf : ∀ z ∈ locs, free z.base) (hc : cells + 1 ≤ mc) (hs : slots + 6 ≤ ms) :
    W p l e R s m args below meth c H locs cells slots (vx_MQ below Qc XC args s mc ms free) (F0 m pc ls rest) := by
  intro T hT X
  have htr : e.platform.stackTraces = false := (show e.platform.stackTraces = l.stackTraces by rw [X.admits.platform]).trans hl
  have Y := vx_rebase X (R' := { frames := R.frames, locals := R.locals, cells := 1, slots := 6 }) (Nat.le_refl _) (Nat.le_refl _) hRcells hRslots
  obtain ⟨s', hA⟩ : ∃ z, z = (T.setVm s.vm).setFrames (.invoking m args :: below) := ⟨_, rfl⟩
  rw [← hA] at Y
  have hvm : s'.vm = s.vm := by rw [hA]; rfl
  have hhp : s'.heap = H := by rw [hA]; exact hT
  have hW0 : s.WarmedH s'.vm := by rw [hvm]; exact State.WarmedH.refl s
  have hat' : ∀ w ∈ vx_atS own ic cls names, w.before args s' = true := fun w hw => vx_ot_at hW0 hvm.symm (hgood w (List.mem_cons_of_mem _ (List.mem_cons_of_mem _ hw))) (hat w hw)
  have hk' : (Cond.classLink own ik cls).before args s' = true := vx_ot_at hW0 hvm.symm (hgood _ List.mem_cons_self) hk
  have hini' : (Cond.initialized cls).before args s' = true := vx_ot_at hW0 hvm.symm (hgood _ (List.mem_cons_of_mem _ List.mem_cons_self)) hini
  have hU' : vx_Zq Bundle.tN "UNASSIGNED_STACK" Bundle.steD A s' s'.heap := by rw [hhp]; exact vx_Zq.moved hW0.alike (hU.kept hS.2.1)
  have hN' : vx_Zq Bundle.tN "SUPPRESSED_SENTINEL" Bundle.listD A s' s'.heap := by rw [hhp]; exact vx_Zq.moved hW0.alike (hN.kept hS.2.1)
  have h : ∀ w ∈ Bundle.ownAtoms own ic cls names, w.before args s' = true := vx_own hat' (vx_isRefq hU'.1) (vx_isRefq hN'.1) hU'.2.word hN'.2.word
  have hown' : s'.vm.findClass own = some m.cls := by rw [hvm]; exact hown
  have hins : (Cond.instantiable cls 6).before args s' = true := h _ (by simp [Bundle.ownAtoms])
  obtain ⟨vm₁, cX, kX, hfX, hkX, -, -, X₁, st1⟩ := Y.newCold hexec (own := own) (C := cls) (index := ik) (n := 6) hown' hk' hins hini'
    (g := F0 m pc ls rest) rfl (by rw [hb]; exact d0) (Nat.le_refl _) (Nat.le_refl _)
  generalize hT1 : (T.setVm vm₁).pushCell { cls := cX, slots := kX.instanceTypes.map defaultValue, vm := .none } = T1 at X₁ st1
  have hcat : (Value.ref T.heap.size).category = 1 := rfl
  have hcellA : T1.heap[T.heap.size]? = some (freshCell cX kX) := by rw [← hT1]; exact State.heap_pushCell_size _ _
  have d3' : decode c.code (pc + 3) = .ok (.dup, 1) := by rw [hb]; exact d3
  have d4' : decode c.code (pc + 4) = .ok (.ldc is, 2) := by rw [hb]; exact d4
  have hstr' : vk_R own is text sa s' := vk_R.warm hW0 hstr
  obtain ⟨U, hsteps, hrun, hend, hW, hsame, ce, hce, hO⟩ := X₁.ctorThrowS hexec htr (own := own) (cls := cls) (names := names) (ic := ic) hown' hcls hnames h (fun x hx => nomatch hx) hfX hkX hcellA (by rw [hhp, hT]; exact Nat.le_refl _) (msg := .ref sa) rfl
    (g := { method := m, pc := pc + 6, locals := ls, stack := .ref sa :: .ref T.heap.size :: .ref T.heap.size :: rest, locked := none }) rfl hsize rfl rfl (rest := rest) rfl
    (by rw [hb]; exact d6) (by rw [hb]; exact d9) hout hRframes (by simp only [List.map_cons, List.sum_cons, hcat]; omega) hlocks
  obtain ⟨f1, f2⟩ := vx_frame hsame
  rw [hhp] at f1 f2
  have hWs : s.WarmedH U.vm := State.WarmedH.trans hW0 hW
  have hcl : s.vm.findClass cls = some ce.cls := by
    have h9 := hO.cls
    rw [hvm] at h9
    exact h9
  have hall : s.sameButNew ({ U with vm := s.vm } : State) locs mc ms := by
    subst hA
    obtain ⟨e1, e2⟩ := hsame
    rw [State.setFrames_setFrames] at e1
    have h2 : (T.setVm s.vm).sameButNew ({ U with vm := s.vm } : State) [] (0 + 1) (0 + 6) := ⟨e1, e2⟩
    have h3 := X.same.trans h2
    rw [List.append_nil] at h3
    exact h3.mono hc hs
  refine ⟨U, ?_, .threw T.heap.size, hrun, hend, Or.inr ⟨T.heap.size, rfl, cls, ce, locs, hx U hWs.alike f1 (fun q hq => f2 q hq (fun z hz => nomatch hz)), hce, hO.vm, hcl, hWs, hall, hf⟩⟩
  refine st1 _ ?_
  show Steps p.tables e below (T1.setTop { method := m, pc := pc + 3, locals := ls, stack := .ref T.heap.size :: rest, locked := none }) _
  jvm_step X₁.here [X₁.here.top, hexec, d3', Value.category]
  exact X₁.ldcString hexec (own := own) (text := text) (index := is) (a := sa) hown' hstr'.1 hstr'.2
    (g := { method := m, pc := pc + 4, locals := ls, stack := .ref T.heap.size :: .ref T.heap.size :: rest, locked := none }) rfl d4' _ hsteps
/-- 'throw new E("text")', the text by a wide index -/
theorem vx_throwSW {cc : ByteArray} {pc : Nat} (hexec : p.tables.exec = Jvm.exec) (hb : c.code = cc) (hl : l.stackTraces = false) {own cls text : String} {names : List String} {ik is ic mc ms sa : Nat} {A : Nat → Prop}
    (hown : s.vm.findClass own = some m.cls) (hcls : Bundle.fit cls = true) (hnames : ∀ n ∈ names, Bundle.fit n = true)
    (hk : (Cond.classLink own ik cls).before args s = true) (hini : (Cond.initialized cls).before args s = true) (hstr : vk_R own is text sa s) (hat : ∀ w ∈ vx_atS own ic cls names, w.before args s = true)
    (hgood : ∀ w ∈ Cond.classLink own ik cls :: Cond.initialized cls :: vx_atS own ic cls names, vx_ot w = true)
    (hU : vx_Zq Bundle.tN "UNASSIGNED_STACK" Bundle.steD A s s.heap) (hN : vx_Zq Bundle.tN "SUPPRESSED_SENTINEL" Bundle.listD A s s.heap) (hS : va_S A s.heap H locs) (hsize : ls.size = c.maxLocals)
    (d0 : decode cc pc = .ok (.new ik, 3)) (d3 : decode cc (pc + 3) = .ok (.dup, 1)) (d4 : decode cc (pc + 4) = .ok (.ldc_w is, 3)) (d7 : decode cc (pc + 7) = .ok (.invokespecial ic, 3)) (d10 : decode cc (pc + 10) = .ok (.athrow, 1))
    (hout : ∀ x ∈ c.exceptionTable.toList, covers x (pc + 10) = false)
    (hRframes : names.length + 3 < R.frames) (hRlocals : (rest.map fun v => v.category).sum + (13 * (names.length + 1) + 43) ≤ R.locals) (hRcells : cells + 1 ≤ R.cells) (hRslots : slots + 6 ≤ R.slots) (hlocks : meth.locks = false)
    (hx : ∀ t : State, s.vm.Alike t.vm → H.size ≤ t.heap.size → (∀ q : Nat, q < H.size → t.heap[q]? = H[q]?) → XC cls s t)
    (hf : ∀ z ∈ locs, free z.base) (hc : cells + 1 ≤ mc) (hs : slots + 6 ≤ ms) :
    W p l e R s m args below meth c H locs cells slots (vx_MQ below Qc XC args s mc ms free) (F0 m pc ls rest) := by
  intro T hT X
  have htr : e.platform.stackTraces = false := (show e.platform.stackTraces = l.stackTraces by rw [X.admits.platform]).trans hl
  have Y := vx_rebase X (R' := { frames := R.frames, locals := R.locals, cells := 1, slots := 6 }) (Nat.le_refl _) (Nat.le_refl _) hRcells hRslots
  obtain ⟨s', hA⟩ : ∃ z, z = (T.setVm s.vm).setFrames (.invoking m args :: below) := ⟨_, rfl⟩
  rw [← hA] at Y
  have hvm : s'.vm = s.vm := by rw [hA]; rfl
  have hhp : s'.heap = H := by rw [hA]; exact hT
  have hW0 : s.WarmedH s'.vm := by rw [hvm]; exact State.WarmedH.refl s
  have hat' : ∀ w ∈ vx_atS own ic cls names, w.before args s' = true := fun w hw => vx_ot_at hW0 hvm.symm (hgood w (List.mem_cons_of_mem _ (List.mem_cons_of_mem _ hw))) (hat w hw)
  have hk' : (Cond.classLink own ik cls).before args s' = true := vx_ot_at hW0 hvm.symm (hgood _ List.mem_cons_self) hk
  have hini' : (Cond.initialized cls).before args s' = true := vx_ot_at hW0 hvm.symm (hgood _ (List.mem_cons_of_mem _ List.mem_cons_self)) hini
  have hU' : vx_Zq Bundle.tN "UNASSIGNED_STACK" Bundle.steD A s' s'.heap := by rw [hhp]; exact vx_Zq.moved hW0.alike (hU.kept hS.2.1)
  have hN' : vx_Zq Bundle.tN "SUPPRESSED_SENTINEL" Bundle.listD A s' s'.heap := by rw [hhp]; exact vx_Zq.moved hW0.alike (hN.kept hS.2.1)
  have h : ∀ w ∈ Bundle.ownAtoms own ic cls names, w.before args s' = true := vx_own hat' (vx_isRefq hU'.1) (vx_isRefq hN'.1) hU'.2.word hN'.2.word
  have hown' : s'.vm.findClass own = some m.cls := by rw [hvm]; exact hown
  have hins : (Cond.instantiable cls 6).before args s' = true := h _ (by simp [Bundle.ownAtoms])
  obtain ⟨vm₁, cX, kX, hfX, hkX, -, -, X₁, st1⟩ := Y.newCold hexec (own := own) (C := cls) (index := ik) (n := 6) hown' hk' hins hini'
    (g := F0 m pc ls rest) rfl (by rw [hb]; exact d0) (Nat.le_refl _) (Nat.le_refl _)
  generalize hT1 : (T.setVm vm₁).pushCell { cls := cX, slots := kX.instanceTypes.map defaultValue, vm := .none } = T1 at X₁ st1
  have hcat : (Value.ref T.heap.size).category = 1 := rfl
  have hcellA : T1.heap[T.heap.size]? = some (freshCell cX kX) := by rw [← hT1]; exact State.heap_pushCell_size _ _
  have d3' : decode c.code (pc + 3) = .ok (.dup, 1) := by rw [hb]; exact d3
  have d4' : decode c.code (pc + 4) = .ok (.ldc_w is, 3) := by rw [hb]; exact d4
  have hstr' : vk_R own is text sa s' := vk_R.warm hW0 hstr
  obtain ⟨U, hsteps, hrun, hend, hW, hsame, ce, hce, hO⟩ := X₁.ctorThrowS hexec htr (own := own) (cls := cls) (names := names) (ic := ic) hown' hcls hnames h (fun x hx => nomatch hx) hfX hkX hcellA (by rw [hhp, hT]; exact Nat.le_refl _) (msg := .ref sa) rfl
    (g := { method := m, pc := pc + 7, locals := ls, stack := .ref sa :: .ref T.heap.size :: .ref T.heap.size :: rest, locked := none }) rfl hsize rfl rfl (rest := rest) rfl
    (by rw [hb]; exact d7) (by rw [hb]; exact d10) hout hRframes (by simp only [List.map_cons, List.sum_cons, hcat]; omega) hlocks
  obtain ⟨f1, f2⟩ := vx_frame hsame
  rw [hhp] at f1 f2
  have hWs : s.WarmedH U.vm := State.WarmedH.trans hW0 hW
  have hcl : s.vm.findClass cls = some ce.cls := by
    have h9 := hO.cls
    rw [hvm] at h9
    exact h9
  have hall : s.sameButNew ({ U with vm := s.vm } : State) locs mc ms := by
    subst hA
    obtain ⟨e1, e2⟩ := hsame
    rw [State.setFrames_setFrames] at e1
    have h2 : (T.setVm s.vm).sameButNew ({ U with vm := s.vm } : State) [] (0 + 1) (0 + 6) := ⟨e1, e2⟩
    have h3 := X.same.trans h2
    rw [List.append_nil] at h3
    exact h3.mono hc hs
  refine ⟨U, ?_, .threw T.heap.size, hrun, hend, Or.inr ⟨T.heap.size, rfl, cls, ce, locs, hx U hWs.alike f1 (fun q hq => f2 q hq (fun z hz => nomatch hz)), hce, hO.vm, hcl, hWs, hall, hf⟩⟩
  refine st1 _ ?_
  show Steps p.tables e below (T1.setTop { method := m, pc := pc + 3, locals := ls, stack := .ref T.heap.size :: rest, locked := none }) _
  jvm_step X₁.here [X₁.here.top, hexec, d3', Value.category]
  exact X₁.ldcStringW hexec (own := own) (text := text) (index := is) (a := sa) hown' hstr'.1 hstr'.2
    (g := { method := m, pc := pc + 4, locals := ls, stack := .ref T.heap.size :: .ref T.heap.size :: rest, locked := none }) rfl d4' _ hsteps
end Ends
section Bodies
variable {l : Launch}
theorem vx_ofW {y : MethodName} {ws ws' : List Cond} {rm : Room} {Pc : Array Value → State → Prop} {Qc : Array Value → State → Outcome → State → Prop} {XC : String → State → State → Prop} {mc ms : Nat} {free : Addr → Prop} {cc : ByteArray} {maxL : Nat} {ret : Option FieldType}
    (hy : plainName y.cls = true) (hw : ws = Cond.code y cc maxL ret :: ws')
    (body : ∀ p e s m args below meth c s₁, BodyLoose p l y (headSpec ws rm) cc maxL ret e s m args below meth c s₁ → c.maxLocals = maxL → (∀ x ∈ c.exceptionTable.toList, False) → Pc args s →
      W p l e (headSpec ws rm).room s m args below meth c s.heap [] 0 0 (vx_MQ below Qc XC args s mc ms free) (entryFrame m args maxL)) : vx_Met l y ws rm Pc Qc XC mc ms free := by
  refine MetFree.of_bodyS (code := cc) (maxLocals := maxL) (ret := ret) hy ?_ ?_
  · intro args s m h hn
    obtain ⟨meth, c, h1, h2, h3, h4, h5, h6, -, -⟩ := Cond.code_spec hn (atoms_spec (ws := ws) h _ (by rw [hw]; exact List.mem_cons_self))
    exact ⟨meth, c, h1, h2, h3, h4, h5, h6⟩
  · intro p e s m args below meth c s₁ B hml hP _
    have hh0 : s₁.heap = s.heap := by rw [B.state]; rfl
    have ht : ∀ x ∈ c.exceptionTable.toList, False := by
      obtain ⟨meth9, c9, h1, h2, -, -, -, -, h7, -⟩ := Cond.code_spec B.named (atoms_spec (ws := ws) B.pre _ (by rw [hw]; exact List.mem_cons_self))
      cases Option.some.inj (h1.symm.trans B.method)
      cases Option.some.inj (h2.symm.trans (Stand.of_body B).code)
      intro x hx
      rw [Array.isEmpty_iff.mp h7] at hx
      cases hx
    obtain ⟨t, a1, o, b1, b2, b3⟩ := body p e s m args below meth c s₁ B hml ht hP s₁ hh0 (Stand.of_body B)
    exact ⟨t, o, a1, b1, b2, b3⟩
/-- the table of a body with handlers -/
theorem vx_table {p : Program} {x y : MethodName} {S : Spec} {cc bytes : ByteArray} {maxL maxL' : Nat} {ret ret' : Option FieldType} {e : Env} {s s₁ : State} {m : MethodId} {args : Array Value} {below : List Frame} {meth : Method} {c : Code} {hh : List (Nat × Nat × Nat × Nat)}
    (B : BodyLoose p l y S cc maxL ret e s m args below meth c s₁) (h : (Cond.codeWith y bytes maxL' ret' hh).before args s = true) : c.exceptionTable.toList = tableOf hh := by
  obtain ⟨m9, meth9, c9, hn9, h1, h2, -, -, h6, -⟩ := Cond.codeWith_spec h
  cases Option.some.inj (hn9.symm.trans B.named)
  cases Option.some.inj (h1.symm.trans B.method)
  cases Option.some.inj (h2.symm.trans (Stand.of_body B).code)
  rw [← h6, table_eq]
end Bodies
end VXA
/-! ===== END ===== -/
/-! ===== BEGIN a static call of a method with an exception table ===== -/
section VXS
variable {p : Program} {l : Launch} {e : Env} {R : Room} {s : State} {m : MethodId} {args : Array Value} {below : List Frame} {meth : Method} {c : Code} {T : State} {H : Heap} {locs : List Loc} {cells slots : Nat}
abbrev vx_CSW (R : Room) (s : State) (args : Array Value) (own : String) (index : Nat) (y : MethodName) (bytes : ByteArray) (maxL : Nat) (ret : Option FieldType) (hh : List (Nat × Nat × Nat × Nat)) (ws : List Cond) (rm : Room) (mc ms n : Nat) : Prop :=
  (rm.cells = mc ∧ rm.slots = ms ∧ rm.frames + 1 ≤ R.frames ∧ 8 + (maxL + 11) + rm.locals ≤ R.locals ∧ (∀ w ∈ ws, ∀ (a' : Array Value) (U : State), s.WarmedH U.vm → w.before a' U = true) ∧ Cond.codeWith y bytes maxL ret hh ∈ ws) ∧
  (Cond.codeWith y bytes maxL ret hh).before args s = true ∧ (Cond.initialized y.cls).before args s = true ∧ (y.cls ≠ "java/lang/invoke/MethodHandle" ∧ y.cls ≠ "java/lang/invoke/VarHandle") ∧
  (∀ sig, parseMethodDescriptor y.desc = some sig → n = sig.parameters.length) ∧ (Cond.methodLink own index y).before args s = true ∧ (Cond.static y).before args s = true
theorem vx_cwSW {own : String} {index maxL mc ms : Nat} {y : MethodName} {bytes : ByteArray} {ret : Option FieldType} {hh : List (Nat × Nat × Nat × Nat)} {Ts ws ws' : List Cond} {rm : Room} (n : Nat) (ht : ∀ w ∈ Ts, w.before args s = true) (hT : GoodIn Ts (va_wsS own index y ws)) (hw : ws = Cond.codeWith y bytes maxL ret hh :: ws') (hrc : rm.cells = mc) (hrs : rm.slots = ms)
    (hd : y.cls ≠ "java/lang/invoke/MethodHandle" ∧ y.cls ≠ "java/lang/invoke/VarHandle" ∧ (parseMethodDescriptor y.desc).map (fun d => d.parameters.length) = some n) (hR : rm.frames + 1 ≤ R.frames ∧ 8 + (maxL + 11) + rm.locals ≤ R.locals) :
    vx_CSW R s args own index y bytes maxL ret hh ws rm mc ms n := by
  have ok : ∀ w ∈ va_wsS own index y ws, w.before args s = true := fun w h => ht w (hT w h).1
  have hG : GoodIn Ts ws := fun w h => hT w (by unfold va_wsS; exact List.mem_append_right _ h)
  have hc : Cond.codeWith y bytes maxL ret hh ∈ ws := by rw [hw]; exact List.mem_cons_self
  refine ⟨⟨hrc, hrs, hR.1, hR.2, pay_in ht hG, hc⟩, ht _ (hG _ hc).1, ok _ (by simp [va_wsS]), ⟨hd.1, hd.2.1⟩, fun sig h => ?_, ok _ (by simp [va_wsS]), ok _ (by simp [va_wsS])⟩
  have h2 := hd.2.2
  rw [h] at h2
  exact (Option.some.inj h2).symm
theorem vx_callSW (X : Stand p l e R s m args below meth c T locs cells slots) (hexec : p.tables.exec = Jvm.exec) {own : String} {index : Nat} {y : MethodName} {bytes : ByteArray} {maxL : Nat} {ret : Option FieldType} {hh : List (Nat × Nat × Nat × Nat)}
    (hown : s.vm.findClass own = some m.cls) (hlink : (Cond.methodLink own index y).before args s = true) (hstat : (Cond.static y).before args s = true) (hinit : (Cond.initialized y.cls).before args s = true)
    (hcode : (Cond.codeWith y bytes maxL ret hh).before args s = true) (hy : y.cls ≠ "java/lang/invoke/MethodHandle" ∧ y.cls ≠ "java/lang/invoke/VarHandle")
    {W9 : Nat} {Pre : Pt → Array Value → Prop} {Post : Pt → Array Value → Option Value → Pt → Prop} (hK : Back l R p e below s args y 3 W9 Pre Post)
    {g : JFrame} (hg : g.method = m) (hsize : g.locals.size = c.maxLocals) {argsL rest : List Value} (hlen : ∀ sig, parseMethodDescriptor y.desc = some sig → argsL.length = sig.parameters.length)
    (hstack : g.stack = argsL.reverse ++ rest) (hW : 2 * g.monitorRoom + (rest.map fun v => v.category).sum ≤ W9) (hdg : decode c.code g.pc = .ok (.invokestatic index, 3))
    (hpre : ∀ vm₁, s.WarmedH vm₁ → Pre ⟨T.setVm vm₁, locs, cells, slots⟩ argsL.toArray) :
    ∃ (v : Option Value) (vm₁ : Vm) (B : Pt), s.WarmedH vm₁ ∧ Stand p l e R s m args below meth c B.U B.locs B.cells B.slots ∧ Post ⟨T.setVm vm₁, locs, cells, slots⟩ argsL.toArray v B ∧
      ∀ target, Steps p.tables e below (B.U.setTop { g with pc := g.pc + 3, stack := v.toList ++ rest }) target → Steps p.tables e below (T.setTop g) target := by
  obtain ⟨mk, methM, cM, hnamed, hmethM, -, -, -, -, -, -, hsigM⟩ := Cond.codeWith_spec hcode
  have hstatic : methM.isStatic = true := Cond.static_spec hnamed hmethM hstat
  obtain ⟨kP, hkP, -⟩ := className_of_methodNamed hnamed
  have hinitP : kP.init = .initialized := Cond.initialized_spec (findClass_of_methodNamed hnamed) hkP hinit
  obtain ⟨vm₁, X₁, hstep₁⟩ := X.invokestatic hexec hown hlink hnamed hmethM hstatic hkP hinitP hy (g := g) hg (argsL := argsL) (rest := rest) (hlen _ hsigM) hstack hdg
  obtain ⟨v, B, X', hpost, hsteps⟩ := hK m meth c ⟨T.setVm vm₁, locs, cells, slots⟩ { g with stack := rest } (.invokestatic index) mk argsL.toArray X₁ hg hsize hdg hW (X₁.named hnamed) (hpre vm₁ X₁.warmed)
  exact ⟨v, vm₁, B, X₁.warmed, X', hpost, fun target h => hstep₁ _ fun acts => by rw [doInvoke_state]; exact hsteps.trans h⟩
theorem vx_runSW {y : MethodName} {bytes cc : ByteArray} {maxL nL mc ms n index : Nat} {ret : Option FieldType} {hh : List (Nat × Nat × Nat × Nat)} {ws : List Cond} {rm : Room} {Pc : Array Value → State → Prop} {Qc : Array Value → State → Outcome → State → Prop} {free : Addr → Prop} {Ts : List Cond} {own : String} {As rest : List Value} {g : JFrame}
    (S : CallFix p m c cc nL s args Ts own) (hM : Met l y ws rm Pc Qc mc ms free) (cw : vx_CSW R s args own index y bytes maxL ret hh ws rm mc ms n) (hp : PreS s H Pc As)
    (hg : g.method = m) (hn : As.length = n) (hsize : g.locals.size = nL) (hstack : g.stack = As.reverse ++ rest) (hW : 2 * g.monitorRoom + (rest.map fun v => v.category).sum ≤ 8) (hdg : decode cc g.pc = .ok (.invokestatic index, 3)) (hf : cells + mc ≤ R.cells ∧ slots + ms ≤ R.slots) :
    va_Run p l e R s m args below meth c H locs cells slots mc ms g rest (Qc As.toArray) (free) := by
  obtain ⟨⟨hrc, hrs, hfr, hlo, hws, hcw⟩, hcode, hini, hy, hlen, hl, hstt⟩ := cw
  have hK : Back l R p e below s args y 3 8 (PreOf R mc ms Pc) (PostOf Qc mc ms free) := va_backW (hh := hh) (bytes := bytes) (maxL := maxL) (ret := ret) hM hp.1 hrc hrs hfr hlo hws hcw (fun a' U hW => word_at hW (Or.inl (by first | rfl | simp [Cond.onTables, Cond.keeps, Cond.steady])) hini)
  obtain ⟨hx, hb, hml, ho, -⟩ := S
  intro T hT X
  obtain ⟨v, vm₁, ⟨U', l2, c2, s2⟩, hW₁, X', ⟨g', mk, t, L, e1, e2, hq, h1, hL, h2, h3⟩, st⟩ := vx_callSW X hx (hh := hh) (bytes := bytes) (maxL := maxL) (ret := ret) ho hl hstt hini hcode hy hK hg (hsize.trans hml.symm) (argsL := As) (rest := rest) (fun sig h => hn.trans (hlen sig h)) hstack hW (by rw [hb]; exact hdg)
    (fun vm₁ hW₁ => ⟨hf.1, hf.2, hp.2 (T.setVm vm₁) hT hW₁⟩)
  dsimp only [Pt.U, Pt.locs, Pt.cells, Pt.slots] at X' e1 e2 h1 h2 h3 st
  subst h1; subst h2; subst h3
  exact ⟨v, (T.setVm vm₁).calling g' mk As.toArray, t, U', L, hT, X', hL, e1, e2, hq, st⟩
/-- not caught here, past rows that name other classes: it goes on to the caller -/
theorem vx_outP {p : Program} {l : Launch} {e : Env} {R : Room} {s : State} {m : MethodId} {args : Array Value} {below : List Frame} {meth : Method} {c : Code} {H : Heap} {locs : List Loc} {cells slots : Nat} {free : Addr → Prop} {ls : Array Slot} {rest : List Value} {Qc : Array Value → State → Outcome → State → Prop} {XC : String → State → State → Prop}
    {pc : Nat} {own E : String} {ce : Cell} {q : Addr} {mc ms : Nat} (hown : s.vm.findClass own = some m.cls) (hlocks : meth.locks = false)
    (hpass : ∀ z ∈ c.exceptionTable.toList, covers z pc = false ∨ (z.catchType ≠ 0 ∧ ∃ nm : String, (Cond.classLink own z.catchType nm).before args s = true ∧ va_Nc E nm s)) (hcell : H[q]? = some ce) (hv : ce.vm = .none) (hcl : s.vm.findClass E = some ce.cls)
    (hx : ∀ t : State, t.heap = H → s.vm.Alike t.vm → XC E s t) (hf : ∀ z ∈ locs, free z.base) (hc : cells ≤ mc) (hs : slots ≤ ms) :
    vx_W p l e R s m args below meth c H locs cells slots (vx_MQ below Qc XC args s mc ms free) (F0 m pc ls rest) q := by
  intro T hT X
  have hpl : e.platform.magicAccessors = ({} : Platform).magicAccessors := by rw [X.admits.platform]
  obtain ⟨vm', hW', X', st⟩ := X.outThrough hlocks q (g := F0 m pc ls rest) rfl rfl rfl (cell := ce) (by rw [hT]; exact hcell) (by rw [hv]; rfl)
    (by obtain ⟨k9, h9, -⟩ := Vm.findClass_spec hcl; exact ⟨k9, h9⟩) (fun z hz => by
      rcases hpass z hz with h | ⟨hz0, nm, hl1, hn1⟩
      · exact Or.inl h
      · obtain ⟨c6, hc6, hcl6⟩ := Cond.classLink_spec hown hl1 e.platform hpl
        obtain ⟨a8, b8, h1, h2, h3⟩ := hn1
        cases Option.some.inj (h1.symm.trans hcl)
        cases Option.some.inj (h2.symm.trans hc6)
        exact Or.inr ⟨hz0, _, hcl6, h3⟩)
  obtain ⟨g₀, hfr⟩ := X'.frames_eq
  have hcell9 : ((T.setVm vm').setFrames (.throwing q :: below)).heap[q]? = some ce := by
    show T.heap[q]? = some ce
    rw [hT]; exact hcell
  have hend : Ended ((T.setVm vm').setFrames (.throwing q :: below)) below (.threw q) := State.frames_setFrames _ (State.cur_lt_of_frames hfr)
  refine ⟨(T.setVm vm').setFrames (.throwing q :: below), ?_, .threw q, X'.here.running, hend, Or.inr ⟨q, rfl, E, ce, locs, hx _ hT (X'.ends _).1.alike, hcell9, hv, hcl, (X'.ends _).1, (X'.ends _).2.mono hc hs, hf⟩⟩
  rw [X.pushThrowing_eq]
  exact st
/-- a thing of a world lies in the heap -/
theorem vx_lt {D : va_G} {cl : List vw_C} {ws : va_W} {H1 : Heap} (h : va_P D cl ws H1) {k : Nat} {q : Nat × va_E} (hk : ws[k]? = some q) : q.1 < H1.size := (h k q hk).lt
end VXS
/-! ===== END ===== -/
/-! ===== BEGIN methods with a table of their own: called by a name, returning or throwing ===== -/
section VXH
/-! vx_backW, vx_callVX, vx_callSX, vx_callVW, vx_runVW, vx_runVX, vx_runSX, vx_ofWH follow the same proofs as their sisters above (Free/Laws.lean, Shelf42/LK1.lean); vx_outP calls Shelf42/NT130.lean (outThrough). -/
section
variable {l : Launch} {R : Room} {p : Program} {e : Env} {below : List Frame} {s : State} {sargs : Array Value} {y : MethodName} {len W9 : Nat}
theorem vx_backW {ws : List Cond} {rm : Room} {Pc : Array Value → State → Prop} {Qc : Array Value → State → Outcome → State → Prop} {XC : String → State → State → Prop} {mc ms : Nat} {free : Addr → Prop} {bytes : ByteArray} {maxL : Nat} {ret : Option FieldType} {hh : List (Nat × Nat × Nat × Nat)}
    (hM : vx_Met l y ws rm Pc Qc XC mc ms free) (hblind : FrameBlind Pc) (hrc : rm.cells = mc) (hrs : rm.slots = ms)
    (hframes : rm.frames + 1 ≤ R.frames) (hlocals : W9 + (maxL + 11) + rm.locals ≤ R.locals)
    (hws : ∀ w ∈ ws, ∀ a' U, s.WarmedH U.vm → w.before a' U = true) (hcode : Cond.codeWith y bytes maxL ret hh ∈ ws) (hinit : ∀ a' U, s.WarmedH U.vm → (Cond.initialized y.cls).before a' U = true) :
    vx_Back l R p e below s sargs y len W9 (PreOf R mc ms Pc) (PostOf Qc mc ms free) (vx_Post XC mc ms free) := by
  intro m meth c A g ig mk a X hg hsize hdg hW hn hp
  have h1 : (headSpec ws rm).pre.before a A.U = true := atoms_intro fun w hw => hws w hw _ _ X.warmed
  have h2 : (Cond.codeWith y bytes maxL ret hh).before a A.U = true := hws _ hcode _ _ X.warmed
  have h3 : (Cond.initialized y.cls).before a A.U = true := hinit _ _ X.warmed
  have h4 : A.cells + (headSpec ws rm).room.cells ≤ R.cells := by rw [show (headSpec ws rm).room.cells = mc from hrc]; exact hp.1
  have h5 : A.slots + (headSpec ws rm).room.slots ≤ R.slots := by rw [show (headSpec ws rm).room.slots = ms from hrs]; exact hp.2.1
  have hPc : Pc a (A.U.calling g mk a) := hblind _ _ _ _ hp.2.2
  obtain ⟨U, Ls, c0, s0⟩ := A
  dsimp only [Pt.U, Pt.locs, Pt.cells, Pt.slots] at h1 h2 h3 h4 h5 X hn hPc ⊢
  obtain ⟨m9, methY, cY, hn9, hmY, hcY, -, hlY, -⟩ := Cond.codeWith_spec h2
  cases Option.some.inj (hn9.symm.trans hn)
  obtain ⟨kY, hkY, -⟩ := className_of_methodNamed hn
  have hinitY : kY.init = .initialized := Cond.initialized_spec (findClass_of_methodNamed hn) hkY h3
  have h : At U g.method c below := by rw [hg]; exact X.here
  have hlocals9 : W9 + (maxL + 11) + (headSpec ws rm).room.locals ≤ R.locals := hlocals
  have happ : (headSpec ws rm).appliesLoose y e.platform (U.calling g mk a) = true :=
    Spec.appliesLoose_calling (g := g) h hdg hn hkY hinitY
      (X.room_calling (g := g) (R' := (headSpec ws rm).room) hsize hmY hcY hframes (by rw [hlY]; omega) h4 h5) h1
  obtain ⟨mid, hmid⟩ := h.above
  have hfr : (U.setTop g).frames = (.java g :: mid) ++ below := by rw [State.frames_setTop' g h.top, hmid]; rfl
  obtain ⟨o, s₂, hsteps, -, hend, hq⟩ := Steps.callFree hM p X.admits X.cas X.clock (acts := []) hfr happ hPc trivial
  have hq' : vx_Q Qc XC mc ms free a (U.calling g mk a) o s₂ := hq
  rw [State.frames_setTop' g h.top] at hend
  obtain ⟨g₀, hg0⟩ := Option.isSome_iff_exists.mp h.top
  obtain ⟨r, hr⟩ := State.topJava?_eq_some.mp hg0
  have hr' : (({ U with heap := s₂.heap, slotsUsed := s₂.slotsUsed } : State).setVm s₂.vm).frames = .java g₀ :: r := hr
  rcases hq' with ⟨hqc, L, hfe, hL⟩ | ⟨q, rfl, E, ce, L, hx, hce, hcv, hcl, hW₂, hsm, hL⟩
  · obtain ⟨⟨v, rfl⟩, hW₂, e2, q2, q3, q4, q5, q6⟩ := id hfe
    have e3 : s₂ = ({ (U.calling g mk a).setFrames s₂.frames with heap := s₂.heap, slotsUsed := s₂.slotsUsed } : State).setVm s₂.vm := by
      have : s₂ = ({ s₂ with vm := (U.calling g mk a).vm } : State).setVm s₂.vm := rfl
      rw [e2] at this
      exact this
    obtain ⟨c₂, i₂, len₂, hc₂, hd₂, hf₂⟩ := hend
    have hW' : U.WarmedH s₂.vm := hW₂
    have hcc : c₂ = c := by
      have h1 : s₂.code? g.method = U.code? g.method := by
        rw [State.code?_eq, State.code?_eq, hW'.alike.method?]
      exact Option.some.inj (hc₂.symm.trans (h1.trans h.code))
    subst hcc
    have hlen : len₂ = len := by rw [hdg] at hd₂; cases hd₂; rfl
    subst hlen
    have hs₂ : s₂ = (({ U with heap := s₂.heap, slotsUsed := s₂.slotsUsed } : State).setVm s₂.vm).setTop { g with pc := g.pc + len₂, stack := v.toList ++ g.stack } := by
      refine e3.trans ?_
      rw [hf₂, State.calling_eq h.top, State.setFrames_setFrames, State.setTop_of_frames _ hr', hr]
      rfl
    have hsame : U.sameButNew ({ U with heap := s₂.heap, slotsUsed := s₂.slotsUsed } : State) L mc ms := by
      refine ⟨?_, q2, q3, q4, q5, q6⟩
      obtain ⟨t, ht, -⟩ := State.frames_cons hr
      show ({ U with heap := s₂.heap, slotsUsed := s₂.slotsUsed } : State) = { U.setFrames U.frames with heap := s₂.heap, slotsUsed := s₂.slotsUsed }
      rw [State.setFrames_self ht]
    subst hg
    refine Or.inl ⟨v, ⟨(({ U with heap := s₂.heap, slotsUsed := s₂.slotsUsed } : State).setVm s₂.vm), Ls ++ L, c0 + mc, s0 + ms⟩,
      ⟨X.admits, X.cas, X.clock, X.frames, X.room, X.hears, X.method, X.code, (X.here.setHeapUsed s₂.heap s₂.slotsUsed).setVm hW'.alike, X.tail, State.WarmedH.trans X.warmed hW', X.limits, X.bytes, X.same.trans (hsame.setVm s.vm)⟩,
      ⟨g, mk, s₂, L, rfl, rfl, hqc, rfl, hL, rfl, rfl⟩, ?_⟩
    show Steps p.tables e below _ ((({ U with heap := s₂.heap, slotsUsed := s₂.slotsUsed } : State).setVm s₂.vm).setTop { g with pc := g.pc + len₂, stack := v.toList ++ g.stack })
    rw [← hs₂]
    exact hsteps
  · obtain ⟨e2, q2, q3, q4, q5, q6⟩ := id hsm
    have e3 : s₂ = ({ (U.calling g mk a).setFrames s₂.frames with heap := s₂.heap, slotsUsed := s₂.slotsUsed } : State).setVm s₂.vm := by
      have : s₂ = ({ s₂ with vm := (U.calling g mk a).vm } : State).setVm s₂.vm := rfl
      rw [e2] at this
      exact this
    have hf₂ : s₂.frames = .throwing q :: .java g :: U.frames.tail := hend
    have hW' : U.WarmedH s₂.vm := hW₂
    have hs₂ : s₂ = ((({ U with heap := s₂.heap, slotsUsed := s₂.slotsUsed } : State).setVm s₂.vm).setTop g).pushFrame (.throwing q) := by
      refine e3.trans ?_
      rw [hf₂, State.calling_eq h.top, State.setFrames_setFrames, State.pushFrame, State.frames_setTop _ hr', State.setTop_of_frames _ hr', State.setFrames_setFrames, hr]
      rfl
    have hsame : U.sameButNew ({ U with heap := s₂.heap, slotsUsed := s₂.slotsUsed } : State) L mc ms := by
      refine ⟨?_, q2, q3, q4, q5, q6⟩
      obtain ⟨t, ht, -⟩ := State.frames_cons hr
      show ({ U with heap := s₂.heap, slotsUsed := s₂.slotsUsed } : State) = { U.setFrames U.frames with heap := s₂.heap, slotsUsed := s₂.slotsUsed }
      rw [State.setFrames_self ht]
    subst hg
    refine Or.inr ⟨q, ⟨(({ U with heap := s₂.heap, slotsUsed := s₂.slotsUsed } : State).setVm s₂.vm), Ls ++ L, c0 + mc, s0 + ms⟩,
      ⟨X.admits, X.cas, X.clock, X.frames, X.room, X.hears, X.method, X.code, (X.here.setHeapUsed s₂.heap s₂.slotsUsed).setVm hW'.alike, X.tail, State.WarmedH.trans X.warmed hW', X.limits, X.bytes, X.same.trans (hsame.setVm s.vm)⟩,
      ⟨g, mk, s₂, L, E, ce, rfl, rfl, hx, hce, hcv, hcl, rfl, hL, rfl, rfl⟩, ?_⟩
    show Steps p.tables e below _ (((({ U with heap := s₂.heap, slotsUsed := s₂.slotsUsed } : State).setVm s₂.vm).setTop g).pushFrame (.throwing q))
    rw [← hs₂]
    exact hsteps
end
variable {p : Program} {l : Launch} {e : Env} {R : Room} {s : State} {m : MethodId} {args : Array Value} {below : List Frame} {meth : Method} {c : Code} {T : State} {H : Heap} {locs : List Loc} {cells slots : Nat}
theorem vx_callVX (X : Stand p l e R s m args below meth c T locs cells slots) (hexec : p.tables.exec = Jvm.exec) {own C : String} {index : Nat} {y : MethodName} {bytes : ByteArray} {maxL : Nat} {ret : Option FieldType} {hh : List (Nat × Nat × Nat × Nat)}
    (hown : s.vm.findClass own = some m.cls) (hlink : (Cond.methodLink own index y).before args s = true) (hinst : (Cond.instanceMethod y).before args s = true) (hsel : (Cond.selects C y y).before args s = true)
    (hcode : (Cond.codeWith y bytes maxL ret hh).before args s = true) (hy : y.cls ≠ "java/lang/invoke/MethodHandle" ∧ y.cls ≠ "java/lang/invoke/VarHandle")
    {W9 : Nat} {Pre : Pt → Array Value → Prop} {Post : Pt → Array Value → Option Value → Pt → Prop} {PostX : Pt → Array Value → Addr → Pt → Prop} (hK : vx_Back l R p e below s args y 3 W9 Pre Post PostX)
    {b : Addr} {cellB : Cell} (hcell : T.heap[b]? = some cellB) (hobj : cellB.vm.isStatics = false) (hcls : s.vm.findClass C = some cellB.cls)
    {g : JFrame} (hg : g.method = m) (hsize : g.locals.size = c.maxLocals) {argsL rest : List Value} (hlen : ∀ sig, parseMethodDescriptor y.desc = some sig → argsL.length = sig.parameters.length)
    (hstack : g.stack = argsL.reverse ++ .ref b :: rest) (hW : 2 * g.monitorRoom + (rest.map fun v => v.category).sum ≤ W9) (hdg : decode c.code g.pc = .ok (.invokevirtual index, 3))
    (hpre : ∀ vm₁, s.WarmedH vm₁ → Pre ⟨T.setVm vm₁, locs, cells, slots⟩ (Value.ref b :: argsL).toArray) :
    (∃ (v : Option Value) (vm₁ : Vm) (B : Pt), s.WarmedH vm₁ ∧ Stand p l e R s m args below meth c B.U B.locs B.cells B.slots ∧ Post ⟨T.setVm vm₁, locs, cells, slots⟩ (Value.ref b :: argsL).toArray v B ∧
      ∀ target, Steps p.tables e below (B.U.setTop { g with pc := g.pc + 3, stack := v.toList ++ rest }) target → Steps p.tables e below (T.setTop g) target) ∨
    (∃ (q : Addr) (vm₁ : Vm) (B : Pt), s.WarmedH vm₁ ∧ Stand p l e R s m args below meth c B.U B.locs B.cells B.slots ∧ PostX ⟨T.setVm vm₁, locs, cells, slots⟩ (Value.ref b :: argsL).toArray q B ∧
      Steps p.tables e below (T.setTop g) ((B.U.setTop { g with stack := rest }).pushFrame (.throwing q))) := by
  obtain ⟨mk, methM, hnamed, hmethM, hstM, habM⟩ := Cond.instanceMethod_spec hinst
  obtain ⟨m8, methM', cM, hn8, hmethM', -, -, -, -, -, -, hsigM⟩ := Cond.codeWith_spec hcode
  cases Option.some.inj (hn8.symm.trans hnamed)
  cases hmethM.symm.trans hmethM'
  obtain ⟨c2, r2, m2, q1, q2, q3, q4, kP, hkP, hkPi⟩ := Cond.selects_spec hsel
  cases hcls.symm.trans q1
  cases (State.methodFound?_of_named hnamed hy).symm.trans q2
  cases hnamed.symm.trans q3
  have hselP : selectMethod e.platform s.vm cellB.cls mk = .method mk := by rw [Launch.admits_selectMethod X.admits]; exact q4
  obtain ⟨vm₁, X₁, hstep₁⟩ := X.invokevirtual hexec hown hlink hnamed hmethM hstM hkP hkPi hy (a := b) (cell := cellB) hcell
    (fun z h => by rw [h] at hobj; cases hobj) hselP hmethM habM hkP hkPi (g := g) hg (argsL := argsL) (rest := rest) (hlen _ hsigM) hstack hdg
  rcases hK m meth c ⟨T.setVm vm₁, locs, cells, slots⟩ { g with stack := rest } (.invokevirtual index) mk (Value.ref b :: argsL).toArray X₁ hg hsize hdg hW (X₁.named hnamed) (hpre vm₁ X₁.warmed) with ⟨v, B, X', hpost, hsteps⟩ | ⟨q, B, X', hpost, hsteps⟩
  · exact Or.inl ⟨v, vm₁, B, X₁.warmed, X', hpost, fun target h => hstep₁ _ fun acts => by rw [doInvoke_state]; exact hsteps.trans h⟩
  · exact Or.inr ⟨q, vm₁, B, X₁.warmed, X', hpost, hstep₁ _ fun acts => by rw [doInvoke_state]; exact hsteps⟩
theorem vx_callSX (X : Stand p l e R s m args below meth c T locs cells slots) (hexec : p.tables.exec = Jvm.exec) {own : String} {index : Nat} {y : MethodName} {bytes : ByteArray} {maxL : Nat} {ret : Option FieldType} {hh : List (Nat × Nat × Nat × Nat)}
    (hown : s.vm.findClass own = some m.cls) (hlink : (Cond.methodLink own index y).before args s = true) (hstat : (Cond.static y).before args s = true) (hinit : (Cond.initialized y.cls).before args s = true)
    (hcode : (Cond.codeWith y bytes maxL ret hh).before args s = true) (hy : y.cls ≠ "java/lang/invoke/MethodHandle" ∧ y.cls ≠ "java/lang/invoke/VarHandle")
    {W9 : Nat} {Pre : Pt → Array Value → Prop} {Post : Pt → Array Value → Option Value → Pt → Prop} {PostX : Pt → Array Value → Addr → Pt → Prop} (hK : vx_Back l R p e below s args y 3 W9 Pre Post PostX)
    {g : JFrame} (hg : g.method = m) (hsize : g.locals.size = c.maxLocals) {argsL rest : List Value} (hlen : ∀ sig, parseMethodDescriptor y.desc = some sig → argsL.length = sig.parameters.length)
    (hstack : g.stack = argsL.reverse ++ rest) (hW : 2 * g.monitorRoom + (rest.map fun v => v.category).sum ≤ W9) (hdg : decode c.code g.pc = .ok (.invokestatic index, 3))
    (hpre : ∀ vm₁, s.WarmedH vm₁ → Pre ⟨T.setVm vm₁, locs, cells, slots⟩ argsL.toArray) :
    (∃ (v : Option Value) (vm₁ : Vm) (B : Pt), s.WarmedH vm₁ ∧ Stand p l e R s m args below meth c B.U B.locs B.cells B.slots ∧ Post ⟨T.setVm vm₁, locs, cells, slots⟩ argsL.toArray v B ∧
      ∀ target, Steps p.tables e below (B.U.setTop { g with pc := g.pc + 3, stack := v.toList ++ rest }) target → Steps p.tables e below (T.setTop g) target) ∨
    (∃ (q : Addr) (vm₁ : Vm) (B : Pt), s.WarmedH vm₁ ∧ Stand p l e R s m args below meth c B.U B.locs B.cells B.slots ∧ PostX ⟨T.setVm vm₁, locs, cells, slots⟩ argsL.toArray q B ∧
      Steps p.tables e below (T.setTop g) ((B.U.setTop { g with stack := rest }).pushFrame (.throwing q))) := by
  obtain ⟨mk, methM, cM, hnamed, hmethM, -, -, -, -, -, -, hsigM⟩ := Cond.codeWith_spec hcode
  have hstatic : methM.isStatic = true := Cond.static_spec hnamed hmethM hstat
  obtain ⟨kP, hkP, -⟩ := className_of_methodNamed hnamed
  have hinitP : kP.init = .initialized := Cond.initialized_spec (findClass_of_methodNamed hnamed) hkP hinit
  obtain ⟨vm₁, X₁, hstep₁⟩ := X.invokestatic hexec hown hlink hnamed hmethM hstatic hkP hinitP hy (g := g) hg (argsL := argsL) (rest := rest) (hlen _ hsigM) hstack hdg
  rcases hK m meth c ⟨T.setVm vm₁, locs, cells, slots⟩ { g with stack := rest } (.invokestatic index) mk argsL.toArray X₁ hg hsize hdg hW (X₁.named hnamed) (hpre vm₁ X₁.warmed) with ⟨v, B, X', hpost, hsteps⟩ | ⟨q, B, X', hpost, hsteps⟩
  · exact Or.inl ⟨v, vm₁, B, X₁.warmed, X', hpost, fun target h => hstep₁ _ fun acts => by rw [doInvoke_state]; exact hsteps.trans h⟩
  · exact Or.inr ⟨q, vm₁, B, X₁.warmed, X', hpost, hstep₁ _ fun acts => by rw [doInvoke_state]; exact hsteps⟩
theorem vx_callVW (X : Stand p l e R s m args below meth c T locs cells slots) (hexec : p.tables.exec = Jvm.exec) {own C : String} {index : Nat} {y : MethodName} {bytes : ByteArray} {maxL : Nat} {ret : Option FieldType} {hh : List (Nat × Nat × Nat × Nat)}
    (hown : s.vm.findClass own = some m.cls) (hlink : (Cond.methodLink own index y).before args s = true) (hinst : (Cond.instanceMethod y).before args s = true) (hsel : (Cond.selects C y y).before args s = true)
    (hcode : (Cond.codeWith y bytes maxL ret hh).before args s = true) (hy : y.cls ≠ "java/lang/invoke/MethodHandle" ∧ y.cls ≠ "java/lang/invoke/VarHandle")
    {W9 : Nat} {Pre : Pt → Array Value → Prop} {Post : Pt → Array Value → Option Value → Pt → Prop} (hK : Back l R p e below s args y 3 W9 Pre Post)
    {b : Addr} {cellB : Cell} (hcell : T.heap[b]? = some cellB) (hobj : cellB.vm.isStatics = false) (hcls : s.vm.findClass C = some cellB.cls)
    {g : JFrame} (hg : g.method = m) (hsize : g.locals.size = c.maxLocals) {argsL rest : List Value} (hlen : ∀ sig, parseMethodDescriptor y.desc = some sig → argsL.length = sig.parameters.length)
    (hstack : g.stack = argsL.reverse ++ .ref b :: rest) (hW : 2 * g.monitorRoom + (rest.map fun v => v.category).sum ≤ W9) (hdg : decode c.code g.pc = .ok (.invokevirtual index, 3))
    (hpre : ∀ vm₁, s.WarmedH vm₁ → Pre ⟨T.setVm vm₁, locs, cells, slots⟩ (Value.ref b :: argsL).toArray) :
    ∃ (v : Option Value) (vm₁ : Vm) (B : Pt), s.WarmedH vm₁ ∧ Stand p l e R s m args below meth c B.U B.locs B.cells B.slots ∧ Post ⟨T.setVm vm₁, locs, cells, slots⟩ (Value.ref b :: argsL).toArray v B ∧
      ∀ target, Steps p.tables e below (B.U.setTop { g with pc := g.pc + 3, stack := v.toList ++ rest }) target → Steps p.tables e below (T.setTop g) target := by
  obtain ⟨mk, methM, hnamed, hmethM, hstM, habM⟩ := Cond.instanceMethod_spec hinst
  obtain ⟨m8, methM', cM, hn8, hmethM', -, -, -, -, -, -, hsigM⟩ := Cond.codeWith_spec hcode
  cases Option.some.inj (hn8.symm.trans hnamed)
  cases hmethM.symm.trans hmethM'
  obtain ⟨c2, r2, m2, q1, q2, q3, q4, kP, hkP, hkPi⟩ := Cond.selects_spec hsel
  cases hcls.symm.trans q1
  cases (State.methodFound?_of_named hnamed hy).symm.trans q2
  cases hnamed.symm.trans q3
  have hselP : selectMethod e.platform s.vm cellB.cls mk = .method mk := by rw [Launch.admits_selectMethod X.admits]; exact q4
  obtain ⟨vm₁, X₁, hstep₁⟩ := X.invokevirtual hexec hown hlink hnamed hmethM hstM hkP hkPi hy (a := b) (cell := cellB) hcell
    (fun z h => by rw [h] at hobj; cases hobj) hselP hmethM habM hkP hkPi (g := g) hg (argsL := argsL) (rest := rest) (hlen _ hsigM) hstack hdg
  obtain ⟨v, B, X', hpost, hsteps⟩ := hK m meth c ⟨T.setVm vm₁, locs, cells, slots⟩ { g with stack := rest } (.invokevirtual index) mk (Value.ref b :: argsL).toArray X₁ hg hsize hdg hW (X₁.named hnamed) (hpre vm₁ X₁.warmed)
  exact ⟨v, vm₁, B, X₁.warmed, X', hpost, fun target h => hstep₁ _ fun acts => by rw [doInvoke_state]; exact hsteps.trans h⟩
abbrev vx_CVW (R : Room) (s : State) (args : Array Value) (own C : String) (index : Nat) (y : MethodName) (bytes : ByteArray) (maxL : Nat) (ret : Option FieldType) (hh : List (Nat × Nat × Nat × Nat)) (ws : List Cond) (rm : Room) (mc ms n : Nat) : Prop :=
  (rm.cells = mc ∧ rm.slots = ms ∧ rm.frames + 1 ≤ R.frames ∧ 8 + (maxL + 11) + rm.locals ≤ R.locals ∧ (∀ w ∈ ws, ∀ (a' : Array Value) (U : State), s.WarmedH U.vm → w.before a' U = true) ∧ Cond.codeWith y bytes maxL ret hh ∈ ws) ∧
  (Cond.codeWith y bytes maxL ret hh).before args s = true ∧ (Cond.initialized y.cls).before args s = true ∧ (y.cls ≠ "java/lang/invoke/MethodHandle" ∧ y.cls ≠ "java/lang/invoke/VarHandle") ∧
  (∀ sig, parseMethodDescriptor y.desc = some sig → n = sig.parameters.length) ∧ (Cond.methodLink own index y).before args s = true ∧ (Cond.instanceMethod y).before args s = true ∧ (Cond.selects C y y).before args s = true
theorem vx_cwVW {own C : String} {index maxL mc ms : Nat} {y : MethodName} {bytes : ByteArray} {ret : Option FieldType} {hh : List (Nat × Nat × Nat × Nat)} {Ts ws ws' : List Cond} {rm : Room} (n : Nat) (ht : ∀ w ∈ Ts, w.before args s = true) (hT : GoodIn Ts (wsV own index C y ws)) (hw : ws = Cond.codeWith y bytes maxL ret hh :: ws') (hrc : rm.cells = mc) (hrs : rm.slots = ms)
    (hd : y.cls = C ∧ y.cls ≠ "java/lang/invoke/MethodHandle" ∧ y.cls ≠ "java/lang/invoke/VarHandle" ∧ (parseMethodDescriptor y.desc).map (fun d => d.parameters.length) = some n) (hR : rm.frames + 1 ≤ R.frames ∧ 8 + (maxL + 11) + rm.locals ≤ R.locals) :
    vx_CVW R s args own C index y bytes maxL ret hh ws rm mc ms n := by
  obtain ⟨hC, hd⟩ := hd
  subst hC
  have ok : ∀ w ∈ wsV own index y.cls y ws, w.before args s = true := fun w h => ht w (hT w h).1
  have hG : GoodIn Ts ws := fun w h => hT w (by unfold wsV; exact List.mem_append_right _ h)
  have hc : Cond.codeWith y bytes maxL ret hh ∈ ws := by rw [hw]; exact List.mem_cons_self
  refine ⟨⟨hrc, hrs, hR.1, hR.2, pay_in ht hG, hc⟩, ht _ (hG _ hc).1, ok _ (by simp [wsV]), ⟨hd.1, hd.2.1⟩, fun sig h => ?_, ok _ (by simp [wsV]), ok _ (by simp [wsV]), ok _ (by simp [wsV])⟩
  have h2 := hd.2.2
  rw [h] at h2
  exact (Option.some.inj h2).symm
theorem vx_runVW {y : MethodName} {bytes cc : ByteArray} {maxL nL mc ms n index : Nat} {ret : Option FieldType} {hh : List (Nat × Nat × Nat × Nat)} {ws : List Cond} {rm : Room} {Pc : Array Value → State → Prop} {Qc : Array Value → State → Outcome → State → Prop} {free : Addr → Prop} {Ts : List Cond} {own C : String} {b : Addr} {As rest : List Value} {g : JFrame}
    (S : CallFix p m c cc nL s args Ts own) (hM : Met l y ws rm Pc Qc mc ms free) (cw : vx_CVW R s args own C index y bytes maxL ret hh ws rm mc ms n) (hp : PreV s H C b Pc As)
    (hg : g.method = m) (hn : As.length = n) (hsize : g.locals.size = nL) (hstack : g.stack = As.reverse ++ .ref b :: rest) (hW : 2 * g.monitorRoom + (rest.map fun v => v.category).sum ≤ 8) (hdg : decode cc g.pc = .ok (.invokevirtual index, 3)) (hf : cells + mc ≤ R.cells ∧ slots + ms ≤ R.slots) :
    va_Run p l e R s m args below meth c H locs cells slots mc ms g rest (Qc (Value.ref b :: As).toArray) free := by
  obtain ⟨⟨hrc, hrs, hfr, hlo, hws, hcw⟩, hcode, hini, hy, hlen, hl, hin, hse⟩ := cw
  have hK : Back l R p e below s args y 3 8 (PreOf R mc ms Pc) (PostOf Qc mc ms free) := va_backW (hh := hh) (bytes := bytes) (maxL := maxL) (ret := ret) hM hp.1 hrc hrs hfr hlo hws hcw (fun a' U hW => word_at hW (Or.inl (by first | rfl | simp [Cond.onTables, Cond.keeps, Cond.steady])) hini)
  obtain ⟨hx, hb, hml, ho, -⟩ := S
  obtain ⟨-, ⟨cellB, hcB, hoB, hclB⟩, hPc⟩ := hp
  intro T hT X
  obtain ⟨v, vm₁, ⟨U', l2, c2, s2⟩, hW₁, X', ⟨g', mk, t, L, e1, e2, hq, h1, hL, h2, h3⟩, st⟩ := vx_callVW X hx (C := C) (hh := hh) (bytes := bytes) (maxL := maxL) (ret := ret) ho hl hin hse hcode hy hK (by rw [hT]; exact hcB) hoB hclB hg (hsize.trans hml.symm) (argsL := As) (rest := rest) (fun sig h => hn.trans (hlen sig h)) hstack hW (by rw [hb]; exact hdg)
    (fun vm₁ hW₁ => ⟨hf.1, hf.2, hPc (T.setVm vm₁) hT hW₁⟩)
  dsimp only [Pt.U, Pt.locs, Pt.cells, Pt.slots] at X' e1 e2 h1 h2 h3 st
  subst h1; subst h2; subst h3
  exact ⟨v, (T.setVm vm₁).calling g' mk (Value.ref b :: As).toArray, t, U', L, hT, X', hL, e1, e2, hq, st⟩
section
variable {y : MethodName} {bytes cc : ByteArray} {maxL nL mc ms n index : Nat} {ret : Option FieldType} {ws : List Cond} {rm : Room} {Pc : Array Value → State → Prop} {Qc : Array Value → State → Outcome → State → Prop} {XC : String → State → State → Prop} {free : Addr → Prop} {Ts : List Cond} {own C : String} {b : Addr} {As rest : List Value} {g : JFrame}
theorem vx_runVX {hh : List (Nat × Nat × Nat × Nat)} (S : CallFix p m c cc nL s args Ts own) (hM : vx_Met l y ws rm Pc Qc XC mc ms free) (cw : vx_CVW R s args own C index y bytes maxL ret hh ws rm mc ms n) (hp : PreV s H C b Pc As)
    (hg : g.method = m) (hn : As.length = n) (hsize : g.locals.size = nL) (hstack : g.stack = As.reverse ++ .ref b :: rest) (hW : 2 * g.monitorRoom + (rest.map fun v => v.category).sum ≤ 8) (hdg : decode cc g.pc = .ok (.invokevirtual index, 3)) (hf : cells + mc ≤ R.cells ∧ slots + ms ≤ R.slots) :
    vx_Run p l e R s m args below meth c H locs cells slots mc ms g rest (Qc (Value.ref b :: As).toArray) XC free := by
  obtain ⟨⟨hrc, hrs, hfr, hlo, hws, hcw⟩, hcode, hini, hy, hlen, hl, hin, hse⟩ := cw
  have hK : vx_Back l R p e below s args y 3 8 (PreOf R mc ms Pc) (PostOf Qc mc ms free) (vx_Post XC mc ms free) := vx_backW (hh := hh) (bytes := bytes) (maxL := maxL) (ret := ret) hM hp.1 hrc hrs hfr hlo hws hcw (fun a' U hW => word_at hW (Or.inl (by first | rfl | simp [Cond.onTables, Cond.keeps, Cond.steady])) hini)
  obtain ⟨hx, hb, hml, ho, -⟩ := S
  obtain ⟨-, ⟨cellB, hcB, hoB, hclB⟩, hPc⟩ := hp
  intro T hT X
  rcases vx_callVX X hx (C := C) (hh := hh) (bytes := bytes) (maxL := maxL) (ret := ret) ho hl hin hse hcode hy hK (by rw [hT]; exact hcB) hoB hclB hg (hsize.trans hml.symm) (argsL := As) (rest := rest) (fun sig h => hn.trans (hlen sig h)) hstack hW (by rw [hb]; exact hdg)
    (fun vm₁ hW₁ => ⟨hf.1, hf.2, hPc (T.setVm vm₁) hT hW₁⟩) with ⟨v, vm₁, ⟨U', l2, c2, s2⟩, hW₁, X', ⟨g', mk, t, L, e1, e2, hq, h1, hL, h2, h3⟩, st⟩ | ⟨q, vm₁, ⟨U', l2, c2, s2⟩, hW₁, X', ⟨g', mk, t, L, E, ce, e1, e2, hq, hce, hcv, hcl, h1, hL, h2, h3⟩, st⟩
  · dsimp only [Pt.U, Pt.locs, Pt.cells, Pt.slots] at X' e1 e2 h1 h2 h3 st
    subst h1; subst h2; subst h3
    exact Or.inl ⟨v, (T.setVm vm₁).calling g' mk (Value.ref b :: As).toArray, t, U', L, hT, X', hL, e1, e2, hq, st⟩
  · dsimp only [Pt.U, Pt.locs, Pt.cells, Pt.slots] at X' e1 e2 h1 h2 h3 st hcl
    subst h1; subst h2; subst h3
    exact Or.inr ⟨q, (T.setVm vm₁).calling g' mk (Value.ref b :: As).toArray, t, U', L, E, ce, hT, X', hL, e1, e2, hq, hce, hcv, vx_cls hW₁ hcl, st⟩
theorem vx_runSX {hh : List (Nat × Nat × Nat × Nat)} (S : CallFix p m c cc nL s args Ts own) (hM : vx_Met l y ws rm Pc Qc XC mc ms free) (cw : vx_CSW R s args own index y bytes maxL ret hh ws rm mc ms n) (hp : PreS s H Pc As)
    (hg : g.method = m) (hn : As.length = n) (hsize : g.locals.size = nL) (hstack : g.stack = As.reverse ++ rest) (hW : 2 * g.monitorRoom + (rest.map fun v => v.category).sum ≤ 8) (hdg : decode cc g.pc = .ok (.invokestatic index, 3)) (hf : cells + mc ≤ R.cells ∧ slots + ms ≤ R.slots) :
    vx_Run p l e R s m args below meth c H locs cells slots mc ms g rest (Qc As.toArray) XC free := by
  obtain ⟨⟨hrc, hrs, hfr, hlo, hws, hcw⟩, hcode, hini, hy, hlen, hl, hstt⟩ := cw
  have hK : vx_Back l R p e below s args y 3 8 (PreOf R mc ms Pc) (PostOf Qc mc ms free) (vx_Post XC mc ms free) := vx_backW (hh := hh) (bytes := bytes) (maxL := maxL) (ret := ret) hM hp.1 hrc hrs hfr hlo hws hcw (fun a' U hW => word_at hW (Or.inl (by first | rfl | simp [Cond.onTables, Cond.keeps, Cond.steady])) hini)
  obtain ⟨hx, hb, hml, ho, -⟩ := S
  intro T hT X
  rcases vx_callSX X hx (hh := hh) (bytes := bytes) (maxL := maxL) (ret := ret) ho hl hstt hini hcode hy hK hg (hsize.trans hml.symm) (argsL := As) (rest := rest) (fun sig h => hn.trans (hlen sig h)) hstack hW (by rw [hb]; exact hdg)
    (fun vm₁ hW₁ => ⟨hf.1, hf.2, hp.2 (T.setVm vm₁) hT hW₁⟩) with ⟨v, vm₁, ⟨U', l2, c2, s2⟩, hW₁, X', ⟨g', mk, t, L, e1, e2, hq, h1, hL, h2, h3⟩, st⟩ | ⟨q, vm₁, ⟨U', l2, c2, s2⟩, hW₁, X', ⟨g', mk, t, L, E, ce, e1, e2, hq, hce, hcv, hcl, h1, hL, h2, h3⟩, st⟩
  · dsimp only [Pt.U, Pt.locs, Pt.cells, Pt.slots] at X' e1 e2 h1 h2 h3 st
    subst h1; subst h2; subst h3
    exact Or.inl ⟨v, (T.setVm vm₁).calling g' mk As.toArray, t, U', L, hT, X', hL, e1, e2, hq, st⟩
  · dsimp only [Pt.U, Pt.locs, Pt.cells, Pt.slots] at X' e1 e2 h1 h2 h3 st hcl
    subst h1; subst h2; subst h3
    exact Or.inr ⟨q, (T.setVm vm₁).calling g' mk As.toArray, t, U', L, E, ce, hT, X', hL, e1, e2, hq, hce, hcv, vx_cls hW₁ hcl, st⟩
end
end VXH
theorem vx_ofWH {l : Launch} {y : MethodName} {ws ws' : List Cond} {rm : Room} {Pc : Array Value → State → Prop} {Qc : Array Value → State → Outcome → State → Prop} {XC : String → State → State → Prop} {mc ms : Nat} {free : Addr → Prop} {cc : ByteArray} {maxL : Nat} {ret : Option FieldType} {hh : List (Nat × Nat × Nat × Nat)}
    (hy : plainName y.cls = true) (hw : ws = Cond.codeWith y cc maxL ret hh :: ws')
    (body : ∀ p e s m args below meth c s₁, BodyLoose p l y (headSpec ws rm) cc maxL ret e s m args below meth c s₁ → c.maxLocals = maxL → Pc args s →
      W p l e (headSpec ws rm).room s m args below meth c s.heap [] 0 0 (vx_MQ below Qc XC args s mc ms free) (entryFrame m args maxL)) : vx_Met l y ws rm Pc Qc XC mc ms free := by
  refine MetFree.of_bodyS (code := cc) (maxLocals := maxL) (ret := ret) hy ?_ ?_
  · intro args s m h hn
    obtain ⟨m9, meth, c, hn9, h1, h2, h3, h4, -, h5, h6, -⟩ := Cond.codeWith_spec (atoms_spec (ws := ws) h _ (by rw [hw]; exact List.mem_cons_self))
    cases hn.symm.trans hn9
    exact ⟨meth, c, h1, h2, h3, h4, h5, h6⟩
  · intro p e s m args below meth c s₁ B hml hP _
    have hh0 : s₁.heap = s.heap := by rw [B.state]; rfl
    obtain ⟨t, a1, o, b1, b2, b3⟩ := body p e s m args below meth c s₁ B hml hP s₁ hh0 (Stand.of_body B)
    exact ⟨t, o, a1, b1, b2, b3⟩
/-! ===== END ===== -/

/-! ===== BEGIN printed: names, fields, word lists, decode rows ===== -/
def RX0 : String := "TarockHall$Bidding"
def TX0 : u_T := fun k => match k with
  | 0 => ("TarockHall$Bidding", "passed", "I", false)
  | 1 => ("TarockHall$Bidding", "highest", "I", false)
  | _ => ("TarockHall$Bidding", "bidder", "I", false)
def tyX0 : Nat → FieldType := fun k => match k with
  | 0 => .int
  | 1 => .int
  | _ => .int
abbrev wsX00 : List Cond := u_ws RX0 TX0 3
theorem nmX0 : ∀ a, a < 3 → ∀ b, b < 3 → a ≠ b → (TX0 a).2.1 ≠ (TX0 b).2.1 := by decide +kernel
theorem tyX0_ok : ∀ k, k < 3 → parseFieldDescriptor (TX0 k).2.2.1 = some (tyX0 k) := by decide +kernel
abbrev cX0_init : ByteArray := prog_2_method_1_code
def yX0_init : MethodName := ⟨RX0, "<init>", "()V"⟩
abbrev cX0_clear : ByteArray := prog_2_method_2_code
def yX0_clear : MethodName := ⟨RX0, "clear", "()V"⟩
abbrev cX0_enter : ByteArray := prog_2_method_3_code
def yX0_enter : MethodName := ⟨RX0, "enter", "(II)V"⟩
abbrev cX0_allPassed : ByteArray := prog_2_method_4_code
def yX0_allPassed : MethodName := ⟨RX0, "allPassed", "()Z"⟩
abbrev cX0_isSettled : ByteArray := prog_2_method_5_code
def yX0_isSettled : MethodName := ⟨RX0, "isSettled", "()Z"⟩
abbrev cX0_nextBehind : ByteArray := prog_2_method_6_code
def yX0_nextBehind : MethodName := ⟨RX0, "nextBehind", "(I)I"⟩
abbrev cX0_hasPassed : ByteArray := prog_2_method_7_code
def yX0_hasPassed : MethodName := ⟨RX0, "hasPassed", "(I)Z"⟩
def RX1 : String := "TarockHall$Deck"
def TX1 : u_T := fun k => match k with
  | _ => ("TarockHall$Deck", "row", "LTarockHall$Row;", true)
def tyX1 : Nat → FieldType := fun k => match k with
  | _ => .object "TarockHall$Row"
abbrev wsX10 : List Cond := u_ws RX1 TX1 1
theorem nmX1 : ∀ a, a < 1 → ∀ b, b < 1 → a ≠ b → (TX1 a).2.1 ≠ (TX1 b).2.1 := by decide +kernel
theorem tyX1_ok : ∀ k, k < 1 → parseFieldDescriptor (TX1 k).2.2.1 = some (tyX1 k) := by decide +kernel
abbrev cX1_init : ByteArray := prog_3_method_1_code
def yX1_init : MethodName := ⟨RX1, "<init>", "()V"⟩
abbrev cX1_shuffle : ByteArray := prog_3_method_2_code
def yX1_shuffle : MethodName := ⟨RX1, "shuffle", "(I)V"⟩
abbrev cX1_swap : ByteArray := prog_3_method_3_code
def yX1_swap : MethodName := ⟨RX1, "swap", "(II)V"⟩
abbrev cX1_cardAt : ByteArray := prog_3_method_4_code
def yX1_cardAt : MethodName := ⟨RX1, "cardAt", "(I)I"⟩
abbrev cX1_cardsFrom : ByteArray := prog_3_method_5_code
def yX1_cardsFrom : MethodName := ⟨RX1, "cardsFrom", "(II)J"⟩
def RX2 : String := "TarockHall$Row"
def TX2 : u_T := fun k => match k with
  | _ => ("TarockHall$Row", "items", "[I", true)
def tyX2 : Nat → FieldType := fun k => match k with
  | _ => .array .int
abbrev wsX20 : List Cond := u_ws RX2 TX2 1
theorem nmX2 : ∀ a, a < 1 → ∀ b, b < 1 → a ≠ b → (TX2 a).2.1 ≠ (TX2 b).2.1 := by decide +kernel
theorem tyX2_ok : ∀ k, k < 1 → parseFieldDescriptor (TX2 k).2.2.1 = some (tyX2 k) := by decide +kernel
abbrev cX2_init : ByteArray := prog_4_method_1_code
def yX2_init : MethodName := ⟨RX2, "<init>", "(I)V"⟩
abbrev cX2_at : ByteArray := prog_4_method_2_code
def yX2_at : MethodName := ⟨RX2, "at", "(I)I"⟩
abbrev cX2_put : ByteArray := prog_4_method_3_code
def yX2_put : MethodName := ⟨RX2, "put", "(II)V"⟩
def RX3 : String := "TarockHall$Sets"
def TX3 : u_T := fun k => match k with
  | _ => ("TarockHall$Sets", "items", "[J", true)
def tyX3 : Nat → FieldType := fun k => match k with
  | _ => .array .long
abbrev wsX30 : List Cond := u_ws RX3 TX3 1
theorem nmX3 : ∀ a, a < 1 → ∀ b, b < 1 → a ≠ b → (TX3 a).2.1 ≠ (TX3 b).2.1 := by decide +kernel
theorem tyX3_ok : ∀ k, k < 1 → parseFieldDescriptor (TX3 k).2.2.1 = some (tyX3 k) := by decide +kernel
abbrev cX3_init : ByteArray := prog_5_method_1_code
def yX3_init : MethodName := ⟨RX3, "<init>", "(I)V"⟩
abbrev cX3_at : ByteArray := prog_5_method_2_code
def yX3_at : MethodName := ⟨RX3, "at", "(I)J"⟩
abbrev cX3_put : ByteArray := prog_5_method_3_code
def yX3_put : MethodName := ⟨RX3, "put", "(IJ)V"⟩
def RX4 : String := "TarockHall$Sheet"
def TX4 : u_T := fun k => match k with
  | 0 => ("TarockHall$Sheet", "scores", "LTarockHall$Row;", true)
  | 1 => ("TarockHall$Sheet", "radli", "LTarockHall$Row;", true)
  | _ => ("TarockHall$Sheet", "latest", "I", false)
def tyX4 : Nat → FieldType := fun k => match k with
  | 0 => .object "TarockHall$Row"
  | 1 => .object "TarockHall$Row"
  | _ => .int
abbrev wsX40 : List Cond := u_ws RX4 TX4 3
theorem nmX4 : ∀ a, a < 3 → ∀ b, b < 3 → a ≠ b → (TX4 a).2.1 ≠ (TX4 b).2.1 := by decide +kernel
theorem tyX4_ok : ∀ k, k < 3 → parseFieldDescriptor (TX4 k).2.2.1 = some (tyX4 k) := by decide +kernel
abbrev cX4_init : ByteArray := prog_6_method_1_code
def yX4_init : MethodName := ⟨RX4, "<init>", "()V"⟩
abbrev cX4_enter : ByteArray := prog_6_method_2_code
def yX4_enter : MethodName := ⟨RX4, "enter", "(IIIZ)V"⟩
abbrev cX4_giveRadli : ByteArray := prog_6_method_3_code
def yX4_giveRadli : MethodName := ⟨RX4, "giveRadli", "()V"⟩
abbrev cX4_addScore : ByteArray := prog_6_method_4_code
def yX4_addScore : MethodName := ⟨RX4, "addScore", "(I)V"⟩
def RX5 : String := "TarockHall$Trick"
def TX5 : u_T := fun k => match k with
  | 0 => ("TarockHall$Trick", "cards", "LTarockHall$Row;", true)
  | 1 => ("TarockHall$Trick", "leader", "I", false)
  | _ => ("TarockHall$Trick", "size", "I", false)
def tyX5 : Nat → FieldType := fun k => match k with
  | 0 => .object "TarockHall$Row"
  | 1 => .int
  | _ => .int
abbrev wsX50 : List Cond := u_ws RX5 TX5 3
theorem nmX5 : ∀ a, a < 3 → ∀ b, b < 3 → a ≠ b → (TX5 a).2.1 ≠ (TX5 b).2.1 := by decide +kernel
theorem tyX5_ok : ∀ k, k < 3 → parseFieldDescriptor (TX5 k).2.2.1 = some (tyX5 k) := by decide +kernel
abbrev cX5_init : ByteArray := prog_7_method_1_code
def yX5_init : MethodName := ⟨RX5, "<init>", "()V"⟩
abbrev cX5_begin : ByteArray := prog_7_method_2_code
def yX5_begin : MethodName := ⟨RX5, "begin", "(I)V"⟩
abbrev cX5_add : ByteArray := prog_7_method_3_code
def yX5_add : MethodName := ⟨RX5, "add", "(I)V"⟩
abbrev cX5_cardAt : ByteArray := prog_7_method_4_code
def yX5_cardAt : MethodName := ⟨RX5, "cardAt", "(I)I"⟩
abbrev cX5_ledSuit : ByteArray := prog_7_method_5_code
def yX5_ledSuit : MethodName := ⟨RX5, "ledSuit", "()I"⟩
abbrev cX5_cardSet : ByteArray := prog_7_method_6_code
def yX5_cardSet : MethodName := ⟨RX5, "cardSet", "()J"⟩
abbrev cX5_playerOf : ByteArray := prog_7_method_7_code
def yX5_playerOf : MethodName := ⟨RX5, "playerOf", "(I)I"⟩
abbrev cX5_winner : ByteArray := prog_7_method_8_code
def yX5_winner : MethodName := ⟨RX5, "winner", "()I"⟩
abbrev cX5_playerAt : ByteArray := prog_7_method_9_code
def yX5_playerAt : MethodName := ⟨RX5, "playerAt", "(I)I"⟩
abbrev cX5_beats : ByteArray := prog_7_method_10_code
def yX5_beats : MethodName := ⟨RX5, "beats", "(II)Z"⟩
def RX6 : String := "TarockHall"
def TX6 : u_T := fun k => match k with
  | 0 => ("TarockHall", "deck", "LTarockHall$Deck;", true)
  | 1 => ("TarockHall", "bidding", "LTarockHall$Bidding;", true)
  | 2 => ("TarockHall", "trick", "LTarockHall$Trick;", true)
  | 3 => ("TarockHall", "sheet", "LTarockHall$Sheet;", true)
  | 4 => ("TarockHall", "hands", "LTarockHall$Sets;", true)
  | 5 => ("TarockHall", "piles", "LTarockHall$Sets;", true)
  | 6 => ("TarockHall", "forehand", "I", false)
  | 7 => ("TarockHall", "phase", "I", false)
  | 8 => ("TarockHall", "turn", "I", false)
  | 9 => ("TarockHall", "declarer", "I", false)
  | 10 => ("TarockHall", "called", "I", false)
  | 11 => ("TarockHall", "kingOwner", "I", false)
  | 12 => ("TarockHall", "partner", "I", false)
  | 13 => ("TarockHall", "toLayAway", "I", false)
  | 14 => ("TarockHall", "laidAway", "J", false)
  | 15 => ("TarockHall", "restOfTalon", "J", false)
  | 16 => ("TarockHall", "announced", "I", false)
  | _ => ("TarockHall", "tricks", "I", false)
def tyX6 : Nat → FieldType := fun k => match k with
  | 0 => .object "TarockHall$Deck"
  | 1 => .object "TarockHall$Bidding"
  | 2 => .object "TarockHall$Trick"
  | 3 => .object "TarockHall$Sheet"
  | 4 => .object "TarockHall$Sets"
  | 5 => .object "TarockHall$Sets"
  | 6 => .int
  | 7 => .int
  | 8 => .int
  | 9 => .int
  | 10 => .int
  | 11 => .int
  | 12 => .int
  | 13 => .int
  | 14 => .long
  | 15 => .long
  | 16 => .int
  | _ => .int
abbrev wsX60 : List Cond := u_ws RX6 TX6 18
theorem nmX6 : ∀ a, a < 18 → ∀ b, b < 18 → a ≠ b → (TX6 a).2.1 ≠ (TX6 b).2.1 := by decide +kernel
theorem tyX6_ok : ∀ k, k < 18 → parseFieldDescriptor (TX6 k).2.2.1 = some (tyX6 k) := by decide +kernel
abbrev cX6_init : ByteArray := prog_1_method_1_code
def yX6_init : MethodName := ⟨RX6, "<init>", "()V"⟩
abbrev cX6_deal : ByteArray := prog_1_method_2_code
def yX6_deal : MethodName := ⟨RX6, "deal", "(I)I"⟩
abbrev cX6_bid : ByteArray := prog_1_method_3_code
def yX6_bid : MethodName := ⟨RX6, "bid", "(I)I"⟩
abbrev cX6_call : ByteArray := prog_1_method_4_code
def yX6_call : MethodName := ⟨RX6, "call", "(I)I"⟩
abbrev cX6_take : ByteArray := prog_1_method_5_code
def yX6_take : MethodName := ⟨RX6, "take", "(I)I"⟩
abbrev cX6_discard : ByteArray := prog_1_method_6_code
def yX6_discard : MethodName := ⟨RX6, "discard", "(I)I"⟩
abbrev cX6_announce : ByteArray := prog_1_method_7_code
def yX6_announce : MethodName := ⟨RX6, "announce", "(I)I"⟩
abbrev cX6_play : ByteArray := prog_1_method_8_code
def yX6_play : MethodName := ⟨RX6, "play", "(I)I"⟩
abbrev cX6_playLowest : ByteArray := prog_1_method_9_code
def yX6_playLowest : MethodName := ⟨RX6, "playLowest", "(I)I"⟩
abbrev cX6_phase : ByteArray := prog_1_method_10_code
def yX6_phase : MethodName := ⟨RX6, "phase", "()I"⟩
abbrev cX6_turn : ByteArray := prog_1_method_11_code
def yX6_turn : MethodName := ⟨RX6, "turn", "()I"⟩
abbrev cX6_declarer : ByteArray := prog_1_method_12_code
def yX6_declarer : MethodName := ⟨RX6, "declarer", "()I"⟩
abbrev cX6_level : ByteArray := prog_1_method_13_code
def yX6_level : MethodName := ⟨RX6, "level", "()I"⟩
abbrev cX6_called : ByteArray := prog_1_method_14_code
def yX6_called : MethodName := ⟨RX6, "called", "()I"⟩
abbrev cX6_partner : ByteArray := prog_1_method_15_code
def yX6_partner : MethodName := ⟨RX6, "partner", "()I"⟩
abbrev cX6_hand : ByteArray := prog_1_method_16_code
def yX6_hand : MethodName := ⟨RX6, "hand", "(I)J"⟩
abbrev cX6_talonAt : ByteArray := prog_1_method_17_code
def yX6_talonAt : MethodName := ⟨RX6, "talonAt", "(I)I"⟩
abbrev cX6_inTrick : ByteArray := prog_1_method_18_code
def yX6_inTrick : MethodName := ⟨RX6, "inTrick", "()I"⟩
abbrev cX6_trickAt : ByteArray := prog_1_method_19_code
def yX6_trickAt : MethodName := ⟨RX6, "trickAt", "(I)I"⟩
abbrev cX6_canPlay : ByteArray := prog_1_method_20_code
def yX6_canPlay : MethodName := ⟨RX6, "canPlay", "(I)Z"⟩
abbrev cX6_tricks : ByteArray := prog_1_method_21_code
def yX6_tricks : MethodName := ⟨RX6, "tricks", "()I"⟩
abbrev cX6_valueOf : ByteArray := prog_1_method_22_code
def yX6_valueOf : MethodName := ⟨RX6, "valueOf", "(I)I"⟩
abbrev cX6_thirds : ByteArray := prog_1_method_23_code
def yX6_thirds : MethodName := ⟨RX6, "thirds", "(I)I"⟩
abbrev cX6_byPacks : ByteArray := prog_1_method_24_code
def yX6_byPacks : MethodName := ⟨RX6, "byPacks", "(I)I"⟩
abbrev cX6_score : ByteArray := prog_1_method_25_code
def yX6_score : MethodName := ⟨RX6, "score", "(I)I"⟩
abbrev cX6_radli : ByteArray := prog_1_method_26_code
def yX6_radli : MethodName := ⟨RX6, "radli", "(I)I"⟩
abbrev cX6_result : ByteArray := prog_1_method_27_code
def yX6_result : MethodName := ⟨RX6, "result", "()I"⟩
abbrev cX6_knows : ByteArray := prog_1_method_28_code
def yX6_knows : MethodName := ⟨RX6, "knows", "(II)I"⟩
abbrev cX6_clearDeal : ByteArray := prog_1_method_29_code
def yX6_clearDeal : MethodName := ⟨RX6, "clearDeal", "()V"⟩
abbrev cX6_handOut : ByteArray := prog_1_method_30_code
def yX6_handOut : MethodName := ⟨RX6, "handOut", "()V"⟩
abbrev cX6_beginGame : ByteArray := prog_1_method_31_code
def yX6_beginGame : MethodName := ⟨RX6, "beginGame", "()V"⟩
abbrev cX6_beginPlay : ByteArray := prog_1_method_32_code
def yX6_beginPlay : MethodName := ⟨RX6, "beginPlay", "()V"⟩
abbrev cX6_addToTrick : ByteArray := prog_1_method_33_code
def yX6_addToTrick : MethodName := ⟨RX6, "addToTrick", "(I)I"⟩
abbrev cX6_endTrick : ByteArray := prog_1_method_34_code
def yX6_endTrick : MethodName := ⟨RX6, "endTrick", "(I)V"⟩
abbrev cX6_endDeal : ByteArray := prog_1_method_35_code
def yX6_endDeal : MethodName := ⟨RX6, "endDeal", "()V"⟩
abbrev cX6_enterResult : ByteArray := prog_1_method_36_code
def yX6_enterResult : MethodName := ⟨RX6, "enterResult", "(I)V"⟩
abbrev cX6_pagatPoints : ByteArray := prog_1_method_37_code
def yX6_pagatPoints : MethodName := ⟨RX6, "pagatPoints", "(I)I"⟩
abbrev cX6_kingPoints : ByteArray := prog_1_method_38_code
def yX6_kingPoints : MethodName := ⟨RX6, "kingPoints", "(I)I"⟩
abbrev cX6_groupsNow : ByteArray := prog_1_method_39_code
def yX6_groupsNow : MethodName := ⟨RX6, "groupsNow", "()I"⟩
abbrev cX6_playableNow : ByteArray := prog_1_method_40_code
def yX6_playableNow : MethodName := ⟨RX6, "playableNow", "()J"⟩
abbrev cX6_isAnnounced : ByteArray := prog_1_method_41_code
def yX6_isAnnounced : MethodName := ⟨RX6, "isAnnounced", "(I)Z"⟩
abbrev cX6_calledKing : ByteArray := prog_1_method_42_code
def yX6_calledKing : MethodName := ⟨RX6, "calledKing", "()I"⟩
abbrev cX6_ownerOf : ByteArray := prog_1_method_43_code
def yX6_ownerOf : MethodName := ⟨RX6, "ownerOf", "(I)I"⟩
abbrev cX6_sideOf : ByteArray := prog_1_method_44_code
def yX6_sideOf : MethodName := ⟨RX6, "sideOf", "(I)I"⟩
abbrev cX6_sidesAreOpen : ByteArray := prog_1_method_45_code
def yX6_sidesAreOpen : MethodName := ⟨RX6, "sidesAreOpen", "()Z"⟩
abbrev cX6_isPlayer : ByteArray := prog_1_method_46_code
def yX6_isPlayer : MethodName := ⟨RX6, "isPlayer", "(I)Z"⟩
abbrev cX6_isCard : ByteArray := prog_1_method_47_code
def yX6_isCard : MethodName := ⟨RX6, "isCard", "(I)Z"⟩
abbrev cX6_isSide : ByteArray := prog_1_method_48_code
def yX6_isSide : MethodName := ⟨RX6, "isSide", "(I)Z"⟩
abbrev cX6_behind : ByteArray := prog_1_method_49_code
def yX6_behind : MethodName := ⟨RX6, "behind", "(I)I"⟩
abbrev cX6_suitOf : ByteArray := prog_1_method_50_code
def yX6_suitOf : MethodName := ⟨RX6, "suitOf", "(I)I"⟩
abbrev cX6_worth : ByteArray := prog_1_method_51_code
def yX6_worth : MethodName := ⟨RX6, "worth", "(I)I"⟩
abbrev cX6_canBeLaidAway : ByteArray := prog_1_method_52_code
def yX6_canBeLaidAway : MethodName := ⟨RX6, "canBeLaidAway", "(I)Z"⟩
abbrev cX6_groupSize : ByteArray := prog_1_method_53_code
def yX6_groupSize : MethodName := ⟨RX6, "groupSize", "(I)I"⟩
abbrev cX6_groupsAt : ByteArray := prog_1_method_54_code
def yX6_groupsAt : MethodName := ⟨RX6, "groupsAt", "(I)I"⟩
abbrev cX6_isWon : ByteArray := prog_1_method_55_code
def yX6_isWon : MethodName := ⟨RX6, "isWon", "(I)Z"⟩
abbrev cX6_gamePoints : ByteArray := prog_1_method_56_code
def yX6_gamePoints : MethodName := ⟨RX6, "gamePoints", "(II)I"⟩
abbrev cX6_basePoints : ByteArray := prog_1_method_57_code
def yX6_basePoints : MethodName := ⟨RX6, "basePoints", "(I)I"⟩
abbrev cX6_only : ByteArray := prog_1_method_58_code
def yX6_only : MethodName := ⟨RX6, "only", "(I)J"⟩
abbrev cX6_holds : ByteArray := prog_1_method_59_code
def yX6_holds : MethodName := ⟨RX6, "holds", "(JI)Z"⟩
abbrev cX6_cardsOfSuit : ByteArray := prog_1_method_60_code
def yX6_cardsOfSuit : MethodName := ⟨RX6, "cardsOfSuit", "(JI)J"⟩
abbrev cX6_playableOf : ByteArray := prog_1_method_61_code
def yX6_playableOf : MethodName := ⟨RX6, "playableOf", "(JI)J"⟩
abbrev cX6_lowestOf : ByteArray := prog_1_method_62_code
def yX6_lowestOf : MethodName := ⟨RX6, "lowestOf", "(J)I"⟩
abbrev cX6_thirdsOf : ByteArray := prog_1_method_63_code
def yX6_thirdsOf : MethodName := ⟨RX6, "thirdsOf", "(J)I"⟩
abbrev cX6_packPointsOf : ByteArray := prog_1_method_64_code
def yX6_packPointsOf : MethodName := ⟨RX6, "packPointsOf", "(J)I"⟩
def RX7 : String := "TarockHallModel"
def TX7 : u_T := fun k => match k with
  | _ => ("", "", "", false)
def tyX7 : Nat → FieldType := fun k => match k with
  | _ => .int
abbrev wsX70 : List Cond := u_ws RX7 TX7 0
theorem nmX7 : ∀ a, a < 0 → ∀ b, b < 0 → a ≠ b → (TX7 a).2.1 ≠ (TX7 b).2.1 := by decide +kernel
theorem tyX7_ok : ∀ k, k < 0 → parseFieldDescriptor (TX7 k).2.2.1 = some (tyX7 k) := by decide +kernel
def RJ6 : String := "java/lang/Integer"
def TJ6 : u_T := fun k => match k with
  | _ => ("", "", "", false)
def tyJ6 : Nat → FieldType := fun k => match k with
  | _ => .int
abbrev wsJ60 : List Cond := u_ws RJ6 TJ6 0
theorem nmJ6 : ∀ a, a < 0 → ∀ b, b < 0 → a ≠ b → (TJ6 a).2.1 ≠ (TJ6 b).2.1 := by decide +kernel
theorem tyJ6_ok : ∀ k, k < 0 → parseFieldDescriptor (TJ6 k).2.2.1 = some (tyJ6 k) := by decide +kernel
abbrev cJ6_bitCount_0f7a4 : ByteArray := prog_14_method_49_code
def yJ6_bitCount_0f7a4 : MethodName := ⟨RJ6, "bitCount", "(I)I"⟩
def RJ9 : String := "java/lang/Math"
def TJ9 : u_T := fun k => match k with
  | _ => ("", "", "", false)
def tyJ9 : Nat → FieldType := fun k => match k with
  | _ => .int
abbrev wsJ90 : List Cond := u_ws RJ9 TJ9 0
theorem nmJ9 : ∀ a, a < 0 → ∀ b, b < 0 → a ≠ b → (TJ9 a).2.1 ≠ (TJ9 b).2.1 := by decide +kernel
theorem tyJ9_ok : ∀ k, k < 0 → parseFieldDescriptor (TJ9 k).2.2.1 = some (tyJ9 k) := by decide +kernel
abbrev cJ9_abs_0f7a4 : ByteArray := prog_15_method_59_code
def yJ9_abs_0f7a4 : MethodName := ⟨RJ9, "abs", "(I)I"⟩
abbrev cJ9_max_7cf53 : ByteArray := prog_15_method_65_code
def yJ9_max_7cf53 : MethodName := ⟨RJ9, "max", "(II)I"⟩
def RJ0 : String := "java/lang/String"
def TJ0 : u_T := fun k => match k with
  | _ => ("", "", "", false)
def tyJ0 : Nat → FieldType := fun k => match k with
  | _ => .int
abbrev wsJ00 : List Cond := u_ws RJ0 TJ0 0
theorem nmJ0 : ∀ a, a < 0 → ∀ b, b < 0 → a ≠ b → (TJ0 a).2.1 ≠ (TJ0 b).2.1 := by decide +kernel
theorem tyJ0_ok : ∀ k, k < 0 → parseFieldDescriptor (TJ0 k).2.2.1 = some (tyJ0 k) := by decide +kernel
def RL : String := "TarockHallLaw"
abbrev cL_bids : ByteArray := method_2_code
def yL_bids : MethodName := ⟨RL, "bids", "(LTarockHall;I)I"⟩
abbrev cL_lays : ByteArray := method_3_code
def yL_lays : MethodName := ⟨RL, "lays", "(LTarockHall;I)I"⟩
abbrev cL_announces : ByteArray := method_4_code
def yL_announces : MethodName := ⟨RL, "announces", "(LTarockHall;I)I"⟩
abbrev cL_plays : ByteArray := method_5_code
def yL_plays : MethodName := ⟨RL, "plays", "(LTarockHall;I)I"⟩
abbrev cL_bits : ByteArray := method_6_code
def yL_bits : MethodName := ⟨RL, "bits", "(J)I"⟩
abbrev cL_has : ByteArray := method_7_code
def yL_has : MethodName := ⟨RL, "has", "(JI)Z"⟩
abbrev cL_suit : ByteArray := method_8_code
def yL_suit : MethodName := ⟨RL, "suit", "(I)I"⟩
abbrev cL_areHands : ByteArray := method_9_code
def yL_areHands : MethodName := ⟨RL, "areHands", "(LTarockHall;)Z"⟩
abbrev cL_areSides : ByteArray := method_10_code
def yL_areSides : MethodName := ⟨RL, "areSides", "(LTarockHall;)Z"⟩
abbrev cL_wins : ByteArray := method_11_code
def yL_wins : MethodName := ⟨RL, "wins", "(IIII)I"⟩
abbrev cL_drawn : ByteArray := method_12_code
def yL_drawn : MethodName := ⟨RL, "drawn", "(JI)I"⟩
abbrev cL_isPlayed : ByteArray := method_13_code
def yL_isPlayed : MethodName := ⟨RL, "isPlayed", "(LTarockHall;I)Z"⟩
abbrev cL_isScored : ByteArray := method_14_code
def yL_isScored : MethodName := ⟨RL, "isScored", "(LTarockHall;[I)Z"⟩
abbrev cL_law : ByteArray := code
def yL_law : MethodName := ⟨RL, "law", "([I)Z"⟩
def wsX0_init : List Cond := .code yX0_init cX0_init 1 none :: ([.methodLink RX0 3 objectInit, .instanceMethod objectInit, .code objectInit ⟨#[0xb1]⟩ 1 none, .fieldLink RX0 9 "TarockHall$Bidding" "bidder" "I"] ++ wsX00)
def wsX0_clear : List Cond := .code yX0_clear cX0_clear 1 none :: ([.fieldLink RX0 15 "TarockHall$Bidding" "passed" "I", .fieldLink RX0 18 "TarockHall$Bidding" "highest" "I", .fieldLink RX0 9 "TarockHall$Bidding" "bidder" "I"] ++ wsX00)
def wsX0_enter : List Cond := .code yX0_enter cX0_enter 3 none :: ([.fieldLink RX0 15 "TarockHall$Bidding" "passed" "I", .fieldLink RX0 18 "TarockHall$Bidding" "highest" "I", .fieldLink RX0 9 "TarockHall$Bidding" "bidder" "I"] ++ wsX00)
def wsJ6_bitCount_0f7a4 : List Cond := .code yJ6_bitCount_0f7a4 cJ6_bitCount_0f7a4 1 (some .int) :: ([.constant RJ6 265 (1431655765), .constant RJ6 266 (858993459), .constant RJ6 267 (252645135)])
def wsX0_allPassed : List Cond := .code yX0_allPassed cX0_allPassed 1 (some .boolean) :: ([.fieldLink RX0 15 "TarockHall$Bidding" "passed" "I", .methodLink RX0 21 yJ6_bitCount_0f7a4, .static yJ6_bitCount_0f7a4, .initialized RJ6, .code yJ6_bitCount_0f7a4 cJ6_bitCount_0f7a4 1 (some .int), .constant RJ6 265 (1431655765), .constant RJ6 266 (858993459), .constant RJ6 267 (252645135)] ++ wsX00)
def wsX0_isSettled : List Cond := .code yX0_isSettled cX0_isSettled 1 (some .boolean) :: ([.fieldLink RX0 9 "TarockHall$Bidding" "bidder" "I", .fieldLink RX0 15 "TarockHall$Bidding" "passed" "I", .methodLink RX0 21 yJ6_bitCount_0f7a4, .static yJ6_bitCount_0f7a4, .initialized RJ6, .code yJ6_bitCount_0f7a4 cJ6_bitCount_0f7a4 1 (some .int), .constant RJ6 265 (1431655765), .constant RJ6 266 (858993459), .constant RJ6 267 (252645135)] ++ wsX00)
def wsX6_behind : List Cond := .code yX6_behind cX6_behind 1 (some .int) :: ([])
def wsX0_hasPassed : List Cond := .code yX0_hasPassed cX0_hasPassed 2 (some .boolean) :: ([.fieldLink RX0 15 "TarockHall$Bidding" "passed" "I"] ++ wsX00)
def wsX0_nextBehind : List Cond := .code yX0_nextBehind cX0_nextBehind 4 (some .int) :: ([.static yX6_behind, .initialized RX6, .code yX6_behind cX6_behind 1 (some .int), .methodLink RX0 30 yX0_hasPassed, .instanceMethod yX0_hasPassed, .selects RX0 yX0_hasPassed yX0_hasPassed, .initialized RX0, .code yX0_hasPassed cX0_hasPassed 2 (some .boolean), .fieldLink RX0 15 "TarockHall$Bidding" "passed" "I"] ++ wsX00)
def wsX2_init : List Cond := .code yX2_init cX2_init 2 none :: ([.methodLink RX2 3 objectInit, .instanceMethod objectInit, .code objectInit ⟨#[0xb1]⟩ 1 none, .methodLink RX2 9 Lib.Math.max.name, .static Lib.Math.max.name, .initialized "java/lang/Math", .code Lib.Math.max.name Lib.Math.max.code 2 (some .int), .arrayClass .int, .fieldLink RX2 15 "TarockHall$Row" "items" "[I"] ++ wsX20)
def wsX1_init : List Cond := .code yX1_init cX1_init 1 none :: ([.methodLink RX1 3 objectInit, .instanceMethod objectInit, .code objectInit ⟨#[0xb1]⟩ 1 none, .classLink RX1 9 RX2, .instantiable RX2 1, .initialized RX2, .fieldLink RX1 14 "TarockHall$Deck" "row" "LTarockHall$Row;", .methodLink RX1 11 yX2_init, .instanceMethod yX2_init, .code yX2_init cX2_init 2 none, .methodLink RX2 3 objectInit, .methodLink RX2 9 Lib.Math.max.name, .static Lib.Math.max.name, .initialized "java/lang/Math", .code Lib.Math.max.name Lib.Math.max.code 2 (some .int), .arrayClass .int, .fieldLink RX2 15 "TarockHall$Row" "items" "[I"] ++ wsX20 ++ wsX10)
def wsX2_put : List Cond := .code yX2_put cX2_put 3 none :: ([.fieldLink RX2 15 "TarockHall$Row" "items" "[I"] ++ wsX20)
def wsX2_at : List Cond := .code yX2_at cX2_at 2 (some .int) :: ([.fieldLink RX2 15 "TarockHall$Row" "items" "[I"] ++ wsX20)
def wsX1_swap : List Cond := .code yX1_swap cX1_swap 4 none :: ([.fieldLink RX1 14 "TarockHall$Deck" "row" "LTarockHall$Row;", .methodLink RX1 28 yX2_at, .instanceMethod yX2_at, .selects RX2 yX2_at yX2_at, .initialized RX2, .code yX2_at cX2_at 2 (some .int), .fieldLink RX2 15 "TarockHall$Row" "items" "[I", .methodLink RX1 20 yX2_put, .instanceMethod yX2_put, .selects RX2 yX2_put yX2_put, .code yX2_put cX2_put 3 none] ++ wsX10 ++ wsX20)
def wsX1_shuffle : List Cond := .code yX1_shuffle cX1_shuffle 4 none :: ([.fieldLink RX1 14 "TarockHall$Deck" "row" "LTarockHall$Row;", .constant RX1 24 (65536), .methodLink RX1 20 yX2_put, .instanceMethod yX2_put, .selects RX2 yX2_put yX2_put, .initialized RX2, .code yX2_put cX2_put 3 none, .fieldLink RX2 15 "TarockHall$Row" "items" "[I", .methodLink RX1 25 yX1_swap, .instanceMethod yX1_swap, .selects RX1 yX1_swap yX1_swap, .initialized RX1, .code yX1_swap cX1_swap 4 none, .methodLink RX1 28 yX2_at, .instanceMethod yX2_at, .selects RX2 yX2_at yX2_at, .code yX2_at cX2_at 2 (some .int)] ++ wsX10 ++ wsX20)
def wsX1_cardAt : List Cond := .code yX1_cardAt cX1_cardAt 2 (some .int) :: ([.fieldLink RX1 14 "TarockHall$Deck" "row" "LTarockHall$Row;", .methodLink RX1 28 yX2_at, .instanceMethod yX2_at, .selects RX2 yX2_at yX2_at, .initialized RX2, .code yX2_at cX2_at 2 (some .int), .fieldLink RX2 15 "TarockHall$Row" "items" "[I"] ++ wsX10 ++ wsX20)
def wsX6_only : List Cond := .code yX6_only cX6_only 1 (some .long) :: ([])
def wsX1_cardsFrom : List Cond := .code yX1_cardsFrom cX1_cardsFrom 6 (some .long) :: ([.fieldLink RX1 14 "TarockHall$Deck" "row" "LTarockHall$Row;", .methodLink RX1 28 yX2_at, .instanceMethod yX2_at, .selects RX2 yX2_at yX2_at, .initialized RX2, .code yX2_at cX2_at 2 (some .int), .fieldLink RX2 15 "TarockHall$Row" "items" "[I", .static yX6_only, .initialized RX6, .code yX6_only cX6_only 1 (some .long)] ++ wsX10 ++ wsX20)
def wsX3_init : List Cond := .code yX3_init cX3_init 2 none :: ([.methodLink RX3 1 objectInit, .instanceMethod objectInit, .code objectInit ⟨#[0xb1]⟩ 1 none, .methodLink RX3 7 Lib.Math.max.name, .static Lib.Math.max.name, .initialized "java/lang/Math", .code Lib.Math.max.name Lib.Math.max.code 2 (some .int), .arrayClass .long, .fieldLink RX3 13 "TarockHall$Sets" "items" "[J"] ++ wsX30)
def wsX3_at : List Cond := .code yX3_at cX3_at 2 (some .long) :: ([.fieldLink RX3 13 "TarockHall$Sets" "items" "[J"] ++ wsX30)
def wsX3_put : List Cond := .code yX3_put cX3_put 4 none :: ([.fieldLink RX3 13 "TarockHall$Sets" "items" "[J"] ++ wsX30)
def wsX4_init : List Cond := .code yX4_init cX4_init 1 none :: ([.methodLink RX4 3 objectInit, .instanceMethod objectInit, .code objectInit ⟨#[0xb1]⟩ 1 none, .classLink RX4 9 RX2, .instantiable RX2 1, .initialized RX2, .fieldLink RX4 14 "TarockHall$Sheet" "scores" "LTarockHall$Row;", .fieldLink RX4 20 "TarockHall$Sheet" "radli" "LTarockHall$Row;", .methodLink RX4 11 yX2_init, .instanceMethod yX2_init, .code yX2_init cX2_init 2 none, .methodLink RX2 3 objectInit, .methodLink RX2 9 Lib.Math.max.name, .static Lib.Math.max.name, .initialized "java/lang/Math", .code Lib.Math.max.name Lib.Math.max.code 2 (some .int), .arrayClass .int, .fieldLink RX2 15 "TarockHall$Row" "items" "[I"] ++ wsX20 ++ wsX40)
def wsX4_addScore : List Cond := .code yX4_addScore cX4_addScore 2 none :: ([.fieldLink RX4 14 "TarockHall$Sheet" "scores" "LTarockHall$Row;", .fieldLink RX4 27 "TarockHall$Sheet" "latest" "I", .methodLink RX4 23 yX2_at, .instanceMethod yX2_at, .selects RX2 yX2_at yX2_at, .initialized RX2, .code yX2_at cX2_at 2 (some .int), .fieldLink RX2 15 "TarockHall$Row" "items" "[I", .methodLink RX4 31 yX2_put, .instanceMethod yX2_put, .selects RX2 yX2_put yX2_put, .code yX2_put cX2_put 3 none] ++ wsX40 ++ wsX20)
def wsX4_enter : List Cond := .code yX4_enter cX4_enter 6 none :: ([.fieldLink RX4 20 "TarockHall$Sheet" "radli" "LTarockHall$Row;", .fieldLink RX4 27 "TarockHall$Sheet" "latest" "I", .methodLink RX4 23 yX2_at, .instanceMethod yX2_at, .selects RX2 yX2_at yX2_at, .initialized RX2, .code yX2_at cX2_at 2 (some .int), .fieldLink RX2 15 "TarockHall$Row" "items" "[I", .methodLink RX4 31 yX2_put, .instanceMethod yX2_put, .selects RX2 yX2_put yX2_put, .code yX2_put cX2_put 3 none, .methodLink RX4 35 yX4_addScore, .instanceMethod yX4_addScore, .selects RX4 yX4_addScore yX4_addScore, .initialized RX4, .code yX4_addScore cX4_addScore 2 none, .fieldLink RX4 14 "TarockHall$Sheet" "scores" "LTarockHall$Row;"] ++ wsX40 ++ wsX20)
def wsX4_giveRadli : List Cond := .code yX4_giveRadli cX4_giveRadli 2 none :: ([.fieldLink RX4 20 "TarockHall$Sheet" "radli" "LTarockHall$Row;", .methodLink RX4 23 yX2_at, .instanceMethod yX2_at, .selects RX2 yX2_at yX2_at, .initialized RX2, .code yX2_at cX2_at 2 (some .int), .fieldLink RX2 15 "TarockHall$Row" "items" "[I", .methodLink RX4 31 yX2_put, .instanceMethod yX2_put, .selects RX2 yX2_put yX2_put, .code yX2_put cX2_put 3 none] ++ wsX40 ++ wsX20)
def wsX5_init : List Cond := .code yX5_init cX5_init 1 none :: ([.methodLink RX5 3 objectInit, .instanceMethod objectInit, .code objectInit ⟨#[0xb1]⟩ 1 none, .classLink RX5 9 RX2, .instantiable RX2 1, .initialized RX2, .fieldLink RX5 14 "TarockHall$Trick" "cards" "LTarockHall$Row;", .methodLink RX5 11 yX2_init, .instanceMethod yX2_init, .code yX2_init cX2_init 2 none, .methodLink RX2 3 objectInit, .methodLink RX2 9 Lib.Math.max.name, .static Lib.Math.max.name, .initialized "java/lang/Math", .code Lib.Math.max.name Lib.Math.max.code 2 (some .int), .arrayClass .int, .fieldLink RX2 15 "TarockHall$Row" "items" "[I"] ++ wsX20 ++ wsX50)
def wsX5_begin : List Cond := .code yX5_begin cX5_begin 2 none :: ([.fieldLink RX5 20 "TarockHall$Trick" "leader" "I", .fieldLink RX5 24 "TarockHall$Trick" "size" "I"] ++ wsX50)
def wsX5_add : List Cond := .code yX5_add cX5_add 2 none :: ([.fieldLink RX5 14 "TarockHall$Trick" "cards" "LTarockHall$Row;", .fieldLink RX5 24 "TarockHall$Trick" "size" "I", .methodLink RX5 27 yX2_put, .instanceMethod yX2_put, .selects RX2 yX2_put yX2_put, .initialized RX2, .code yX2_put cX2_put 3 none, .fieldLink RX2 15 "TarockHall$Row" "items" "[I"] ++ wsX50 ++ wsX20)
def wsX5_cardAt : List Cond := .code yX5_cardAt cX5_cardAt 2 (some .int) :: ([.fieldLink RX5 14 "TarockHall$Trick" "cards" "LTarockHall$Row;", .methodLink RX5 31 yX2_at, .instanceMethod yX2_at, .selects RX2 yX2_at yX2_at, .initialized RX2, .code yX2_at cX2_at 2 (some .int), .fieldLink RX2 15 "TarockHall$Row" "items" "[I"] ++ wsX50 ++ wsX20)
def wsX6_suitOf : List Cond := .code yX6_suitOf cX6_suitOf 1 (some .int) :: ([])
def wsX5_ledSuit : List Cond := .code yX5_ledSuit cX5_ledSuit 1 (some .int) :: ([.fieldLink RX5 24 "TarockHall$Trick" "size" "I", .fieldLink RX5 14 "TarockHall$Trick" "cards" "LTarockHall$Row;", .methodLink RX5 31 yX2_at, .instanceMethod yX2_at, .selects RX2 yX2_at yX2_at, .initialized RX2, .code yX2_at cX2_at 2 (some .int), .fieldLink RX2 15 "TarockHall$Row" "items" "[I", .static yX6_suitOf, .initialized RX6, .code yX6_suitOf cX6_suitOf 1 (some .int)] ++ wsX50 ++ wsX20)
def wsX5_cardSet : List Cond := .code yX5_cardSet cX5_cardSet 4 (some .long) :: ([.fieldLink RX5 24 "TarockHall$Trick" "size" "I", .fieldLink RX5 14 "TarockHall$Trick" "cards" "LTarockHall$Row;", .methodLink RX5 31 yX2_at, .instanceMethod yX2_at, .selects RX2 yX2_at yX2_at, .initialized RX2, .code yX2_at cX2_at 2 (some .int), .fieldLink RX2 15 "TarockHall$Row" "items" "[I", .static yX6_only, .initialized RX6, .code yX6_only cX6_only 1 (some .long)] ++ wsX50 ++ wsX20)
def wsX5_playerAt : List Cond := .code yX5_playerAt cX5_playerAt 2 (some .int) :: ([.fieldLink RX5 20 "TarockHall$Trick" "leader" "I"] ++ wsX50)
def wsX5_playerOf : List Cond := .code yX5_playerOf cX5_playerOf 3 (some .int) :: ([.fieldLink RX5 24 "TarockHall$Trick" "size" "I", .fieldLink RX5 14 "TarockHall$Trick" "cards" "LTarockHall$Row;", .methodLink RX5 31 yX2_at, .instanceMethod yX2_at, .selects RX2 yX2_at yX2_at, .initialized RX2, .code yX2_at cX2_at 2 (some .int), .fieldLink RX2 15 "TarockHall$Row" "items" "[I", .methodLink RX5 42 yX5_playerAt, .instanceMethod yX5_playerAt, .selects RX5 yX5_playerAt yX5_playerAt, .initialized RX5, .code yX5_playerAt cX5_playerAt 2 (some .int), .fieldLink RX5 20 "TarockHall$Trick" "leader" "I"] ++ wsX50 ++ wsX20)
def wsX5_beats : List Cond := .code yX5_beats cX5_beats 3 (some .boolean) :: ([.static yX6_suitOf, .initialized RX6, .code yX6_suitOf cX6_suitOf 1 (some .int)])
def wsX5_winner : List Cond := .code yX5_winner cX5_winner 3 (some .int) :: ([.fieldLink RX5 24 "TarockHall$Trick" "size" "I", .fieldLink RX5 14 "TarockHall$Trick" "cards" "LTarockHall$Row;", .methodLink RX5 31 yX2_at, .instanceMethod yX2_at, .selects RX2 yX2_at yX2_at, .initialized RX2, .code yX2_at cX2_at 2 (some .int), .fieldLink RX2 15 "TarockHall$Row" "items" "[I", .methodLink RX5 45 yX5_beats, .static yX5_beats, .initialized RX5, .code yX5_beats cX5_beats 3 (some .boolean), .static yX6_suitOf, .initialized RX6, .code yX6_suitOf cX6_suitOf 1 (some .int), .methodLink RX5 42 yX5_playerAt, .instanceMethod yX5_playerAt, .selects RX5 yX5_playerAt yX5_playerAt, .code yX5_playerAt cX5_playerAt 2 (some .int), .fieldLink RX5 20 "TarockHall$Trick" "leader" "I"] ++ wsX50 ++ wsX20)
def wsX6_init_r1 : List Cond := [Cond.methodLink RX6 3 objectInit, Cond.instanceMethod objectInit, Cond.code objectInit ⟨#[0xb1]⟩ 1 none, Cond.classLink RX6 9 RX1, Cond.instantiable RX1 1, Cond.initialized RX1, Cond.fieldLink RX6 12 "TarockHall" "deck" "LTarockHall$Deck;", Cond.classLink RX6 16 RX0, Cond.instantiable RX0 3, Cond.initialized RX0, Cond.fieldLink RX6 19 "TarockHall" "bidding" "LTarockHall$Bidding;", Cond.classLink RX6 23 RX5, Cond.instantiable RX5 3, Cond.initialized RX5, Cond.fieldLink RX6 26 "TarockHall" "trick" "LTarockHall$Trick;", Cond.classLink RX6 30 RX4, Cond.instantiable RX4 3, Cond.initialized RX4, Cond.fieldLink RX6 33 "TarockHall" "sheet" "LTarockHall$Sheet;", Cond.classLink RX6 37 RX3, Cond.instantiable RX3 1, Cond.initialized RX3, Cond.fieldLink RX6 42 "TarockHall" "hands" "LTarockHall$Sets;", Cond.fieldLink RX6 46 "TarockHall" "piles" "LTarockHall$Sets;"]
def wsX6_init_r2 : List Cond := [Cond.fieldLink RX6 49 "TarockHall" "forehand" "I", Cond.fieldLink RX6 53 "TarockHall" "phase" "I", Cond.fieldLink RX6 56 "TarockHall" "turn" "I", Cond.fieldLink RX6 59 "TarockHall" "declarer" "I", Cond.fieldLink RX6 62 "TarockHall" "called" "I", Cond.fieldLink RX6 65 "TarockHall" "kingOwner" "I", Cond.fieldLink RX6 68 "TarockHall" "partner" "I", Cond.methodLink RX6 11 yX1_init, Cond.instanceMethod yX1_init, Cond.code yX1_init cX1_init 1 none, Cond.methodLink RX1 3 objectInit, Cond.classLink RX1 9 RX2, Cond.instantiable RX2 1, Cond.initialized RX2, Cond.fieldLink RX1 14 "TarockHall$Deck" "row" "LTarockHall$Row;", Cond.methodLink RX1 11 yX2_init, Cond.instanceMethod yX2_init, Cond.code yX2_init cX2_init 2 none, Cond.methodLink RX2 3 objectInit, Cond.methodLink RX2 9 Lib.Math.max.name, Cond.static Lib.Math.max.name, Cond.initialized "java/lang/Math", Cond.code Lib.Math.max.name Lib.Math.max.code 2 (some .int), Cond.arrayClass .int]
def wsX6_init_r3 : List Cond := [Cond.fieldLink RX2 15 "TarockHall$Row" "items" "[I", Cond.methodLink RX6 18 yX0_init, Cond.instanceMethod yX0_init, Cond.code yX0_init cX0_init 1 none, Cond.methodLink RX0 3 objectInit, Cond.fieldLink RX0 9 "TarockHall$Bidding" "bidder" "I", Cond.methodLink RX6 25 yX5_init, Cond.instanceMethod yX5_init, Cond.code yX5_init cX5_init 1 none, Cond.methodLink RX5 3 objectInit, Cond.classLink RX5 9 RX2, Cond.fieldLink RX5 14 "TarockHall$Trick" "cards" "LTarockHall$Row;", Cond.methodLink RX5 11 yX2_init, Cond.methodLink RX6 32 yX4_init, Cond.instanceMethod yX4_init, Cond.code yX4_init cX4_init 1 none, Cond.methodLink RX4 3 objectInit, Cond.classLink RX4 9 RX2, Cond.fieldLink RX4 14 "TarockHall$Sheet" "scores" "LTarockHall$Row;", Cond.fieldLink RX4 20 "TarockHall$Sheet" "radli" "LTarockHall$Row;", Cond.methodLink RX4 11 yX2_init, Cond.methodLink RX6 39 yX3_init, Cond.instanceMethod yX3_init, Cond.code yX3_init cX3_init 2 none]
def wsX6_init_r4 : List Cond := [Cond.methodLink RX3 1 objectInit, Cond.methodLink RX3 7 Lib.Math.max.name, Cond.arrayClass .long, Cond.fieldLink RX3 13 "TarockHall$Sets" "items" "[J"]
def wsX6_init : List Cond := .code yX6_init cX6_init 1 none :: ((wsX6_init_r1 ++ (wsX6_init_r2 ++ (wsX6_init_r3 ++ wsX6_init_r4))) ++ wsX10 ++ wsX60 ++ wsX00 ++ wsX50 ++ wsX40 ++ wsX30 ++ wsX20)
def wsX6_clearDeal_r1 : List Cond := [Cond.fieldLink RX6 19 "TarockHall" "bidding" "LTarockHall$Bidding;", Cond.fieldLink RX6 26 "TarockHall" "trick" "LTarockHall$Trick;", Cond.fieldLink RX6 49 "TarockHall" "forehand" "I", Cond.fieldLink RX6 59 "TarockHall" "declarer" "I", Cond.fieldLink RX6 62 "TarockHall" "called" "I", Cond.fieldLink RX6 65 "TarockHall" "kingOwner" "I", Cond.fieldLink RX6 68 "TarockHall" "partner" "I", Cond.fieldLink RX6 168 "TarockHall" "toLayAway" "I", Cond.fieldLink RX6 191 "TarockHall" "laidAway" "J", Cond.fieldLink RX6 214 "TarockHall" "announced" "I", Cond.fieldLink RX6 199 "TarockHall" "tricks" "I", Cond.fieldLink RX6 46 "TarockHall" "piles" "LTarockHall$Sets;", Cond.methodLink RX6 288 yX0_clear, Cond.instanceMethod yX0_clear, Cond.selects RX0 yX0_clear yX0_clear, Cond.initialized RX0, Cond.code yX0_clear cX0_clear 1 none, Cond.fieldLink RX0 15 "TarockHall$Bidding" "passed" "I", Cond.fieldLink RX0 18 "TarockHall$Bidding" "highest" "I", Cond.fieldLink RX0 9 "TarockHall$Bidding" "bidder" "I", Cond.methodLink RX6 291 yX5_begin, Cond.instanceMethod yX5_begin, Cond.selects RX5 yX5_begin yX5_begin, Cond.initialized RX5]
def wsX6_clearDeal_r2 : List Cond := [Cond.code yX5_begin cX5_begin 2 none, Cond.fieldLink RX5 20 "TarockHall$Trick" "leader" "I", Cond.fieldLink RX5 24 "TarockHall$Trick" "size" "I", Cond.methodLink RX6 158 yX3_put, Cond.instanceMethod yX3_put, Cond.selects RX3 yX3_put yX3_put, Cond.initialized RX3, Cond.code yX3_put cX3_put 4 none, Cond.fieldLink RX3 13 "TarockHall$Sets" "items" "[J"]
def wsX6_clearDeal : List Cond := .code yX6_clearDeal cX6_clearDeal 1 none :: ((wsX6_clearDeal_r1 ++ wsX6_clearDeal_r2) ++ wsX60 ++ wsX00 ++ wsX50 ++ wsX30)
def wsX6_handOut_r1 : List Cond := [Cond.fieldLink RX6 49 "TarockHall" "forehand" "I", Cond.fieldLink RX6 42 "TarockHall" "hands" "LTarockHall$Sets;", Cond.fieldLink RX6 12 "TarockHall" "deck" "LTarockHall$Deck;", Cond.fieldLink RX6 162 "TarockHall" "restOfTalon" "J", Cond.methodLink RX6 150 yX1_cardsFrom, Cond.instanceMethod yX1_cardsFrom, Cond.selects RX1 yX1_cardsFrom yX1_cardsFrom, Cond.initialized RX1, Cond.code yX1_cardsFrom cX1_cardsFrom 6 (some .long), Cond.fieldLink RX1 14 "TarockHall$Deck" "row" "LTarockHall$Row;", Cond.methodLink RX1 28 yX2_at, Cond.instanceMethod yX2_at, Cond.selects RX2 yX2_at yX2_at, Cond.initialized RX2, Cond.code yX2_at cX2_at 2 (some .int), Cond.fieldLink RX2 15 "TarockHall$Row" "items" "[I", Cond.static yX6_only, Cond.initialized RX6, Cond.code yX6_only cX6_only 1 (some .long), Cond.methodLink RX6 158 yX3_put, Cond.instanceMethod yX3_put, Cond.selects RX3 yX3_put yX3_put, Cond.initialized RX3, Cond.code yX3_put cX3_put 4 none]
def wsX6_handOut_r2 : List Cond := [Cond.fieldLink RX3 13 "TarockHall$Sets" "items" "[J", Cond.methodLink RX6 84 yX6_behind, Cond.static yX6_behind, Cond.code yX6_behind cX6_behind 1 (some .int)]
def wsX6_handOut : List Cond := .code yX6_handOut cX6_handOut 3 none :: ((wsX6_handOut_r1 ++ wsX6_handOut_r2) ++ wsX60 ++ wsX10 ++ wsX20 ++ wsX30)
def wsX6_deal_r1 : List Cond := [Cond.classLink RX6 72 "java/lang/IllegalArgumentException", Cond.initialized "java/lang/IllegalArgumentException", Cond.classLink RX6 79 "java/lang/IllegalStateException", Cond.initialized "java/lang/IllegalStateException", Cond.constant RX6 71 (65536), Cond.fieldLink RX6 53 "TarockHall" "phase" "I", Cond.fieldLink RX6 49 "TarockHall" "forehand" "I", Cond.fieldLink RX6 12 "TarockHall" "deck" "LTarockHall$Deck;", Cond.fieldLink RX6 56 "TarockHall" "turn" "I", Cond.methodLink RX6 84 yX6_behind, Cond.static yX6_behind, Cond.initialized RX6, Cond.code yX6_behind cX6_behind 1 (some .int), Cond.methodLink RX6 88 yX6_clearDeal, Cond.instanceMethod yX6_clearDeal, Cond.selects RX6 yX6_clearDeal yX6_clearDeal, Cond.code yX6_clearDeal cX6_clearDeal 1 none, Cond.fieldLink RX6 19 "TarockHall" "bidding" "LTarockHall$Bidding;", Cond.fieldLink RX6 26 "TarockHall" "trick" "LTarockHall$Trick;", Cond.fieldLink RX6 59 "TarockHall" "declarer" "I", Cond.fieldLink RX6 62 "TarockHall" "called" "I", Cond.fieldLink RX6 65 "TarockHall" "kingOwner" "I", Cond.fieldLink RX6 68 "TarockHall" "partner" "I", Cond.fieldLink RX6 168 "TarockHall" "toLayAway" "I"]
def wsX6_deal_r2 : List Cond := [Cond.fieldLink RX6 191 "TarockHall" "laidAway" "J", Cond.fieldLink RX6 214 "TarockHall" "announced" "I", Cond.fieldLink RX6 199 "TarockHall" "tricks" "I", Cond.fieldLink RX6 46 "TarockHall" "piles" "LTarockHall$Sets;", Cond.methodLink RX6 288 yX0_clear, Cond.instanceMethod yX0_clear, Cond.selects RX0 yX0_clear yX0_clear, Cond.initialized RX0, Cond.code yX0_clear cX0_clear 1 none, Cond.fieldLink RX0 15 "TarockHall$Bidding" "passed" "I", Cond.fieldLink RX0 18 "TarockHall$Bidding" "highest" "I", Cond.fieldLink RX0 9 "TarockHall$Bidding" "bidder" "I", Cond.methodLink RX6 291 yX5_begin, Cond.instanceMethod yX5_begin, Cond.selects RX5 yX5_begin yX5_begin, Cond.initialized RX5, Cond.code yX5_begin cX5_begin 2 none, Cond.fieldLink RX5 20 "TarockHall$Trick" "leader" "I", Cond.fieldLink RX5 24 "TarockHall$Trick" "size" "I", Cond.methodLink RX6 158 yX3_put, Cond.instanceMethod yX3_put, Cond.selects RX3 yX3_put yX3_put, Cond.initialized RX3, Cond.code yX3_put cX3_put 4 none]
def wsX6_deal_r3 : List Cond := [Cond.fieldLink RX3 13 "TarockHall$Sets" "items" "[J", Cond.methodLink RX6 91 yX1_shuffle, Cond.instanceMethod yX1_shuffle, Cond.selects RX1 yX1_shuffle yX1_shuffle, Cond.initialized RX1, Cond.code yX1_shuffle cX1_shuffle 4 none, Cond.fieldLink RX1 14 "TarockHall$Deck" "row" "LTarockHall$Row;", Cond.constant RX1 24 (65536), Cond.methodLink RX1 20 yX2_put, Cond.instanceMethod yX2_put, Cond.selects RX2 yX2_put yX2_put, Cond.initialized RX2, Cond.code yX2_put cX2_put 3 none, Cond.fieldLink RX2 15 "TarockHall$Row" "items" "[I", Cond.methodLink RX1 25 yX1_swap, Cond.instanceMethod yX1_swap, Cond.selects RX1 yX1_swap yX1_swap, Cond.code yX1_swap cX1_swap 4 none, Cond.methodLink RX1 28 yX2_at, Cond.instanceMethod yX2_at, Cond.selects RX2 yX2_at yX2_at, Cond.code yX2_at cX2_at 2 (some .int), Cond.methodLink RX6 94 yX6_handOut, Cond.instanceMethod yX6_handOut]
def wsX6_deal_r4 : List Cond := [Cond.selects RX6 yX6_handOut yX6_handOut, Cond.code yX6_handOut cX6_handOut 3 none, Cond.fieldLink RX6 42 "TarockHall" "hands" "LTarockHall$Sets;", Cond.fieldLink RX6 162 "TarockHall" "restOfTalon" "J", Cond.methodLink RX6 150 yX1_cardsFrom, Cond.instanceMethod yX1_cardsFrom, Cond.selects RX1 yX1_cardsFrom yX1_cardsFrom, Cond.code yX1_cardsFrom cX1_cardsFrom 6 (some .long), Cond.static yX6_only, Cond.code yX6_only cX6_only 1 (some .long)]
def wsX6_deal : List Cond := .code yX6_deal cX6_deal 2 (some .int) :: ((wsX6_deal_r1 ++ (wsX6_deal_r2 ++ (wsX6_deal_r3 ++ wsX6_deal_r4))) ++ wsX60 ++ wsX00 ++ wsX50 ++ wsX30 ++ wsX10 ++ wsX20 ++ (vx_atS RX6 76 "java/lang/IllegalArgumentException" ["java/lang/RuntimeException", "java/lang/Exception"]).filter goodWord ++ (vx_atS RX6 83 "java/lang/IllegalStateException" ["java/lang/RuntimeException", "java/lang/Exception"]).filter goodWord)
def wsX6_endDeal : List Cond := .code yX6_endDeal cX6_endDeal 1 none :: ([.fieldLink RX6 53 "TarockHall" "phase" "I", .fieldLink RX6 56 "TarockHall" "turn" "I"] ++ wsX60)
def wsX6_beginPlay : List Cond := .code yX6_beginPlay cX6_beginPlay 1 none :: ([.fieldLink RX6 46 "TarockHall" "piles" "LTarockHall$Sets;", .fieldLink RX6 191 "TarockHall" "laidAway" "J", .fieldLink RX6 162 "TarockHall" "restOfTalon" "J", .fieldLink RX6 53 "TarockHall" "phase" "I", .fieldLink RX6 49 "TarockHall" "forehand" "I", .fieldLink RX6 56 "TarockHall" "turn" "I", .methodLink RX6 158 yX3_put, .instanceMethod yX3_put, .selects RX3 yX3_put yX3_put, .initialized RX3, .code yX3_put cX3_put 4 none, .fieldLink RX3 13 "TarockHall$Sets" "items" "[J"] ++ wsX60 ++ wsX30)
def wsX6_beginGame : List Cond := .code yX6_beginGame cX6_beginGame 1 none :: ([.fieldLink RX6 19 "TarockHall" "bidding" "LTarockHall$Bidding;", .fieldLink RX6 59 "TarockHall" "declarer" "I", .fieldLink RX6 56 "TarockHall" "turn" "I", .fieldLink RX6 53 "TarockHall" "phase" "I", .methodLink RX6 194 yX6_beginPlay, .instanceMethod yX6_beginPlay, .selects RX6 yX6_beginPlay yX6_beginPlay, .initialized RX6, .code yX6_beginPlay cX6_beginPlay 1 none, .fieldLink RX6 46 "TarockHall" "piles" "LTarockHall$Sets;", .fieldLink RX6 191 "TarockHall" "laidAway" "J", .fieldLink RX6 162 "TarockHall" "restOfTalon" "J", .fieldLink RX6 49 "TarockHall" "forehand" "I", .methodLink RX6 158 yX3_put, .instanceMethod yX3_put, .selects RX3 yX3_put yX3_put, .initialized RX3, .code yX3_put cX3_put 4 none, .fieldLink RX3 13 "TarockHall$Sets" "items" "[J"] ++ wsX60 ++ wsX00 ++ wsX30)
def wsX6_bid_r1 : List Cond := [Cond.classLink RX6 72 "java/lang/IllegalArgumentException", Cond.initialized "java/lang/IllegalArgumentException", Cond.classLink RX6 79 "java/lang/IllegalStateException", Cond.initialized "java/lang/IllegalStateException", Cond.fieldLink RX6 53 "TarockHall" "phase" "I", Cond.fieldLink RX6 19 "TarockHall" "bidding" "LTarockHall$Bidding;", Cond.fieldLink RX6 56 "TarockHall" "turn" "I", Cond.methodLink RX6 106 yX0_enter, Cond.instanceMethod yX0_enter, Cond.selects RX0 yX0_enter yX0_enter, Cond.initialized RX0, Cond.code yX0_enter cX0_enter 3 none, Cond.fieldLink RX0 15 "TarockHall$Bidding" "passed" "I", Cond.fieldLink RX0 18 "TarockHall$Bidding" "highest" "I", Cond.fieldLink RX0 9 "TarockHall$Bidding" "bidder" "I", Cond.methodLink RX6 110 yX0_allPassed, Cond.instanceMethod yX0_allPassed, Cond.selects RX0 yX0_allPassed yX0_allPassed, Cond.code yX0_allPassed cX0_allPassed 1 (some .boolean), Cond.methodLink RX0 21 yJ6_bitCount_0f7a4, Cond.static yJ6_bitCount_0f7a4, Cond.initialized RJ6, Cond.code yJ6_bitCount_0f7a4 cJ6_bitCount_0f7a4 1 (some .int), Cond.constant RJ6 265 (1431655765)]
def wsX6_bid_r2 : List Cond := [Cond.constant RJ6 266 (858993459), Cond.constant RJ6 267 (252645135), Cond.methodLink RX6 114 yX6_endDeal, Cond.instanceMethod yX6_endDeal, Cond.selects RX6 yX6_endDeal yX6_endDeal, Cond.initialized RX6, Cond.code yX6_endDeal cX6_endDeal 1 none, Cond.methodLink RX6 117 yX0_isSettled, Cond.instanceMethod yX0_isSettled, Cond.selects RX0 yX0_isSettled yX0_isSettled, Cond.code yX0_isSettled cX0_isSettled 1 (some .boolean), Cond.methodLink RX6 120 yX6_beginGame, Cond.instanceMethod yX6_beginGame, Cond.selects RX6 yX6_beginGame yX6_beginGame, Cond.code yX6_beginGame cX6_beginGame 1 none, Cond.fieldLink RX6 59 "TarockHall" "declarer" "I", Cond.methodLink RX6 194 yX6_beginPlay, Cond.instanceMethod yX6_beginPlay, Cond.selects RX6 yX6_beginPlay yX6_beginPlay, Cond.code yX6_beginPlay cX6_beginPlay 1 none, Cond.fieldLink RX6 46 "TarockHall" "piles" "LTarockHall$Sets;", Cond.fieldLink RX6 191 "TarockHall" "laidAway" "J", Cond.fieldLink RX6 162 "TarockHall" "restOfTalon" "J", Cond.fieldLink RX6 49 "TarockHall" "forehand" "I"]
def wsX6_bid_r3 : List Cond := [Cond.methodLink RX6 158 yX3_put, Cond.instanceMethod yX3_put, Cond.selects RX3 yX3_put yX3_put, Cond.initialized RX3, Cond.code yX3_put cX3_put 4 none, Cond.fieldLink RX3 13 "TarockHall$Sets" "items" "[J", Cond.methodLink RX6 123 yX0_nextBehind, Cond.instanceMethod yX0_nextBehind, Cond.selects RX0 yX0_nextBehind yX0_nextBehind, Cond.code yX0_nextBehind cX0_nextBehind 4 (some .int), Cond.static yX6_behind, Cond.code yX6_behind cX6_behind 1 (some .int), Cond.methodLink RX0 30 yX0_hasPassed, Cond.instanceMethod yX0_hasPassed, Cond.selects RX0 yX0_hasPassed yX0_hasPassed, Cond.code yX0_hasPassed cX0_hasPassed 2 (some .boolean)]
def wsX6_bid : List Cond := .code yX6_bid cX6_bid 2 (some .int) :: ((wsX6_bid_r1 ++ (wsX6_bid_r2 ++ wsX6_bid_r3)) ++ wsX60 ++ wsX00 ++ wsX30 ++ (vx_atS RX6 76 "java/lang/IllegalArgumentException" ["java/lang/RuntimeException", "java/lang/Exception"]).filter goodWord ++ (vx_atS RX6 83 "java/lang/IllegalStateException" ["java/lang/RuntimeException", "java/lang/Exception"]).filter goodWord)
def wsX6_calledKing : List Cond := .code yX6_calledKing cX6_calledKing 1 (some .int) :: ([.fieldLink RX6 62 "TarockHall" "called" "I"] ++ wsX60)
def wsX6_holds : List Cond := .code yX6_holds cX6_holds 3 (some .boolean) :: ([])
def wsX6_ownerOf : List Cond := .code yX6_ownerOf cX6_ownerOf 3 (some .int) :: ([.fieldLink RX6 42 "TarockHall" "hands" "LTarockHall$Sets;", .methodLink RX6 154 yX3_at, .instanceMethod yX3_at, .selects RX3 yX3_at yX3_at, .initialized RX3, .code yX3_at cX3_at 2 (some .long), .fieldLink RX3 13 "TarockHall$Sets" "items" "[J", .methodLink RX6 179 yX6_holds, .static yX6_holds, .initialized RX6, .code yX6_holds cX6_holds 3 (some .boolean)] ++ wsX60 ++ wsX30)
def wsX6_call_r1 : List Cond := [Cond.classLink RX6 126 "java/lang/IndexOutOfBoundsException", Cond.initialized "java/lang/IndexOutOfBoundsException", Cond.classLink RX6 79 "java/lang/IllegalStateException", Cond.initialized "java/lang/IllegalStateException", Cond.fieldLink RX6 53 "TarockHall" "phase" "I", Cond.fieldLink RX6 62 "TarockHall" "called" "I", Cond.fieldLink RX6 65 "TarockHall" "kingOwner" "I", Cond.fieldLink RX6 59 "TarockHall" "declarer" "I", Cond.fieldLink RX6 68 "TarockHall" "partner" "I", Cond.methodLink RX6 133 yX6_calledKing, Cond.instanceMethod yX6_calledKing, Cond.selects RX6 yX6_calledKing yX6_calledKing, Cond.initialized RX6, Cond.code yX6_calledKing cX6_calledKing 1 (some .int), Cond.methodLink RX6 137 yX6_ownerOf, Cond.instanceMethod yX6_ownerOf, Cond.selects RX6 yX6_ownerOf yX6_ownerOf, Cond.code yX6_ownerOf cX6_ownerOf 3 (some .int), Cond.fieldLink RX6 42 "TarockHall" "hands" "LTarockHall$Sets;", Cond.methodLink RX6 154 yX3_at, Cond.instanceMethod yX3_at, Cond.selects RX3 yX3_at yX3_at, Cond.initialized RX3, Cond.code yX3_at cX3_at 2 (some .long)]
def wsX6_call_r2 : List Cond := [Cond.fieldLink RX3 13 "TarockHall$Sets" "items" "[J", Cond.methodLink RX6 179 yX6_holds, Cond.static yX6_holds, Cond.code yX6_holds cX6_holds 3 (some .boolean)]
def wsX6_call : List Cond := .code yX6_call cX6_call 2 (some .int) :: ((wsX6_call_r1 ++ wsX6_call_r2) ++ wsX60 ++ wsX30 ++ (vx_atS RX6 130 "java/lang/IndexOutOfBoundsException" ["java/lang/RuntimeException", "java/lang/Exception"]).filter goodWord ++ (vx_atS RX6 83 "java/lang/IllegalStateException" ["java/lang/RuntimeException", "java/lang/Exception"]).filter goodWord)
def wsX6_groupsAt : List Cond := .code yX6_groupsAt cX6_groupsAt 1 (some .int) :: ([])
def wsX6_groupsNow : List Cond := .code yX6_groupsNow cX6_groupsNow 1 (some .int) :: ([.fieldLink RX6 53 "TarockHall" "phase" "I", .fieldLink RX6 19 "TarockHall" "bidding" "LTarockHall$Bidding;", .methodLink RX6 334 yX6_groupsAt, .static yX6_groupsAt, .initialized RX6, .code yX6_groupsAt cX6_groupsAt 1 (some .int)] ++ wsX60 ++ wsX00)
def wsX6_groupSize : List Cond := .code yX6_groupSize cX6_groupSize 1 (some .int) :: ([])
def wsX6_take_r1 : List Cond := [Cond.classLink RX6 126 "java/lang/IndexOutOfBoundsException", Cond.initialized "java/lang/IndexOutOfBoundsException", Cond.classLink RX6 79 "java/lang/IllegalStateException", Cond.initialized "java/lang/IllegalStateException", Cond.fieldLink RX6 53 "TarockHall" "phase" "I", Cond.fieldLink RX6 19 "TarockHall" "bidding" "LTarockHall$Bidding;", Cond.fieldLink RX6 12 "TarockHall" "deck" "LTarockHall$Deck;", Cond.fieldLink RX6 42 "TarockHall" "hands" "LTarockHall$Sets;", Cond.fieldLink RX6 59 "TarockHall" "declarer" "I", Cond.fieldLink RX6 162 "TarockHall" "restOfTalon" "J", Cond.constantLong RX6 166 (-1), Cond.fieldLink RX6 168 "TarockHall" "toLayAway" "I", Cond.methodLink RX6 140 yX6_groupsNow, Cond.instanceMethod yX6_groupsNow, Cond.selects RX6 yX6_groupsNow yX6_groupsNow, Cond.initialized RX6, Cond.code yX6_groupsNow cX6_groupsNow 1 (some .int), Cond.methodLink RX6 334 yX6_groupsAt, Cond.static yX6_groupsAt, Cond.code yX6_groupsAt cX6_groupsAt 1 (some .int), Cond.methodLink RX6 147 yX6_groupSize, Cond.static yX6_groupSize, Cond.code yX6_groupSize cX6_groupSize 1 (some .int), Cond.methodLink RX6 150 yX1_cardsFrom]
def wsX6_take_r2 : List Cond := [Cond.instanceMethod yX1_cardsFrom, Cond.selects RX1 yX1_cardsFrom yX1_cardsFrom, Cond.initialized RX1, Cond.code yX1_cardsFrom cX1_cardsFrom 6 (some .long), Cond.fieldLink RX1 14 "TarockHall$Deck" "row" "LTarockHall$Row;", Cond.methodLink RX1 28 yX2_at, Cond.instanceMethod yX2_at, Cond.selects RX2 yX2_at yX2_at, Cond.initialized RX2, Cond.code yX2_at cX2_at 2 (some .int), Cond.fieldLink RX2 15 "TarockHall$Row" "items" "[I", Cond.static yX6_only, Cond.code yX6_only cX6_only 1 (some .long), Cond.methodLink RX6 154 yX3_at, Cond.instanceMethod yX3_at, Cond.selects RX3 yX3_at yX3_at, Cond.initialized RX3, Cond.code yX3_at cX3_at 2 (some .long), Cond.fieldLink RX3 13 "TarockHall$Sets" "items" "[J", Cond.methodLink RX6 158 yX3_put, Cond.instanceMethod yX3_put, Cond.selects RX3 yX3_put yX3_put, Cond.code yX3_put cX3_put 4 none]
def wsX6_take : List Cond := .code yX6_take cX6_take 5 (some .int) :: ((wsX6_take_r1 ++ wsX6_take_r2) ++ wsX60 ++ wsX00 ++ wsX10 ++ wsX20 ++ wsX30 ++ (vx_atS RX6 130 "java/lang/IndexOutOfBoundsException" ["java/lang/RuntimeException", "java/lang/Exception"]).filter goodWord ++ (vx_atS RX6 83 "java/lang/IllegalStateException" ["java/lang/RuntimeException", "java/lang/Exception"]).filter goodWord)
def wsX6_isCard : List Cond := .code yX6_isCard cX6_isCard 1 (some .boolean) :: ([])
def wsX6_worth : List Cond := .code yX6_worth cX6_worth 2 (some .int) :: ([.methodLink RX6 344 yX6_suitOf, .static yX6_suitOf, .initialized RX6, .code yX6_suitOf cX6_suitOf 1 (some .int)])
def wsX6_canBeLaidAway : List Cond := .code yX6_canBeLaidAway cX6_canBeLaidAway 1 (some .boolean) :: ([.methodLink RX6 254 yX6_worth, .static yX6_worth, .initialized RX6, .code yX6_worth cX6_worth 2 (some .int), .methodLink RX6 344 yX6_suitOf, .static yX6_suitOf, .code yX6_suitOf cX6_suitOf 1 (some .int)])
def wsX6_discard_r1 : List Cond := [Cond.classLink RX6 126 "java/lang/IndexOutOfBoundsException", Cond.initialized "java/lang/IndexOutOfBoundsException", Cond.classLink RX6 79 "java/lang/IllegalStateException", Cond.initialized "java/lang/IllegalStateException", Cond.fieldLink RX6 53 "TarockHall" "phase" "I", Cond.fieldLink RX6 42 "TarockHall" "hands" "LTarockHall$Sets;", Cond.fieldLink RX6 59 "TarockHall" "declarer" "I", Cond.constantLong RX6 166 (-1), Cond.fieldLink RX6 191 "TarockHall" "laidAway" "J", Cond.fieldLink RX6 168 "TarockHall" "toLayAway" "I", Cond.methodLink RX6 171 yX6_isCard, Cond.static yX6_isCard, Cond.initialized RX6, Cond.code yX6_isCard cX6_isCard 1 (some .boolean), Cond.methodLink RX6 154 yX3_at, Cond.instanceMethod yX3_at, Cond.selects RX3 yX3_at yX3_at, Cond.initialized RX3, Cond.code yX3_at cX3_at 2 (some .long), Cond.fieldLink RX3 13 "TarockHall$Sets" "items" "[J", Cond.methodLink RX6 179 yX6_holds, Cond.static yX6_holds, Cond.code yX6_holds cX6_holds 3 (some .boolean), Cond.methodLink RX6 183 yX6_canBeLaidAway]
def wsX6_discard_r2 : List Cond := [Cond.static yX6_canBeLaidAway, Cond.code yX6_canBeLaidAway cX6_canBeLaidAway 1 (some .boolean), Cond.methodLink RX6 254 yX6_worth, Cond.static yX6_worth, Cond.code yX6_worth cX6_worth 2 (some .int), Cond.methodLink RX6 344 yX6_suitOf, Cond.static yX6_suitOf, Cond.code yX6_suitOf cX6_suitOf 1 (some .int), Cond.methodLink RX6 188 yX6_only, Cond.static yX6_only, Cond.code yX6_only cX6_only 1 (some .long), Cond.methodLink RX6 158 yX3_put, Cond.instanceMethod yX3_put, Cond.selects RX3 yX3_put yX3_put, Cond.code yX3_put cX3_put 4 none, Cond.methodLink RX6 194 yX6_beginPlay, Cond.instanceMethod yX6_beginPlay, Cond.selects RX6 yX6_beginPlay yX6_beginPlay, Cond.code yX6_beginPlay cX6_beginPlay 1 none, Cond.fieldLink RX6 46 "TarockHall" "piles" "LTarockHall$Sets;", Cond.fieldLink RX6 162 "TarockHall" "restOfTalon" "J", Cond.fieldLink RX6 49 "TarockHall" "forehand" "I", Cond.fieldLink RX6 56 "TarockHall" "turn" "I"]
def wsX6_discard : List Cond := .code yX6_discard cX6_discard 4 (some .int) :: ((wsX6_discard_r1 ++ wsX6_discard_r2) ++ wsX60 ++ wsX30 ++ (vx_atS RX6 130 "java/lang/IndexOutOfBoundsException" ["java/lang/RuntimeException", "java/lang/Exception"]).filter goodWord ++ (vx_atS RX6 83 "java/lang/IllegalStateException" ["java/lang/RuntimeException", "java/lang/Exception"]).filter goodWord)
def wsX6_isAnnounced : List Cond := .code yX6_isAnnounced cX6_isAnnounced 2 (some .boolean) :: ([.fieldLink RX6 214 "TarockHall" "announced" "I"] ++ wsX60)
def wsX6_announce : List Cond := .code yX6_announce cX6_announce 2 (some .int) :: ([.classLink RX6 126 "java/lang/IndexOutOfBoundsException", .initialized "java/lang/IndexOutOfBoundsException", .classLink RX6 79 "java/lang/IllegalStateException", .initialized "java/lang/IllegalStateException", .fieldLink RX6 53 "TarockHall" "phase" "I", .fieldLink RX6 199 "TarockHall" "tricks" "I", .fieldLink RX6 26 "TarockHall" "trick" "LTarockHall$Trick;", .fieldLink RX6 19 "TarockHall" "bidding" "LTarockHall$Bidding;", .fieldLink RX6 214 "TarockHall" "announced" "I", .methodLink RX6 207 yX6_isAnnounced, .instanceMethod yX6_isAnnounced, .selects RX6 yX6_isAnnounced yX6_isAnnounced, .initialized RX6, .code yX6_isAnnounced cX6_isAnnounced 2 (some .boolean), .methodLink RX6 217 yJ6_bitCount_0f7a4, .static yJ6_bitCount_0f7a4, .initialized RJ6, .code yJ6_bitCount_0f7a4 cJ6_bitCount_0f7a4 1 (some .int), .constant RJ6 265 (1431655765), .constant RJ6 266 (858993459), .constant RJ6 267 (252645135)] ++ wsX60 ++ wsX50 ++ wsX00 ++ (vx_atS RX6 130 "java/lang/IndexOutOfBoundsException" ["java/lang/RuntimeException", "java/lang/Exception"]).filter goodWord ++ (vx_atS RX6 83 "java/lang/IllegalStateException" ["java/lang/RuntimeException", "java/lang/Exception"]).filter goodWord)
def wsX6_cardsOfSuit : List Cond := .code yX6_cardsOfSuit cX6_cardsOfSuit 5 (some .long) :: ([.constantLong RX6 355 (-4294967296), .constantLong RX6 357 (255)])
def wsX6_playableOf : List Cond := .code yX6_playableOf cX6_playableOf 7 (some .long) :: ([.methodLink RX6 359 yX6_cardsOfSuit, .static yX6_cardsOfSuit, .initialized RX6, .code yX6_cardsOfSuit cX6_cardsOfSuit 5 (some .long), .constantLong RX6 355 (-4294967296), .constantLong RX6 357 (255)])
def wsX6_playableNow_r1 : List Cond := [Cond.fieldLink RX6 53 "TarockHall" "phase" "I", Cond.fieldLink RX6 42 "TarockHall" "hands" "LTarockHall$Sets;", Cond.fieldLink RX6 56 "TarockHall" "turn" "I", Cond.fieldLink RX6 26 "TarockHall" "trick" "LTarockHall$Trick;", Cond.methodLink RX6 154 yX3_at, Cond.instanceMethod yX3_at, Cond.selects RX3 yX3_at yX3_at, Cond.initialized RX3, Cond.code yX3_at cX3_at 2 (some .long), Cond.fieldLink RX3 13 "TarockHall$Sets" "items" "[J", Cond.methodLink RX6 337 yX5_ledSuit, Cond.instanceMethod yX5_ledSuit, Cond.selects RX5 yX5_ledSuit yX5_ledSuit, Cond.initialized RX5, Cond.code yX5_ledSuit cX5_ledSuit 1 (some .int), Cond.fieldLink RX5 24 "TarockHall$Trick" "size" "I", Cond.fieldLink RX5 14 "TarockHall$Trick" "cards" "LTarockHall$Row;", Cond.methodLink RX5 31 yX2_at, Cond.instanceMethod yX2_at, Cond.selects RX2 yX2_at yX2_at, Cond.initialized RX2, Cond.code yX2_at cX2_at 2 (some .int), Cond.fieldLink RX2 15 "TarockHall$Row" "items" "[I", Cond.static yX6_suitOf]
def wsX6_playableNow_r2 : List Cond := [Cond.initialized RX6, Cond.code yX6_suitOf cX6_suitOf 1 (some .int), Cond.methodLink RX6 340 yX6_playableOf, Cond.static yX6_playableOf, Cond.code yX6_playableOf cX6_playableOf 7 (some .long), Cond.methodLink RX6 359 yX6_cardsOfSuit, Cond.static yX6_cardsOfSuit, Cond.code yX6_cardsOfSuit cX6_cardsOfSuit 5 (some .long), Cond.constantLong RX6 355 (-4294967296), Cond.constantLong RX6 357 (255)]
def wsX6_playableNow : List Cond := .code yX6_playableNow cX6_playableNow 1 (some .long) :: ((wsX6_playableNow_r1 ++ wsX6_playableNow_r2) ++ wsX60 ++ wsX30 ++ wsX50 ++ wsX20)
def wsX6_sideOf : List Cond := .code yX6_sideOf cX6_sideOf 2 (some .int) :: ([.fieldLink RX6 59 "TarockHall" "declarer" "I", .fieldLink RX6 68 "TarockHall" "partner" "I"] ++ wsX60)
def wsX6_thirdsOf : List Cond := .code yX6_thirdsOf cX6_thirdsOf 4 (some .int) :: ([.methodLink RX6 179 yX6_holds, .static yX6_holds, .initialized RX6, .code yX6_holds cX6_holds 3 (some .boolean), .methodLink RX6 254 yX6_worth, .static yX6_worth, .code yX6_worth cX6_worth 2 (some .int), .methodLink RX6 344 yX6_suitOf, .static yX6_suitOf, .code yX6_suitOf cX6_suitOf 1 (some .int)])
def wsX6_basePoints : List Cond := .code yX6_basePoints cX6_basePoints 1 (some .int) :: ([])
def wsX6_isWon : List Cond := .code yX6_isWon cX6_isWon 1 (some .boolean) :: ([])
def wsX6_gamePoints : List Cond := .code yX6_gamePoints cX6_gamePoints 3 (some .int) :: ([.methodLink RX6 350 Lib.Math.abs.name, .static Lib.Math.abs.name, .initialized "java/lang/Math", .code Lib.Math.abs.name Lib.Math.abs.code 1 (some .int), .methodLink RX6 347 yX6_basePoints, .static yX6_basePoints, .initialized RX6, .code yX6_basePoints cX6_basePoints 1 (some .int), .methodLink RX6 322 yX6_isWon, .static yX6_isWon, .code yX6_isWon cX6_isWon 1 (some .boolean)])
def wsX6_pagatPoints_r1 : List Cond := [Cond.fieldLink RX6 26 "TarockHall" "trick" "LTarockHall$Trick;", Cond.methodLink RX6 331 yX5_playerOf, Cond.instanceMethod yX5_playerOf, Cond.selects RX5 yX5_playerOf yX5_playerOf, Cond.initialized RX5, Cond.code yX5_playerOf cX5_playerOf 3 (some .int), Cond.fieldLink RX5 24 "TarockHall$Trick" "size" "I", Cond.fieldLink RX5 14 "TarockHall$Trick" "cards" "LTarockHall$Row;", Cond.methodLink RX5 31 yX2_at, Cond.instanceMethod yX2_at, Cond.selects RX2 yX2_at yX2_at, Cond.initialized RX2, Cond.code yX2_at cX2_at 2 (some .int), Cond.fieldLink RX2 15 "TarockHall$Row" "items" "[I", Cond.methodLink RX5 42 yX5_playerAt, Cond.instanceMethod yX5_playerAt, Cond.selects RX5 yX5_playerAt yX5_playerAt, Cond.code yX5_playerAt cX5_playerAt 2 (some .int), Cond.fieldLink RX5 20 "TarockHall$Trick" "leader" "I", Cond.methodLink RX6 285 yX6_sideOf, Cond.instanceMethod yX6_sideOf, Cond.selects RX6 yX6_sideOf yX6_sideOf, Cond.initialized RX6, Cond.code yX6_sideOf cX6_sideOf 2 (some .int)]
def wsX6_pagatPoints_r2 : List Cond := [Cond.fieldLink RX6 59 "TarockHall" "declarer" "I", Cond.fieldLink RX6 68 "TarockHall" "partner" "I", Cond.methodLink RX6 207 yX6_isAnnounced, Cond.instanceMethod yX6_isAnnounced, Cond.selects RX6 yX6_isAnnounced yX6_isAnnounced, Cond.code yX6_isAnnounced cX6_isAnnounced 2 (some .boolean), Cond.fieldLink RX6 214 "TarockHall" "announced" "I"]
def wsX6_pagatPoints : List Cond := .code yX6_pagatPoints cX6_pagatPoints 5 (some .int) :: ((wsX6_pagatPoints_r1 ++ wsX6_pagatPoints_r2) ++ wsX60 ++ wsX50 ++ wsX20)
def wsX6_kingPoints_r1 : List Cond := [Cond.fieldLink RX6 62 "TarockHall" "called" "I", Cond.fieldLink RX6 26 "TarockHall" "trick" "LTarockHall$Trick;", Cond.methodLink RX6 133 yX6_calledKing, Cond.instanceMethod yX6_calledKing, Cond.selects RX6 yX6_calledKing yX6_calledKing, Cond.initialized RX6, Cond.code yX6_calledKing cX6_calledKing 1 (some .int), Cond.methodLink RX6 331 yX5_playerOf, Cond.instanceMethod yX5_playerOf, Cond.selects RX5 yX5_playerOf yX5_playerOf, Cond.initialized RX5, Cond.code yX5_playerOf cX5_playerOf 3 (some .int), Cond.fieldLink RX5 24 "TarockHall$Trick" "size" "I", Cond.fieldLink RX5 14 "TarockHall$Trick" "cards" "LTarockHall$Row;", Cond.methodLink RX5 31 yX2_at, Cond.instanceMethod yX2_at, Cond.selects RX2 yX2_at yX2_at, Cond.initialized RX2, Cond.code yX2_at cX2_at 2 (some .int), Cond.fieldLink RX2 15 "TarockHall$Row" "items" "[I", Cond.methodLink RX5 42 yX5_playerAt, Cond.instanceMethod yX5_playerAt, Cond.selects RX5 yX5_playerAt yX5_playerAt, Cond.code yX5_playerAt cX5_playerAt 2 (some .int)]
def wsX6_kingPoints_r2 : List Cond := [Cond.fieldLink RX5 20 "TarockHall$Trick" "leader" "I", Cond.methodLink RX6 285 yX6_sideOf, Cond.instanceMethod yX6_sideOf, Cond.selects RX6 yX6_sideOf yX6_sideOf, Cond.code yX6_sideOf cX6_sideOf 2 (some .int), Cond.fieldLink RX6 59 "TarockHall" "declarer" "I", Cond.fieldLink RX6 68 "TarockHall" "partner" "I", Cond.methodLink RX6 207 yX6_isAnnounced, Cond.instanceMethod yX6_isAnnounced, Cond.selects RX6 yX6_isAnnounced yX6_isAnnounced, Cond.code yX6_isAnnounced cX6_isAnnounced 2 (some .boolean), Cond.fieldLink RX6 214 "TarockHall" "announced" "I"]
def wsX6_kingPoints : List Cond := .code yX6_kingPoints cX6_kingPoints 4 (some .int) :: ((wsX6_kingPoints_r1 ++ wsX6_kingPoints_r2) ++ wsX60 ++ wsX50 ++ wsX20)
def wsX6_enterResult_r1 : List Cond := [Cond.fieldLink RX6 19 "TarockHall" "bidding" "LTarockHall$Bidding;", Cond.fieldLink RX6 46 "TarockHall" "piles" "LTarockHall$Sets;", Cond.fieldLink RX6 33 "TarockHall" "sheet" "LTarockHall$Sheet;", Cond.fieldLink RX6 59 "TarockHall" "declarer" "I", Cond.fieldLink RX6 68 "TarockHall" "partner" "I", Cond.methodLink RX6 154 yX3_at, Cond.instanceMethod yX3_at, Cond.selects RX3 yX3_at yX3_at, Cond.initialized RX3, Cond.code yX3_at cX3_at 2 (some .long), Cond.fieldLink RX3 13 "TarockHall$Sets" "items" "[J", Cond.methodLink RX6 262 yX6_thirdsOf, Cond.static yX6_thirdsOf, Cond.initialized RX6, Cond.code yX6_thirdsOf cX6_thirdsOf 4 (some .int), Cond.methodLink RX6 179 yX6_holds, Cond.static yX6_holds, Cond.code yX6_holds cX6_holds 3 (some .boolean), Cond.methodLink RX6 254 yX6_worth, Cond.static yX6_worth, Cond.code yX6_worth cX6_worth 2 (some .int), Cond.methodLink RX6 344 yX6_suitOf, Cond.static yX6_suitOf, Cond.code yX6_suitOf cX6_suitOf 1 (some .int)]
def wsX6_enterResult_r2 : List Cond := [Cond.methodLink RX6 312 yX6_gamePoints, Cond.static yX6_gamePoints, Cond.code yX6_gamePoints cX6_gamePoints 3 (some .int), Cond.methodLink RX6 350 Lib.Math.abs.name, Cond.static Lib.Math.abs.name, Cond.initialized "java/lang/Math", Cond.code Lib.Math.abs.name Lib.Math.abs.code 1 (some .int), Cond.methodLink RX6 347 yX6_basePoints, Cond.static yX6_basePoints, Cond.code yX6_basePoints cX6_basePoints 1 (some .int), Cond.methodLink RX6 322 yX6_isWon, Cond.static yX6_isWon, Cond.code yX6_isWon cX6_isWon 1 (some .boolean), Cond.methodLink RX6 316 yX6_pagatPoints, Cond.instanceMethod yX6_pagatPoints, Cond.selects RX6 yX6_pagatPoints yX6_pagatPoints, Cond.code yX6_pagatPoints cX6_pagatPoints 5 (some .int), Cond.fieldLink RX6 26 "TarockHall" "trick" "LTarockHall$Trick;", Cond.methodLink RX6 331 yX5_playerOf, Cond.instanceMethod yX5_playerOf, Cond.selects RX5 yX5_playerOf yX5_playerOf, Cond.initialized RX5, Cond.code yX5_playerOf cX5_playerOf 3 (some .int), Cond.fieldLink RX5 24 "TarockHall$Trick" "size" "I"]
def wsX6_enterResult_r3 : List Cond := [Cond.fieldLink RX5 14 "TarockHall$Trick" "cards" "LTarockHall$Row;", Cond.methodLink RX5 31 yX2_at, Cond.instanceMethod yX2_at, Cond.selects RX2 yX2_at yX2_at, Cond.initialized RX2, Cond.code yX2_at cX2_at 2 (some .int), Cond.fieldLink RX2 15 "TarockHall$Row" "items" "[I", Cond.methodLink RX5 42 yX5_playerAt, Cond.instanceMethod yX5_playerAt, Cond.selects RX5 yX5_playerAt yX5_playerAt, Cond.code yX5_playerAt cX5_playerAt 2 (some .int), Cond.fieldLink RX5 20 "TarockHall$Trick" "leader" "I", Cond.methodLink RX6 285 yX6_sideOf, Cond.instanceMethod yX6_sideOf, Cond.selects RX6 yX6_sideOf yX6_sideOf, Cond.code yX6_sideOf cX6_sideOf 2 (some .int), Cond.methodLink RX6 207 yX6_isAnnounced, Cond.instanceMethod yX6_isAnnounced, Cond.selects RX6 yX6_isAnnounced yX6_isAnnounced, Cond.code yX6_isAnnounced cX6_isAnnounced 2 (some .boolean), Cond.fieldLink RX6 214 "TarockHall" "announced" "I", Cond.methodLink RX6 319 yX6_kingPoints, Cond.instanceMethod yX6_kingPoints, Cond.selects RX6 yX6_kingPoints yX6_kingPoints]
def wsX6_enterResult_r4 : List Cond := [Cond.code yX6_kingPoints cX6_kingPoints 4 (some .int), Cond.fieldLink RX6 62 "TarockHall" "called" "I", Cond.methodLink RX6 133 yX6_calledKing, Cond.instanceMethod yX6_calledKing, Cond.selects RX6 yX6_calledKing yX6_calledKing, Cond.code yX6_calledKing cX6_calledKing 1 (some .int), Cond.methodLink RX6 325 yX4_enter, Cond.instanceMethod yX4_enter, Cond.selects RX4 yX4_enter yX4_enter, Cond.initialized RX4, Cond.code yX4_enter cX4_enter 6 none, Cond.fieldLink RX4 20 "TarockHall$Sheet" "radli" "LTarockHall$Row;", Cond.fieldLink RX4 27 "TarockHall$Sheet" "latest" "I", Cond.methodLink RX4 23 yX2_at, Cond.methodLink RX4 31 yX2_put, Cond.instanceMethod yX2_put, Cond.selects RX2 yX2_put yX2_put, Cond.code yX2_put cX2_put 3 none, Cond.methodLink RX4 35 yX4_addScore, Cond.instanceMethod yX4_addScore, Cond.selects RX4 yX4_addScore yX4_addScore, Cond.code yX4_addScore cX4_addScore 2 none, Cond.fieldLink RX4 14 "TarockHall$Sheet" "scores" "LTarockHall$Row;", Cond.methodLink RX6 328 yX4_giveRadli]
def wsX6_enterResult_r5 : List Cond := [Cond.instanceMethod yX4_giveRadli, Cond.selects RX4 yX4_giveRadli yX4_giveRadli, Cond.code yX4_giveRadli cX4_giveRadli 2 none]
def wsX6_enterResult : List Cond := .code yX6_enterResult cX6_enterResult 5 none :: ((wsX6_enterResult_r1 ++ (wsX6_enterResult_r2 ++ (wsX6_enterResult_r3 ++ (wsX6_enterResult_r4 ++ wsX6_enterResult_r5)))) ++ wsX60 ++ wsX00 ++ wsX30 ++ wsX50 ++ wsX20 ++ wsX40)
def wsX6_endTrick_r1 : List Cond := [Cond.fieldLink RX6 46 "TarockHall" "piles" "LTarockHall$Sets;", Cond.fieldLink RX6 26 "TarockHall" "trick" "LTarockHall$Trick;", Cond.fieldLink RX6 199 "TarockHall" "tricks" "I", Cond.fieldLink RX6 56 "TarockHall" "turn" "I", Cond.methodLink RX6 285 yX6_sideOf, Cond.instanceMethod yX6_sideOf, Cond.selects RX6 yX6_sideOf yX6_sideOf, Cond.initialized RX6, Cond.code yX6_sideOf cX6_sideOf 2 (some .int), Cond.fieldLink RX6 59 "TarockHall" "declarer" "I", Cond.fieldLink RX6 68 "TarockHall" "partner" "I", Cond.methodLink RX6 154 yX3_at, Cond.instanceMethod yX3_at, Cond.selects RX3 yX3_at yX3_at, Cond.initialized RX3, Cond.code yX3_at cX3_at 2 (some .long), Cond.fieldLink RX3 13 "TarockHall$Sets" "items" "[J", Cond.methodLink RX6 306 yX5_cardSet, Cond.instanceMethod yX5_cardSet, Cond.selects RX5 yX5_cardSet yX5_cardSet, Cond.initialized RX5, Cond.code yX5_cardSet cX5_cardSet 4 (some .long), Cond.fieldLink RX5 24 "TarockHall$Trick" "size" "I", Cond.fieldLink RX5 14 "TarockHall$Trick" "cards" "LTarockHall$Row;"]
def wsX6_endTrick_r2 : List Cond := [Cond.methodLink RX5 31 yX2_at, Cond.instanceMethod yX2_at, Cond.selects RX2 yX2_at yX2_at, Cond.initialized RX2, Cond.code yX2_at cX2_at 2 (some .int), Cond.fieldLink RX2 15 "TarockHall$Row" "items" "[I", Cond.static yX6_only, Cond.code yX6_only cX6_only 1 (some .long), Cond.methodLink RX6 158 yX3_put, Cond.instanceMethod yX3_put, Cond.selects RX3 yX3_put yX3_put, Cond.code yX3_put cX3_put 4 none, Cond.methodLink RX6 309 yX6_enterResult, Cond.instanceMethod yX6_enterResult, Cond.selects RX6 yX6_enterResult yX6_enterResult, Cond.code yX6_enterResult cX6_enterResult 5 none, Cond.fieldLink RX6 19 "TarockHall" "bidding" "LTarockHall$Bidding;", Cond.fieldLink RX6 33 "TarockHall" "sheet" "LTarockHall$Sheet;", Cond.methodLink RX6 262 yX6_thirdsOf, Cond.static yX6_thirdsOf, Cond.code yX6_thirdsOf cX6_thirdsOf 4 (some .int), Cond.methodLink RX6 179 yX6_holds, Cond.static yX6_holds, Cond.code yX6_holds cX6_holds 3 (some .boolean)]
def wsX6_endTrick_r3 : List Cond := [Cond.methodLink RX6 254 yX6_worth, Cond.static yX6_worth, Cond.code yX6_worth cX6_worth 2 (some .int), Cond.methodLink RX6 344 yX6_suitOf, Cond.static yX6_suitOf, Cond.code yX6_suitOf cX6_suitOf 1 (some .int), Cond.methodLink RX6 312 yX6_gamePoints, Cond.static yX6_gamePoints, Cond.code yX6_gamePoints cX6_gamePoints 3 (some .int), Cond.methodLink RX6 350 Lib.Math.abs.name, Cond.static Lib.Math.abs.name, Cond.initialized "java/lang/Math", Cond.code Lib.Math.abs.name Lib.Math.abs.code 1 (some .int), Cond.methodLink RX6 347 yX6_basePoints, Cond.static yX6_basePoints, Cond.code yX6_basePoints cX6_basePoints 1 (some .int), Cond.methodLink RX6 322 yX6_isWon, Cond.static yX6_isWon, Cond.code yX6_isWon cX6_isWon 1 (some .boolean), Cond.methodLink RX6 316 yX6_pagatPoints, Cond.instanceMethod yX6_pagatPoints, Cond.selects RX6 yX6_pagatPoints yX6_pagatPoints, Cond.code yX6_pagatPoints cX6_pagatPoints 5 (some .int), Cond.methodLink RX6 331 yX5_playerOf]
def wsX6_endTrick_r4 : List Cond := [Cond.instanceMethod yX5_playerOf, Cond.selects RX5 yX5_playerOf yX5_playerOf, Cond.code yX5_playerOf cX5_playerOf 3 (some .int), Cond.methodLink RX5 42 yX5_playerAt, Cond.instanceMethod yX5_playerAt, Cond.selects RX5 yX5_playerAt yX5_playerAt, Cond.code yX5_playerAt cX5_playerAt 2 (some .int), Cond.fieldLink RX5 20 "TarockHall$Trick" "leader" "I", Cond.methodLink RX6 207 yX6_isAnnounced, Cond.instanceMethod yX6_isAnnounced, Cond.selects RX6 yX6_isAnnounced yX6_isAnnounced, Cond.code yX6_isAnnounced cX6_isAnnounced 2 (some .boolean), Cond.fieldLink RX6 214 "TarockHall" "announced" "I", Cond.methodLink RX6 319 yX6_kingPoints, Cond.instanceMethod yX6_kingPoints, Cond.selects RX6 yX6_kingPoints yX6_kingPoints, Cond.code yX6_kingPoints cX6_kingPoints 4 (some .int), Cond.fieldLink RX6 62 "TarockHall" "called" "I", Cond.methodLink RX6 133 yX6_calledKing, Cond.instanceMethod yX6_calledKing, Cond.selects RX6 yX6_calledKing yX6_calledKing, Cond.code yX6_calledKing cX6_calledKing 1 (some .int), Cond.methodLink RX6 325 yX4_enter, Cond.instanceMethod yX4_enter]
def wsX6_endTrick_r5 : List Cond := [Cond.selects RX4 yX4_enter yX4_enter, Cond.initialized RX4, Cond.code yX4_enter cX4_enter 6 none, Cond.fieldLink RX4 20 "TarockHall$Sheet" "radli" "LTarockHall$Row;", Cond.fieldLink RX4 27 "TarockHall$Sheet" "latest" "I", Cond.methodLink RX4 23 yX2_at, Cond.methodLink RX4 31 yX2_put, Cond.instanceMethod yX2_put, Cond.selects RX2 yX2_put yX2_put, Cond.code yX2_put cX2_put 3 none, Cond.methodLink RX4 35 yX4_addScore, Cond.instanceMethod yX4_addScore, Cond.selects RX4 yX4_addScore yX4_addScore, Cond.code yX4_addScore cX4_addScore 2 none, Cond.fieldLink RX4 14 "TarockHall$Sheet" "scores" "LTarockHall$Row;", Cond.methodLink RX6 328 yX4_giveRadli, Cond.instanceMethod yX4_giveRadli, Cond.selects RX4 yX4_giveRadli yX4_giveRadli, Cond.code yX4_giveRadli cX4_giveRadli 2 none, Cond.methodLink RX6 114 yX6_endDeal, Cond.instanceMethod yX6_endDeal, Cond.selects RX6 yX6_endDeal yX6_endDeal, Cond.code yX6_endDeal cX6_endDeal 1 none, Cond.fieldLink RX6 53 "TarockHall" "phase" "I"]
def wsX6_endTrick_r6 : List Cond := [Cond.methodLink RX6 291 yX5_begin, Cond.instanceMethod yX5_begin, Cond.selects RX5 yX5_begin yX5_begin, Cond.code yX5_begin cX5_begin 2 none]
def wsX6_endTrick : List Cond := .code yX6_endTrick cX6_endTrick 3 none :: ((wsX6_endTrick_r1 ++ (wsX6_endTrick_r2 ++ (wsX6_endTrick_r3 ++ (wsX6_endTrick_r4 ++ (wsX6_endTrick_r5 ++ wsX6_endTrick_r6))))) ++ wsX60 ++ wsX30 ++ wsX50 ++ wsX20 ++ wsX00 ++ wsX40)
def wsX6_addToTrick_r1 : List Cond := [Cond.fieldLink RX6 42 "TarockHall" "hands" "LTarockHall$Sets;", Cond.fieldLink RX6 56 "TarockHall" "turn" "I", Cond.constantLong RX6 166 (-1), Cond.fieldLink RX6 26 "TarockHall" "trick" "LTarockHall$Trick;", Cond.methodLink RX6 154 yX3_at, Cond.instanceMethod yX3_at, Cond.selects RX3 yX3_at yX3_at, Cond.initialized RX3, Cond.code yX3_at cX3_at 2 (some .long), Cond.fieldLink RX3 13 "TarockHall$Sets" "items" "[J", Cond.methodLink RX6 188 yX6_only, Cond.static yX6_only, Cond.initialized RX6, Cond.code yX6_only cX6_only 1 (some .long), Cond.methodLink RX6 158 yX3_put, Cond.instanceMethod yX3_put, Cond.selects RX3 yX3_put yX3_put, Cond.code yX3_put cX3_put 4 none, Cond.methodLink RX6 297 yX5_add, Cond.instanceMethod yX5_add, Cond.selects RX5 yX5_add yX5_add, Cond.initialized RX5, Cond.code yX5_add cX5_add 2 none, Cond.fieldLink RX5 14 "TarockHall$Trick" "cards" "LTarockHall$Row;"]
def wsX6_addToTrick_r2 : List Cond := [Cond.fieldLink RX5 24 "TarockHall$Trick" "size" "I", Cond.methodLink RX5 27 yX2_put, Cond.instanceMethod yX2_put, Cond.selects RX2 yX2_put yX2_put, Cond.initialized RX2, Cond.code yX2_put cX2_put 3 none, Cond.fieldLink RX2 15 "TarockHall$Row" "items" "[I", Cond.methodLink RX6 84 yX6_behind, Cond.static yX6_behind, Cond.code yX6_behind cX6_behind 1 (some .int), Cond.methodLink RX6 300 yX5_winner, Cond.instanceMethod yX5_winner, Cond.selects RX5 yX5_winner yX5_winner, Cond.code yX5_winner cX5_winner 3 (some .int), Cond.methodLink RX5 31 yX2_at, Cond.instanceMethod yX2_at, Cond.selects RX2 yX2_at yX2_at, Cond.code yX2_at cX2_at 2 (some .int), Cond.methodLink RX5 45 yX5_beats, Cond.static yX5_beats, Cond.code yX5_beats cX5_beats 3 (some .boolean), Cond.static yX6_suitOf, Cond.code yX6_suitOf cX6_suitOf 1 (some .int), Cond.methodLink RX5 42 yX5_playerAt]
def wsX6_addToTrick_r3 : List Cond := [Cond.instanceMethod yX5_playerAt, Cond.selects RX5 yX5_playerAt yX5_playerAt, Cond.code yX5_playerAt cX5_playerAt 2 (some .int), Cond.fieldLink RX5 20 "TarockHall$Trick" "leader" "I", Cond.methodLink RX6 303 yX6_endTrick, Cond.instanceMethod yX6_endTrick, Cond.selects RX6 yX6_endTrick yX6_endTrick, Cond.code yX6_endTrick cX6_endTrick 3 none, Cond.fieldLink RX6 46 "TarockHall" "piles" "LTarockHall$Sets;", Cond.fieldLink RX6 199 "TarockHall" "tricks" "I", Cond.methodLink RX6 285 yX6_sideOf, Cond.instanceMethod yX6_sideOf, Cond.selects RX6 yX6_sideOf yX6_sideOf, Cond.code yX6_sideOf cX6_sideOf 2 (some .int), Cond.fieldLink RX6 59 "TarockHall" "declarer" "I", Cond.fieldLink RX6 68 "TarockHall" "partner" "I", Cond.methodLink RX6 306 yX5_cardSet, Cond.instanceMethod yX5_cardSet, Cond.selects RX5 yX5_cardSet yX5_cardSet, Cond.code yX5_cardSet cX5_cardSet 4 (some .long), Cond.methodLink RX6 309 yX6_enterResult, Cond.instanceMethod yX6_enterResult, Cond.selects RX6 yX6_enterResult yX6_enterResult, Cond.code yX6_enterResult cX6_enterResult 5 none]
def wsX6_addToTrick_r4 : List Cond := [Cond.fieldLink RX6 19 "TarockHall" "bidding" "LTarockHall$Bidding;", Cond.fieldLink RX6 33 "TarockHall" "sheet" "LTarockHall$Sheet;", Cond.methodLink RX6 262 yX6_thirdsOf, Cond.static yX6_thirdsOf, Cond.code yX6_thirdsOf cX6_thirdsOf 4 (some .int), Cond.methodLink RX6 179 yX6_holds, Cond.static yX6_holds, Cond.code yX6_holds cX6_holds 3 (some .boolean), Cond.methodLink RX6 254 yX6_worth, Cond.static yX6_worth, Cond.code yX6_worth cX6_worth 2 (some .int), Cond.methodLink RX6 344 yX6_suitOf, Cond.methodLink RX6 312 yX6_gamePoints, Cond.static yX6_gamePoints, Cond.code yX6_gamePoints cX6_gamePoints 3 (some .int), Cond.methodLink RX6 350 Lib.Math.abs.name, Cond.static Lib.Math.abs.name, Cond.initialized "java/lang/Math", Cond.code Lib.Math.abs.name Lib.Math.abs.code 1 (some .int), Cond.methodLink RX6 347 yX6_basePoints, Cond.static yX6_basePoints, Cond.code yX6_basePoints cX6_basePoints 1 (some .int), Cond.methodLink RX6 322 yX6_isWon, Cond.static yX6_isWon]
def wsX6_addToTrick_r5 : List Cond := [Cond.code yX6_isWon cX6_isWon 1 (some .boolean), Cond.methodLink RX6 316 yX6_pagatPoints, Cond.instanceMethod yX6_pagatPoints, Cond.selects RX6 yX6_pagatPoints yX6_pagatPoints, Cond.code yX6_pagatPoints cX6_pagatPoints 5 (some .int), Cond.methodLink RX6 331 yX5_playerOf, Cond.instanceMethod yX5_playerOf, Cond.selects RX5 yX5_playerOf yX5_playerOf, Cond.code yX5_playerOf cX5_playerOf 3 (some .int), Cond.methodLink RX6 207 yX6_isAnnounced, Cond.instanceMethod yX6_isAnnounced, Cond.selects RX6 yX6_isAnnounced yX6_isAnnounced, Cond.code yX6_isAnnounced cX6_isAnnounced 2 (some .boolean), Cond.fieldLink RX6 214 "TarockHall" "announced" "I", Cond.methodLink RX6 319 yX6_kingPoints, Cond.instanceMethod yX6_kingPoints, Cond.selects RX6 yX6_kingPoints yX6_kingPoints, Cond.code yX6_kingPoints cX6_kingPoints 4 (some .int), Cond.fieldLink RX6 62 "TarockHall" "called" "I", Cond.methodLink RX6 133 yX6_calledKing, Cond.instanceMethod yX6_calledKing, Cond.selects RX6 yX6_calledKing yX6_calledKing, Cond.code yX6_calledKing cX6_calledKing 1 (some .int), Cond.methodLink RX6 325 yX4_enter]
def wsX6_addToTrick_r6 : List Cond := [Cond.instanceMethod yX4_enter, Cond.selects RX4 yX4_enter yX4_enter, Cond.initialized RX4, Cond.code yX4_enter cX4_enter 6 none, Cond.fieldLink RX4 20 "TarockHall$Sheet" "radli" "LTarockHall$Row;", Cond.fieldLink RX4 27 "TarockHall$Sheet" "latest" "I", Cond.methodLink RX4 23 yX2_at, Cond.methodLink RX4 31 yX2_put, Cond.methodLink RX4 35 yX4_addScore, Cond.instanceMethod yX4_addScore, Cond.selects RX4 yX4_addScore yX4_addScore, Cond.code yX4_addScore cX4_addScore 2 none, Cond.fieldLink RX4 14 "TarockHall$Sheet" "scores" "LTarockHall$Row;", Cond.methodLink RX6 328 yX4_giveRadli, Cond.instanceMethod yX4_giveRadli, Cond.selects RX4 yX4_giveRadli yX4_giveRadli, Cond.code yX4_giveRadli cX4_giveRadli 2 none, Cond.methodLink RX6 114 yX6_endDeal, Cond.instanceMethod yX6_endDeal, Cond.selects RX6 yX6_endDeal yX6_endDeal, Cond.code yX6_endDeal cX6_endDeal 1 none, Cond.fieldLink RX6 53 "TarockHall" "phase" "I", Cond.methodLink RX6 291 yX5_begin, Cond.instanceMethod yX5_begin]
def wsX6_addToTrick_r7 : List Cond := [Cond.selects RX5 yX5_begin yX5_begin, Cond.code yX5_begin cX5_begin 2 none]
def wsX6_addToTrick : List Cond := .code yX6_addToTrick cX6_addToTrick 3 (some .int) :: ((wsX6_addToTrick_r1 ++ (wsX6_addToTrick_r2 ++ (wsX6_addToTrick_r3 ++ (wsX6_addToTrick_r4 ++ (wsX6_addToTrick_r5 ++ (wsX6_addToTrick_r6 ++ wsX6_addToTrick_r7)))))) ++ wsX60 ++ wsX50 ++ wsX30 ++ wsX20 ++ wsX00 ++ wsX40)
def wsX6_play_r1 : List Cond := [Cond.classLink RX6 126 "java/lang/IndexOutOfBoundsException", Cond.initialized "java/lang/IndexOutOfBoundsException", Cond.classLink RX6 79 "java/lang/IllegalStateException", Cond.initialized "java/lang/IllegalStateException", Cond.methodLink RX6 171 yX6_isCard, Cond.static yX6_isCard, Cond.initialized RX6, Cond.code yX6_isCard cX6_isCard 1 (some .boolean), Cond.methodLink RX6 222 yX6_playableNow, Cond.instanceMethod yX6_playableNow, Cond.selects RX6 yX6_playableNow yX6_playableNow, Cond.code yX6_playableNow cX6_playableNow 1 (some .long), Cond.fieldLink RX6 53 "TarockHall" "phase" "I", Cond.fieldLink RX6 42 "TarockHall" "hands" "LTarockHall$Sets;", Cond.fieldLink RX6 56 "TarockHall" "turn" "I", Cond.fieldLink RX6 26 "TarockHall" "trick" "LTarockHall$Trick;", Cond.methodLink RX6 154 yX3_at, Cond.instanceMethod yX3_at, Cond.selects RX3 yX3_at yX3_at, Cond.initialized RX3, Cond.code yX3_at cX3_at 2 (some .long), Cond.fieldLink RX3 13 "TarockHall$Sets" "items" "[J", Cond.methodLink RX6 337 yX5_ledSuit, Cond.instanceMethod yX5_ledSuit]
def wsX6_play_r2 : List Cond := [Cond.selects RX5 yX5_ledSuit yX5_ledSuit, Cond.initialized RX5, Cond.code yX5_ledSuit cX5_ledSuit 1 (some .int), Cond.fieldLink RX5 24 "TarockHall$Trick" "size" "I", Cond.fieldLink RX5 14 "TarockHall$Trick" "cards" "LTarockHall$Row;", Cond.methodLink RX5 31 yX2_at, Cond.instanceMethod yX2_at, Cond.selects RX2 yX2_at yX2_at, Cond.initialized RX2, Cond.code yX2_at cX2_at 2 (some .int), Cond.fieldLink RX2 15 "TarockHall$Row" "items" "[I", Cond.static yX6_suitOf, Cond.code yX6_suitOf cX6_suitOf 1 (some .int), Cond.methodLink RX6 340 yX6_playableOf, Cond.static yX6_playableOf, Cond.code yX6_playableOf cX6_playableOf 7 (some .long), Cond.methodLink RX6 359 yX6_cardsOfSuit, Cond.static yX6_cardsOfSuit, Cond.code yX6_cardsOfSuit cX6_cardsOfSuit 5 (some .long), Cond.constantLong RX6 355 (-4294967296), Cond.constantLong RX6 357 (255), Cond.methodLink RX6 179 yX6_holds, Cond.static yX6_holds, Cond.code yX6_holds cX6_holds 3 (some .boolean)]
def wsX6_play_r3 : List Cond := [Cond.methodLink RX6 228 yX6_addToTrick, Cond.instanceMethod yX6_addToTrick, Cond.selects RX6 yX6_addToTrick yX6_addToTrick, Cond.code yX6_addToTrick cX6_addToTrick 3 (some .int), Cond.constantLong RX6 166 (-1), Cond.methodLink RX6 188 yX6_only, Cond.static yX6_only, Cond.code yX6_only cX6_only 1 (some .long), Cond.methodLink RX6 158 yX3_put, Cond.instanceMethod yX3_put, Cond.selects RX3 yX3_put yX3_put, Cond.code yX3_put cX3_put 4 none, Cond.methodLink RX6 297 yX5_add, Cond.instanceMethod yX5_add, Cond.selects RX5 yX5_add yX5_add, Cond.code yX5_add cX5_add 2 none, Cond.methodLink RX5 27 yX2_put, Cond.instanceMethod yX2_put, Cond.selects RX2 yX2_put yX2_put, Cond.code yX2_put cX2_put 3 none, Cond.methodLink RX6 84 yX6_behind, Cond.static yX6_behind, Cond.code yX6_behind cX6_behind 1 (some .int), Cond.methodLink RX6 300 yX5_winner]
def wsX6_play_r4 : List Cond := [Cond.instanceMethod yX5_winner, Cond.selects RX5 yX5_winner yX5_winner, Cond.code yX5_winner cX5_winner 3 (some .int), Cond.methodLink RX5 45 yX5_beats, Cond.static yX5_beats, Cond.code yX5_beats cX5_beats 3 (some .boolean), Cond.methodLink RX5 42 yX5_playerAt, Cond.instanceMethod yX5_playerAt, Cond.selects RX5 yX5_playerAt yX5_playerAt, Cond.code yX5_playerAt cX5_playerAt 2 (some .int), Cond.fieldLink RX5 20 "TarockHall$Trick" "leader" "I", Cond.methodLink RX6 303 yX6_endTrick, Cond.instanceMethod yX6_endTrick, Cond.selects RX6 yX6_endTrick yX6_endTrick, Cond.code yX6_endTrick cX6_endTrick 3 none, Cond.fieldLink RX6 46 "TarockHall" "piles" "LTarockHall$Sets;", Cond.fieldLink RX6 199 "TarockHall" "tricks" "I", Cond.methodLink RX6 285 yX6_sideOf, Cond.instanceMethod yX6_sideOf, Cond.selects RX6 yX6_sideOf yX6_sideOf, Cond.code yX6_sideOf cX6_sideOf 2 (some .int), Cond.fieldLink RX6 59 "TarockHall" "declarer" "I", Cond.fieldLink RX6 68 "TarockHall" "partner" "I", Cond.methodLink RX6 306 yX5_cardSet]
def wsX6_play_r5 : List Cond := [Cond.instanceMethod yX5_cardSet, Cond.selects RX5 yX5_cardSet yX5_cardSet, Cond.code yX5_cardSet cX5_cardSet 4 (some .long), Cond.methodLink RX6 309 yX6_enterResult, Cond.instanceMethod yX6_enterResult, Cond.selects RX6 yX6_enterResult yX6_enterResult, Cond.code yX6_enterResult cX6_enterResult 5 none, Cond.fieldLink RX6 19 "TarockHall" "bidding" "LTarockHall$Bidding;", Cond.fieldLink RX6 33 "TarockHall" "sheet" "LTarockHall$Sheet;", Cond.methodLink RX6 262 yX6_thirdsOf, Cond.static yX6_thirdsOf, Cond.code yX6_thirdsOf cX6_thirdsOf 4 (some .int), Cond.methodLink RX6 254 yX6_worth, Cond.static yX6_worth, Cond.code yX6_worth cX6_worth 2 (some .int), Cond.methodLink RX6 344 yX6_suitOf, Cond.methodLink RX6 312 yX6_gamePoints, Cond.static yX6_gamePoints, Cond.code yX6_gamePoints cX6_gamePoints 3 (some .int), Cond.methodLink RX6 350 Lib.Math.abs.name, Cond.static Lib.Math.abs.name, Cond.initialized "java/lang/Math", Cond.code Lib.Math.abs.name Lib.Math.abs.code 1 (some .int), Cond.methodLink RX6 347 yX6_basePoints]
def wsX6_play_r6 : List Cond := [Cond.static yX6_basePoints, Cond.code yX6_basePoints cX6_basePoints 1 (some .int), Cond.methodLink RX6 322 yX6_isWon, Cond.static yX6_isWon, Cond.code yX6_isWon cX6_isWon 1 (some .boolean), Cond.methodLink RX6 316 yX6_pagatPoints, Cond.instanceMethod yX6_pagatPoints, Cond.selects RX6 yX6_pagatPoints yX6_pagatPoints, Cond.code yX6_pagatPoints cX6_pagatPoints 5 (some .int), Cond.methodLink RX6 331 yX5_playerOf, Cond.instanceMethod yX5_playerOf, Cond.selects RX5 yX5_playerOf yX5_playerOf, Cond.code yX5_playerOf cX5_playerOf 3 (some .int), Cond.methodLink RX6 207 yX6_isAnnounced, Cond.instanceMethod yX6_isAnnounced, Cond.selects RX6 yX6_isAnnounced yX6_isAnnounced, Cond.code yX6_isAnnounced cX6_isAnnounced 2 (some .boolean), Cond.fieldLink RX6 214 "TarockHall" "announced" "I", Cond.methodLink RX6 319 yX6_kingPoints, Cond.instanceMethod yX6_kingPoints, Cond.selects RX6 yX6_kingPoints yX6_kingPoints, Cond.code yX6_kingPoints cX6_kingPoints 4 (some .int), Cond.fieldLink RX6 62 "TarockHall" "called" "I", Cond.methodLink RX6 133 yX6_calledKing]
def wsX6_play_r7 : List Cond := [Cond.instanceMethod yX6_calledKing, Cond.selects RX6 yX6_calledKing yX6_calledKing, Cond.code yX6_calledKing cX6_calledKing 1 (some .int), Cond.methodLink RX6 325 yX4_enter, Cond.instanceMethod yX4_enter, Cond.selects RX4 yX4_enter yX4_enter, Cond.initialized RX4, Cond.code yX4_enter cX4_enter 6 none, Cond.fieldLink RX4 20 "TarockHall$Sheet" "radli" "LTarockHall$Row;", Cond.fieldLink RX4 27 "TarockHall$Sheet" "latest" "I", Cond.methodLink RX4 23 yX2_at, Cond.methodLink RX4 31 yX2_put, Cond.methodLink RX4 35 yX4_addScore, Cond.instanceMethod yX4_addScore, Cond.selects RX4 yX4_addScore yX4_addScore, Cond.code yX4_addScore cX4_addScore 2 none, Cond.fieldLink RX4 14 "TarockHall$Sheet" "scores" "LTarockHall$Row;", Cond.methodLink RX6 328 yX4_giveRadli, Cond.instanceMethod yX4_giveRadli, Cond.selects RX4 yX4_giveRadli yX4_giveRadli, Cond.code yX4_giveRadli cX4_giveRadli 2 none, Cond.methodLink RX6 114 yX6_endDeal, Cond.instanceMethod yX6_endDeal, Cond.selects RX6 yX6_endDeal yX6_endDeal]
def wsX6_play_r8 : List Cond := [Cond.code yX6_endDeal cX6_endDeal 1 none, Cond.methodLink RX6 291 yX5_begin, Cond.instanceMethod yX5_begin, Cond.selects RX5 yX5_begin yX5_begin, Cond.code yX5_begin cX5_begin 2 none]
def wsX6_play : List Cond := .code yX6_play cX6_play 2 (some .int) :: ((wsX6_play_r1 ++ (wsX6_play_r2 ++ (wsX6_play_r3 ++ (wsX6_play_r4 ++ (wsX6_play_r5 ++ (wsX6_play_r6 ++ (wsX6_play_r7 ++ wsX6_play_r8))))))) ++ wsX60 ++ wsX30 ++ wsX50 ++ wsX20 ++ wsX00 ++ wsX40 ++ (vx_atS RX6 130 "java/lang/IndexOutOfBoundsException" ["java/lang/RuntimeException", "java/lang/Exception"]).filter goodWord ++ (vx_atS RX6 83 "java/lang/IllegalStateException" ["java/lang/RuntimeException", "java/lang/Exception"]).filter goodWord)
def wsX6_lowestOf : List Cond := .code yX6_lowestOf cX6_lowestOf 3 (some .int) :: ([.methodLink RX6 179 yX6_holds, .static yX6_holds, .initialized RX6, .code yX6_holds cX6_holds 3 (some .boolean)])
def wsX6_playLowest_r1 : List Cond := [Cond.classLink RX6 72 "java/lang/IllegalArgumentException", Cond.initialized "java/lang/IllegalArgumentException", Cond.classLink RX6 79 "java/lang/IllegalStateException", Cond.initialized "java/lang/IllegalStateException", Cond.fieldLink RX6 53 "TarockHall" "phase" "I", Cond.methodLink RX6 222 yX6_playableNow, Cond.instanceMethod yX6_playableNow, Cond.selects RX6 yX6_playableNow yX6_playableNow, Cond.initialized RX6, Cond.code yX6_playableNow cX6_playableNow 1 (some .long), Cond.fieldLink RX6 42 "TarockHall" "hands" "LTarockHall$Sets;", Cond.fieldLink RX6 56 "TarockHall" "turn" "I", Cond.fieldLink RX6 26 "TarockHall" "trick" "LTarockHall$Trick;", Cond.methodLink RX6 154 yX3_at, Cond.instanceMethod yX3_at, Cond.selects RX3 yX3_at yX3_at, Cond.initialized RX3, Cond.code yX3_at cX3_at 2 (some .long), Cond.fieldLink RX3 13 "TarockHall$Sets" "items" "[J", Cond.methodLink RX6 337 yX5_ledSuit, Cond.instanceMethod yX5_ledSuit, Cond.selects RX5 yX5_ledSuit yX5_ledSuit, Cond.initialized RX5, Cond.code yX5_ledSuit cX5_ledSuit 1 (some .int)]
def wsX6_playLowest_r2 : List Cond := [Cond.fieldLink RX5 24 "TarockHall$Trick" "size" "I", Cond.fieldLink RX5 14 "TarockHall$Trick" "cards" "LTarockHall$Row;", Cond.methodLink RX5 31 yX2_at, Cond.instanceMethod yX2_at, Cond.selects RX2 yX2_at yX2_at, Cond.initialized RX2, Cond.code yX2_at cX2_at 2 (some .int), Cond.fieldLink RX2 15 "TarockHall$Row" "items" "[I", Cond.static yX6_suitOf, Cond.code yX6_suitOf cX6_suitOf 1 (some .int), Cond.methodLink RX6 340 yX6_playableOf, Cond.static yX6_playableOf, Cond.code yX6_playableOf cX6_playableOf 7 (some .long), Cond.methodLink RX6 359 yX6_cardsOfSuit, Cond.static yX6_cardsOfSuit, Cond.code yX6_cardsOfSuit cX6_cardsOfSuit 5 (some .long), Cond.constantLong RX6 355 (-4294967296), Cond.constantLong RX6 357 (255), Cond.methodLink RX6 235 yX6_lowestOf, Cond.static yX6_lowestOf, Cond.code yX6_lowestOf cX6_lowestOf 3 (some .int), Cond.methodLink RX6 179 yX6_holds, Cond.static yX6_holds, Cond.code yX6_holds cX6_holds 3 (some .boolean)]
def wsX6_playLowest_r3 : List Cond := [Cond.methodLink RX6 228 yX6_addToTrick, Cond.instanceMethod yX6_addToTrick, Cond.selects RX6 yX6_addToTrick yX6_addToTrick, Cond.code yX6_addToTrick cX6_addToTrick 3 (some .int), Cond.constantLong RX6 166 (-1), Cond.methodLink RX6 188 yX6_only, Cond.static yX6_only, Cond.code yX6_only cX6_only 1 (some .long), Cond.methodLink RX6 158 yX3_put, Cond.instanceMethod yX3_put, Cond.selects RX3 yX3_put yX3_put, Cond.code yX3_put cX3_put 4 none, Cond.methodLink RX6 297 yX5_add, Cond.instanceMethod yX5_add, Cond.selects RX5 yX5_add yX5_add, Cond.code yX5_add cX5_add 2 none, Cond.methodLink RX5 27 yX2_put, Cond.instanceMethod yX2_put, Cond.selects RX2 yX2_put yX2_put, Cond.code yX2_put cX2_put 3 none, Cond.methodLink RX6 84 yX6_behind, Cond.static yX6_behind, Cond.code yX6_behind cX6_behind 1 (some .int), Cond.methodLink RX6 300 yX5_winner]
def wsX6_playLowest_r4 : List Cond := [Cond.instanceMethod yX5_winner, Cond.selects RX5 yX5_winner yX5_winner, Cond.code yX5_winner cX5_winner 3 (some .int), Cond.methodLink RX5 45 yX5_beats, Cond.static yX5_beats, Cond.code yX5_beats cX5_beats 3 (some .boolean), Cond.methodLink RX5 42 yX5_playerAt, Cond.instanceMethod yX5_playerAt, Cond.selects RX5 yX5_playerAt yX5_playerAt, Cond.code yX5_playerAt cX5_playerAt 2 (some .int), Cond.fieldLink RX5 20 "TarockHall$Trick" "leader" "I", Cond.methodLink RX6 303 yX6_endTrick, Cond.instanceMethod yX6_endTrick, Cond.selects RX6 yX6_endTrick yX6_endTrick, Cond.code yX6_endTrick cX6_endTrick 3 none, Cond.fieldLink RX6 46 "TarockHall" "piles" "LTarockHall$Sets;", Cond.fieldLink RX6 199 "TarockHall" "tricks" "I", Cond.methodLink RX6 285 yX6_sideOf, Cond.instanceMethod yX6_sideOf, Cond.selects RX6 yX6_sideOf yX6_sideOf, Cond.code yX6_sideOf cX6_sideOf 2 (some .int), Cond.fieldLink RX6 59 "TarockHall" "declarer" "I", Cond.fieldLink RX6 68 "TarockHall" "partner" "I", Cond.methodLink RX6 306 yX5_cardSet]
def wsX6_playLowest_r5 : List Cond := [Cond.instanceMethod yX5_cardSet, Cond.selects RX5 yX5_cardSet yX5_cardSet, Cond.code yX5_cardSet cX5_cardSet 4 (some .long), Cond.methodLink RX6 309 yX6_enterResult, Cond.instanceMethod yX6_enterResult, Cond.selects RX6 yX6_enterResult yX6_enterResult, Cond.code yX6_enterResult cX6_enterResult 5 none, Cond.fieldLink RX6 19 "TarockHall" "bidding" "LTarockHall$Bidding;", Cond.fieldLink RX6 33 "TarockHall" "sheet" "LTarockHall$Sheet;", Cond.methodLink RX6 262 yX6_thirdsOf, Cond.static yX6_thirdsOf, Cond.code yX6_thirdsOf cX6_thirdsOf 4 (some .int), Cond.methodLink RX6 254 yX6_worth, Cond.static yX6_worth, Cond.code yX6_worth cX6_worth 2 (some .int), Cond.methodLink RX6 344 yX6_suitOf, Cond.methodLink RX6 312 yX6_gamePoints, Cond.static yX6_gamePoints, Cond.code yX6_gamePoints cX6_gamePoints 3 (some .int), Cond.methodLink RX6 350 Lib.Math.abs.name, Cond.static Lib.Math.abs.name, Cond.initialized "java/lang/Math", Cond.code Lib.Math.abs.name Lib.Math.abs.code 1 (some .int), Cond.methodLink RX6 347 yX6_basePoints]
def wsX6_playLowest_r6 : List Cond := [Cond.static yX6_basePoints, Cond.code yX6_basePoints cX6_basePoints 1 (some .int), Cond.methodLink RX6 322 yX6_isWon, Cond.static yX6_isWon, Cond.code yX6_isWon cX6_isWon 1 (some .boolean), Cond.methodLink RX6 316 yX6_pagatPoints, Cond.instanceMethod yX6_pagatPoints, Cond.selects RX6 yX6_pagatPoints yX6_pagatPoints, Cond.code yX6_pagatPoints cX6_pagatPoints 5 (some .int), Cond.methodLink RX6 331 yX5_playerOf, Cond.instanceMethod yX5_playerOf, Cond.selects RX5 yX5_playerOf yX5_playerOf, Cond.code yX5_playerOf cX5_playerOf 3 (some .int), Cond.methodLink RX6 207 yX6_isAnnounced, Cond.instanceMethod yX6_isAnnounced, Cond.selects RX6 yX6_isAnnounced yX6_isAnnounced, Cond.code yX6_isAnnounced cX6_isAnnounced 2 (some .boolean), Cond.fieldLink RX6 214 "TarockHall" "announced" "I", Cond.methodLink RX6 319 yX6_kingPoints, Cond.instanceMethod yX6_kingPoints, Cond.selects RX6 yX6_kingPoints yX6_kingPoints, Cond.code yX6_kingPoints cX6_kingPoints 4 (some .int), Cond.fieldLink RX6 62 "TarockHall" "called" "I", Cond.methodLink RX6 133 yX6_calledKing]
def wsX6_playLowest_r7 : List Cond := [Cond.instanceMethod yX6_calledKing, Cond.selects RX6 yX6_calledKing yX6_calledKing, Cond.code yX6_calledKing cX6_calledKing 1 (some .int), Cond.methodLink RX6 325 yX4_enter, Cond.instanceMethod yX4_enter, Cond.selects RX4 yX4_enter yX4_enter, Cond.initialized RX4, Cond.code yX4_enter cX4_enter 6 none, Cond.fieldLink RX4 20 "TarockHall$Sheet" "radli" "LTarockHall$Row;", Cond.fieldLink RX4 27 "TarockHall$Sheet" "latest" "I", Cond.methodLink RX4 23 yX2_at, Cond.methodLink RX4 31 yX2_put, Cond.methodLink RX4 35 yX4_addScore, Cond.instanceMethod yX4_addScore, Cond.selects RX4 yX4_addScore yX4_addScore, Cond.code yX4_addScore cX4_addScore 2 none, Cond.fieldLink RX4 14 "TarockHall$Sheet" "scores" "LTarockHall$Row;", Cond.methodLink RX6 328 yX4_giveRadli, Cond.instanceMethod yX4_giveRadli, Cond.selects RX4 yX4_giveRadli yX4_giveRadli, Cond.code yX4_giveRadli cX4_giveRadli 2 none, Cond.methodLink RX6 114 yX6_endDeal, Cond.instanceMethod yX6_endDeal, Cond.selects RX6 yX6_endDeal yX6_endDeal]
def wsX6_playLowest_r8 : List Cond := [Cond.code yX6_endDeal cX6_endDeal 1 none, Cond.methodLink RX6 291 yX5_begin, Cond.instanceMethod yX5_begin, Cond.selects RX5 yX5_begin yX5_begin, Cond.code yX5_begin cX5_begin 2 none]
def wsX6_playLowest : List Cond := .code yX6_playLowest cX6_playLowest 4 (some .int) :: ((wsX6_playLowest_r1 ++ (wsX6_playLowest_r2 ++ (wsX6_playLowest_r3 ++ (wsX6_playLowest_r4 ++ (wsX6_playLowest_r5 ++ (wsX6_playLowest_r6 ++ (wsX6_playLowest_r7 ++ wsX6_playLowest_r8))))))) ++ wsX60 ++ wsX30 ++ wsX50 ++ wsX20 ++ wsX00 ++ wsX40 ++ (vx_atS RX6 76 "java/lang/IllegalArgumentException" ["java/lang/RuntimeException", "java/lang/Exception"]).filter goodWord ++ (vx_atS RX6 83 "java/lang/IllegalStateException" ["java/lang/RuntimeException", "java/lang/Exception"]).filter goodWord)
def wsX6_phase : List Cond := .code yX6_phase cX6_phase 1 (some .int) :: ([.fieldLink RX6 53 "TarockHall" "phase" "I"] ++ wsX60)
def wsX6_turn : List Cond := .code yX6_turn cX6_turn 1 (some .int) :: ([.fieldLink RX6 56 "TarockHall" "turn" "I"] ++ wsX60)
def wsX6_declarer : List Cond := .code yX6_declarer cX6_declarer 1 (some .int) :: ([.fieldLink RX6 59 "TarockHall" "declarer" "I"] ++ wsX60)
def wsX6_level : List Cond := .code yX6_level cX6_level 1 (some .int) :: ([.fieldLink RX6 19 "TarockHall" "bidding" "LTarockHall$Bidding;"] ++ wsX60 ++ wsX00)
def wsX6_called : List Cond := .code yX6_called cX6_called 1 (some .int) :: ([.fieldLink RX6 62 "TarockHall" "called" "I"] ++ wsX60)
def wsX6_partner : List Cond := .code yX6_partner cX6_partner 1 (some .int) :: ([.fieldLink RX6 68 "TarockHall" "partner" "I"] ++ wsX60)
def wsX6_isPlayer : List Cond := .code yX6_isPlayer cX6_isPlayer 1 (some .boolean) :: ([])
def wsX6_hand : List Cond := .code yX6_hand cX6_hand 2 (some .long) :: ([.classLink RX6 126 "java/lang/IndexOutOfBoundsException", .initialized "java/lang/IndexOutOfBoundsException", .fieldLink RX6 42 "TarockHall" "hands" "LTarockHall$Sets;", .methodLink RX6 239 yX6_isPlayer, .static yX6_isPlayer, .initialized RX6, .code yX6_isPlayer cX6_isPlayer 1 (some .boolean), .methodLink RX6 154 yX3_at, .instanceMethod yX3_at, .selects RX3 yX3_at yX3_at, .initialized RX3, .code yX3_at cX3_at 2 (some .long), .fieldLink RX3 13 "TarockHall$Sets" "items" "[J"] ++ wsX60 ++ wsX30 ++ (vx_atS RX6 130 "java/lang/IndexOutOfBoundsException" ["java/lang/RuntimeException", "java/lang/Exception"]).filter goodWord)
def wsX6_talonAt : List Cond := .code yX6_talonAt cX6_talonAt 2 (some .int) :: ([.classLink RX6 126 "java/lang/IndexOutOfBoundsException", .initialized "java/lang/IndexOutOfBoundsException", .classLink RX6 79 "java/lang/IllegalStateException", .initialized "java/lang/IllegalStateException", .fieldLink RX6 49 "TarockHall" "forehand" "I", .fieldLink RX6 12 "TarockHall" "deck" "LTarockHall$Deck;", .methodLink RX6 248 yX1_cardAt, .instanceMethod yX1_cardAt, .selects RX1 yX1_cardAt yX1_cardAt, .initialized RX1, .code yX1_cardAt cX1_cardAt 2 (some .int), .fieldLink RX1 14 "TarockHall$Deck" "row" "LTarockHall$Row;", .methodLink RX1 28 yX2_at, .instanceMethod yX2_at, .selects RX2 yX2_at yX2_at, .initialized RX2, .code yX2_at cX2_at 2 (some .int), .fieldLink RX2 15 "TarockHall$Row" "items" "[I"] ++ wsX60 ++ wsX10 ++ wsX20 ++ (vx_atS RX6 130 "java/lang/IndexOutOfBoundsException" ["java/lang/RuntimeException", "java/lang/Exception"]).filter goodWord ++ (vx_atS RX6 83 "java/lang/IllegalStateException" ["java/lang/RuntimeException", "java/lang/Exception"]).filter goodWord)
def wsX6_inTrick : List Cond := .code yX6_inTrick cX6_inTrick 1 (some .int) :: ([.fieldLink RX6 26 "TarockHall" "trick" "LTarockHall$Trick;"] ++ wsX60 ++ wsX50)
def wsX6_trickAt : List Cond := .code yX6_trickAt cX6_trickAt 2 (some .int) :: ([.classLink RX6 126 "java/lang/IndexOutOfBoundsException", .initialized "java/lang/IndexOutOfBoundsException", .fieldLink RX6 26 "TarockHall" "trick" "LTarockHall$Trick;", .methodLink RX6 253 yX5_cardAt, .instanceMethod yX5_cardAt, .selects RX5 yX5_cardAt yX5_cardAt, .initialized RX5, .code yX5_cardAt cX5_cardAt 2 (some .int), .fieldLink RX5 14 "TarockHall$Trick" "cards" "LTarockHall$Row;", .methodLink RX5 31 yX2_at, .instanceMethod yX2_at, .selects RX2 yX2_at yX2_at, .initialized RX2, .code yX2_at cX2_at 2 (some .int), .fieldLink RX2 15 "TarockHall$Row" "items" "[I"] ++ wsX60 ++ wsX50 ++ wsX20 ++ (vx_atS RX6 130 "java/lang/IndexOutOfBoundsException" ["java/lang/RuntimeException", "java/lang/Exception"]).filter goodWord)
def wsX6_canPlay_r1 : List Cond := [Cond.classLink RX6 126 "java/lang/IndexOutOfBoundsException", Cond.initialized "java/lang/IndexOutOfBoundsException", Cond.methodLink RX6 171 yX6_isCard, Cond.static yX6_isCard, Cond.initialized RX6, Cond.code yX6_isCard cX6_isCard 1 (some .boolean), Cond.methodLink RX6 222 yX6_playableNow, Cond.instanceMethod yX6_playableNow, Cond.selects RX6 yX6_playableNow yX6_playableNow, Cond.code yX6_playableNow cX6_playableNow 1 (some .long), Cond.fieldLink RX6 53 "TarockHall" "phase" "I", Cond.fieldLink RX6 42 "TarockHall" "hands" "LTarockHall$Sets;", Cond.fieldLink RX6 56 "TarockHall" "turn" "I", Cond.fieldLink RX6 26 "TarockHall" "trick" "LTarockHall$Trick;", Cond.methodLink RX6 154 yX3_at, Cond.instanceMethod yX3_at, Cond.selects RX3 yX3_at yX3_at, Cond.initialized RX3, Cond.code yX3_at cX3_at 2 (some .long), Cond.fieldLink RX3 13 "TarockHall$Sets" "items" "[J", Cond.methodLink RX6 337 yX5_ledSuit, Cond.instanceMethod yX5_ledSuit, Cond.selects RX5 yX5_ledSuit yX5_ledSuit, Cond.initialized RX5]
def wsX6_canPlay_r2 : List Cond := [Cond.code yX5_ledSuit cX5_ledSuit 1 (some .int), Cond.fieldLink RX5 24 "TarockHall$Trick" "size" "I", Cond.fieldLink RX5 14 "TarockHall$Trick" "cards" "LTarockHall$Row;", Cond.methodLink RX5 31 yX2_at, Cond.instanceMethod yX2_at, Cond.selects RX2 yX2_at yX2_at, Cond.initialized RX2, Cond.code yX2_at cX2_at 2 (some .int), Cond.fieldLink RX2 15 "TarockHall$Row" "items" "[I", Cond.static yX6_suitOf, Cond.code yX6_suitOf cX6_suitOf 1 (some .int), Cond.methodLink RX6 340 yX6_playableOf, Cond.static yX6_playableOf, Cond.code yX6_playableOf cX6_playableOf 7 (some .long), Cond.methodLink RX6 359 yX6_cardsOfSuit, Cond.static yX6_cardsOfSuit, Cond.code yX6_cardsOfSuit cX6_cardsOfSuit 5 (some .long), Cond.constantLong RX6 355 (-4294967296), Cond.constantLong RX6 357 (255), Cond.methodLink RX6 179 yX6_holds, Cond.static yX6_holds, Cond.code yX6_holds cX6_holds 3 (some .boolean)]
def wsX6_canPlay : List Cond := .code yX6_canPlay cX6_canPlay 2 (some .boolean) :: ((wsX6_canPlay_r1 ++ wsX6_canPlay_r2) ++ wsX60 ++ wsX30 ++ wsX50 ++ wsX20 ++ (vx_atS RX6 130 "java/lang/IndexOutOfBoundsException" ["java/lang/RuntimeException", "java/lang/Exception"]).filter goodWord)
def wsX6_tricks : List Cond := .code yX6_tricks cX6_tricks 1 (some .int) :: ([.fieldLink RX6 199 "TarockHall" "tricks" "I"] ++ wsX60)
def wsX6_valueOf : List Cond := .code yX6_valueOf cX6_valueOf 2 (some .int) :: ([.classLink RX6 126 "java/lang/IndexOutOfBoundsException", .initialized "java/lang/IndexOutOfBoundsException", .methodLink RX6 171 yX6_isCard, .static yX6_isCard, .initialized RX6, .code yX6_isCard cX6_isCard 1 (some .boolean), .methodLink RX6 254 yX6_worth, .static yX6_worth, .code yX6_worth cX6_worth 2 (some .int), .methodLink RX6 344 yX6_suitOf, .static yX6_suitOf, .code yX6_suitOf cX6_suitOf 1 (some .int)] ++ (vx_atS RX6 130 "java/lang/IndexOutOfBoundsException" ["java/lang/RuntimeException", "java/lang/Exception"]).filter goodWord)
def wsX6_isSide : List Cond := .code yX6_isSide cX6_isSide 1 (some .boolean) :: ([])
def wsX6_thirds_r1 : List Cond := [Cond.classLink RX6 126 "java/lang/IndexOutOfBoundsException", Cond.initialized "java/lang/IndexOutOfBoundsException", Cond.fieldLink RX6 46 "TarockHall" "piles" "LTarockHall$Sets;", Cond.methodLink RX6 257 yX6_isSide, Cond.static yX6_isSide, Cond.initialized RX6, Cond.code yX6_isSide cX6_isSide 1 (some .boolean), Cond.methodLink RX6 154 yX3_at, Cond.instanceMethod yX3_at, Cond.selects RX3 yX3_at yX3_at, Cond.initialized RX3, Cond.code yX3_at cX3_at 2 (some .long), Cond.fieldLink RX3 13 "TarockHall$Sets" "items" "[J", Cond.methodLink RX6 262 yX6_thirdsOf, Cond.static yX6_thirdsOf, Cond.code yX6_thirdsOf cX6_thirdsOf 4 (some .int), Cond.methodLink RX6 179 yX6_holds, Cond.static yX6_holds, Cond.code yX6_holds cX6_holds 3 (some .boolean), Cond.methodLink RX6 254 yX6_worth, Cond.static yX6_worth, Cond.code yX6_worth cX6_worth 2 (some .int), Cond.methodLink RX6 344 yX6_suitOf, Cond.static yX6_suitOf]
def wsX6_thirds_r2 : List Cond := [Cond.code yX6_suitOf cX6_suitOf 1 (some .int)]
def wsX6_thirds : List Cond := .code yX6_thirds cX6_thirds 2 (some .int) :: ((wsX6_thirds_r1 ++ wsX6_thirds_r2) ++ wsX60 ++ wsX30 ++ (vx_atS RX6 130 "java/lang/IndexOutOfBoundsException" ["java/lang/RuntimeException", "java/lang/Exception"]).filter goodWord)
def wsX6_packPointsOf : List Cond := .code yX6_packPointsOf cX6_packPointsOf 6 (some .int) :: ([.methodLink RX6 179 yX6_holds, .static yX6_holds, .initialized RX6, .code yX6_holds cX6_holds 3 (some .boolean), .methodLink RX6 254 yX6_worth, .static yX6_worth, .code yX6_worth cX6_worth 2 (some .int), .methodLink RX6 344 yX6_suitOf, .static yX6_suitOf, .code yX6_suitOf cX6_suitOf 1 (some .int)])
def wsX6_byPacks_r1 : List Cond := [Cond.classLink RX6 126 "java/lang/IndexOutOfBoundsException", Cond.initialized "java/lang/IndexOutOfBoundsException", Cond.fieldLink RX6 46 "TarockHall" "piles" "LTarockHall$Sets;", Cond.methodLink RX6 257 yX6_isSide, Cond.static yX6_isSide, Cond.initialized RX6, Cond.code yX6_isSide cX6_isSide 1 (some .boolean), Cond.methodLink RX6 154 yX3_at, Cond.instanceMethod yX3_at, Cond.selects RX3 yX3_at yX3_at, Cond.initialized RX3, Cond.code yX3_at cX3_at 2 (some .long), Cond.fieldLink RX3 13 "TarockHall$Sets" "items" "[J", Cond.methodLink RX6 265 yX6_packPointsOf, Cond.static yX6_packPointsOf, Cond.code yX6_packPointsOf cX6_packPointsOf 6 (some .int), Cond.methodLink RX6 179 yX6_holds, Cond.static yX6_holds, Cond.code yX6_holds cX6_holds 3 (some .boolean), Cond.methodLink RX6 254 yX6_worth, Cond.static yX6_worth, Cond.code yX6_worth cX6_worth 2 (some .int), Cond.methodLink RX6 344 yX6_suitOf, Cond.static yX6_suitOf]
def wsX6_byPacks_r2 : List Cond := [Cond.code yX6_suitOf cX6_suitOf 1 (some .int)]
def wsX6_byPacks : List Cond := .code yX6_byPacks cX6_byPacks 2 (some .int) :: ((wsX6_byPacks_r1 ++ wsX6_byPacks_r2) ++ wsX60 ++ wsX30 ++ (vx_atS RX6 130 "java/lang/IndexOutOfBoundsException" ["java/lang/RuntimeException", "java/lang/Exception"]).filter goodWord)
def wsX6_score : List Cond := .code yX6_score cX6_score 2 (some .int) :: ([.classLink RX6 126 "java/lang/IndexOutOfBoundsException", .initialized "java/lang/IndexOutOfBoundsException", .fieldLink RX6 33 "TarockHall" "sheet" "LTarockHall$Sheet;", .methodLink RX6 239 yX6_isPlayer, .static yX6_isPlayer, .initialized RX6, .code yX6_isPlayer cX6_isPlayer 1 (some .boolean), .methodLink RX6 272 yX2_at, .instanceMethod yX2_at, .selects RX2 yX2_at yX2_at, .initialized RX2, .code yX2_at cX2_at 2 (some .int), .fieldLink RX2 15 "TarockHall$Row" "items" "[I"] ++ wsX60 ++ wsX40 ++ wsX20 ++ (vx_atS RX6 130 "java/lang/IndexOutOfBoundsException" ["java/lang/RuntimeException", "java/lang/Exception"]).filter goodWord)
def wsX6_radli : List Cond := .code yX6_radli cX6_radli 2 (some .int) :: ([.classLink RX6 126 "java/lang/IndexOutOfBoundsException", .initialized "java/lang/IndexOutOfBoundsException", .fieldLink RX6 33 "TarockHall" "sheet" "LTarockHall$Sheet;", .methodLink RX6 239 yX6_isPlayer, .static yX6_isPlayer, .initialized RX6, .code yX6_isPlayer cX6_isPlayer 1 (some .boolean), .methodLink RX6 272 yX2_at, .instanceMethod yX2_at, .selects RX2 yX2_at yX2_at, .initialized RX2, .code yX2_at cX2_at 2 (some .int), .fieldLink RX2 15 "TarockHall$Row" "items" "[I"] ++ wsX60 ++ wsX40 ++ wsX20 ++ (vx_atS RX6 130 "java/lang/IndexOutOfBoundsException" ["java/lang/RuntimeException", "java/lang/Exception"]).filter goodWord)
def wsX6_result : List Cond := .code yX6_result cX6_result 1 (some .int) :: ([.fieldLink RX6 33 "TarockHall" "sheet" "LTarockHall$Sheet;"] ++ wsX60 ++ wsX40)
def wsX6_sidesAreOpen : List Cond := .code yX6_sidesAreOpen cX6_sidesAreOpen 1 (some .boolean) :: ([.fieldLink RX6 62 "TarockHall" "called" "I", .fieldLink RX6 65 "TarockHall" "kingOwner" "I", .fieldLink RX6 42 "TarockHall" "hands" "LTarockHall$Sets;", .methodLink RX6 154 yX3_at, .instanceMethod yX3_at, .selects RX3 yX3_at yX3_at, .initialized RX3, .code yX3_at cX3_at 2 (some .long), .fieldLink RX3 13 "TarockHall$Sets" "items" "[J", .methodLink RX6 133 yX6_calledKing, .instanceMethod yX6_calledKing, .selects RX6 yX6_calledKing yX6_calledKing, .initialized RX6, .code yX6_calledKing cX6_calledKing 1 (some .int), .methodLink RX6 179 yX6_holds, .static yX6_holds, .code yX6_holds cX6_holds 3 (some .boolean)] ++ wsX60 ++ wsX30)
def wsX6_knows_r1 : List Cond := [Cond.classLink RX6 126 "java/lang/IndexOutOfBoundsException", Cond.initialized "java/lang/IndexOutOfBoundsException", Cond.fieldLink RX6 59 "TarockHall" "declarer" "I", Cond.fieldLink RX6 53 "TarockHall" "phase" "I", Cond.fieldLink RX6 65 "TarockHall" "kingOwner" "I", Cond.methodLink RX6 239 yX6_isPlayer, Cond.static yX6_isPlayer, Cond.initialized RX6, Cond.code yX6_isPlayer cX6_isPlayer 1 (some .boolean), Cond.methodLink RX6 282 yX6_sidesAreOpen, Cond.instanceMethod yX6_sidesAreOpen, Cond.selects RX6 yX6_sidesAreOpen yX6_sidesAreOpen, Cond.code yX6_sidesAreOpen cX6_sidesAreOpen 1 (some .boolean), Cond.fieldLink RX6 62 "TarockHall" "called" "I", Cond.fieldLink RX6 42 "TarockHall" "hands" "LTarockHall$Sets;", Cond.methodLink RX6 154 yX3_at, Cond.instanceMethod yX3_at, Cond.selects RX3 yX3_at yX3_at, Cond.initialized RX3, Cond.code yX3_at cX3_at 2 (some .long), Cond.fieldLink RX3 13 "TarockHall$Sets" "items" "[J", Cond.methodLink RX6 133 yX6_calledKing, Cond.instanceMethod yX6_calledKing, Cond.selects RX6 yX6_calledKing yX6_calledKing]
def wsX6_knows_r2 : List Cond := [Cond.code yX6_calledKing cX6_calledKing 1 (some .int), Cond.methodLink RX6 179 yX6_holds, Cond.static yX6_holds, Cond.code yX6_holds cX6_holds 3 (some .boolean), Cond.methodLink RX6 285 yX6_sideOf, Cond.instanceMethod yX6_sideOf, Cond.selects RX6 yX6_sideOf yX6_sideOf, Cond.code yX6_sideOf cX6_sideOf 2 (some .int), Cond.fieldLink RX6 68 "TarockHall" "partner" "I"]
def wsX6_knows : List Cond := .code yX6_knows cX6_knows 4 (some .int) :: ((wsX6_knows_r1 ++ wsX6_knows_r2) ++ wsX60 ++ wsX30 ++ (vx_atS RX6 130 "java/lang/IndexOutOfBoundsException" ["java/lang/RuntimeException", "java/lang/Exception"]).filter goodWord)
def wsJ9_abs_0f7a4 : List Cond := .code yJ9_abs_0f7a4 cJ9_abs_0f7a4 1 (some .int) :: ([])
def wsJ9_max_7cf53 : List Cond := .code yJ9_max_7cf53 cJ9_max_7cf53 2 (some .int) :: ([])
def wsL_bids_r1 : List Cond := [Cond.classLink RL 13 "java/lang/IllegalStateException", Cond.methodLink RL 7 yX6_bid, Cond.instanceMethod yX6_bid, Cond.selects RX6 yX6_bid yX6_bid, Cond.initialized RX6, Cond.code yX6_bid cX6_bid 2 (some .int), Cond.classLink RX6 72 "java/lang/IllegalArgumentException", Cond.initialized "java/lang/IllegalArgumentException", Cond.classLink RX6 79 "java/lang/IllegalStateException", Cond.initialized "java/lang/IllegalStateException", Cond.fieldLink RX6 53 "TarockHall" "phase" "I", Cond.fieldLink RX6 19 "TarockHall" "bidding" "LTarockHall$Bidding;", Cond.fieldLink RX6 56 "TarockHall" "turn" "I", Cond.methodLink RX6 106 yX0_enter, Cond.instanceMethod yX0_enter, Cond.selects RX0 yX0_enter yX0_enter, Cond.initialized RX0, Cond.code yX0_enter cX0_enter 3 none, Cond.fieldLink RX0 15 "TarockHall$Bidding" "passed" "I", Cond.fieldLink RX0 18 "TarockHall$Bidding" "highest" "I", Cond.fieldLink RX0 9 "TarockHall$Bidding" "bidder" "I", Cond.methodLink RX6 110 yX0_allPassed, Cond.instanceMethod yX0_allPassed, Cond.selects RX0 yX0_allPassed yX0_allPassed]
def wsL_bids_r2 : List Cond := [Cond.code yX0_allPassed cX0_allPassed 1 (some .boolean), Cond.methodLink RX0 21 yJ6_bitCount_0f7a4, Cond.static yJ6_bitCount_0f7a4, Cond.initialized RJ6, Cond.code yJ6_bitCount_0f7a4 cJ6_bitCount_0f7a4 1 (some .int), Cond.constant RJ6 265 (1431655765), Cond.constant RJ6 266 (858993459), Cond.constant RJ6 267 (252645135), Cond.methodLink RX6 114 yX6_endDeal, Cond.instanceMethod yX6_endDeal, Cond.selects RX6 yX6_endDeal yX6_endDeal, Cond.code yX6_endDeal cX6_endDeal 1 none, Cond.methodLink RX6 117 yX0_isSettled, Cond.instanceMethod yX0_isSettled, Cond.selects RX0 yX0_isSettled yX0_isSettled, Cond.code yX0_isSettled cX0_isSettled 1 (some .boolean), Cond.methodLink RX6 120 yX6_beginGame, Cond.instanceMethod yX6_beginGame, Cond.selects RX6 yX6_beginGame yX6_beginGame, Cond.code yX6_beginGame cX6_beginGame 1 none, Cond.fieldLink RX6 59 "TarockHall" "declarer" "I", Cond.methodLink RX6 194 yX6_beginPlay, Cond.instanceMethod yX6_beginPlay, Cond.selects RX6 yX6_beginPlay yX6_beginPlay]
def wsL_bids_r3 : List Cond := [Cond.code yX6_beginPlay cX6_beginPlay 1 none, Cond.fieldLink RX6 46 "TarockHall" "piles" "LTarockHall$Sets;", Cond.fieldLink RX6 191 "TarockHall" "laidAway" "J", Cond.fieldLink RX6 162 "TarockHall" "restOfTalon" "J", Cond.fieldLink RX6 49 "TarockHall" "forehand" "I", Cond.methodLink RX6 158 yX3_put, Cond.instanceMethod yX3_put, Cond.selects RX3 yX3_put yX3_put, Cond.initialized RX3, Cond.code yX3_put cX3_put 4 none, Cond.fieldLink RX3 13 "TarockHall$Sets" "items" "[J", Cond.methodLink RX6 123 yX0_nextBehind, Cond.instanceMethod yX0_nextBehind, Cond.selects RX0 yX0_nextBehind yX0_nextBehind, Cond.code yX0_nextBehind cX0_nextBehind 4 (some .int), Cond.static yX6_behind, Cond.code yX6_behind cX6_behind 1 (some .int), Cond.methodLink RX0 30 yX0_hasPassed, Cond.instanceMethod yX0_hasPassed, Cond.selects RX0 yX0_hasPassed yX0_hasPassed, Cond.code yX0_hasPassed cX0_hasPassed 2 (some .boolean)]
def wsL_bids : List Cond := .codeWith yL_bids cL_bids 3 (some .int) [(0, 5, 6, 13)] :: ((wsL_bids_r1 ++ (wsL_bids_r2 ++ wsL_bids_r3)) ++ wsX60 ++ wsX00 ++ wsX30 ++ (vx_atS RX6 76 "java/lang/IllegalArgumentException" ["java/lang/RuntimeException", "java/lang/Exception"]).filter goodWord ++ (vx_atS RX6 83 "java/lang/IllegalStateException" ["java/lang/RuntimeException", "java/lang/Exception"]).filter goodWord)
def wsL_lays_r1 : List Cond := [Cond.classLink RL 13 "java/lang/IllegalStateException", Cond.methodLink RL 15 yX6_discard, Cond.instanceMethod yX6_discard, Cond.selects RX6 yX6_discard yX6_discard, Cond.initialized RX6, Cond.code yX6_discard cX6_discard 4 (some .int), Cond.classLink RX6 126 "java/lang/IndexOutOfBoundsException", Cond.initialized "java/lang/IndexOutOfBoundsException", Cond.classLink RX6 79 "java/lang/IllegalStateException", Cond.initialized "java/lang/IllegalStateException", Cond.fieldLink RX6 53 "TarockHall" "phase" "I", Cond.fieldLink RX6 42 "TarockHall" "hands" "LTarockHall$Sets;", Cond.fieldLink RX6 59 "TarockHall" "declarer" "I", Cond.constantLong RX6 166 (-1), Cond.fieldLink RX6 191 "TarockHall" "laidAway" "J", Cond.fieldLink RX6 168 "TarockHall" "toLayAway" "I", Cond.methodLink RX6 171 yX6_isCard, Cond.static yX6_isCard, Cond.code yX6_isCard cX6_isCard 1 (some .boolean), Cond.methodLink RX6 154 yX3_at, Cond.instanceMethod yX3_at, Cond.selects RX3 yX3_at yX3_at, Cond.initialized RX3, Cond.code yX3_at cX3_at 2 (some .long)]
def wsL_lays_r2 : List Cond := [Cond.fieldLink RX3 13 "TarockHall$Sets" "items" "[J", Cond.methodLink RX6 179 yX6_holds, Cond.static yX6_holds, Cond.code yX6_holds cX6_holds 3 (some .boolean), Cond.methodLink RX6 183 yX6_canBeLaidAway, Cond.static yX6_canBeLaidAway, Cond.code yX6_canBeLaidAway cX6_canBeLaidAway 1 (some .boolean), Cond.methodLink RX6 254 yX6_worth, Cond.static yX6_worth, Cond.code yX6_worth cX6_worth 2 (some .int), Cond.methodLink RX6 344 yX6_suitOf, Cond.static yX6_suitOf, Cond.code yX6_suitOf cX6_suitOf 1 (some .int), Cond.methodLink RX6 188 yX6_only, Cond.static yX6_only, Cond.code yX6_only cX6_only 1 (some .long), Cond.methodLink RX6 158 yX3_put, Cond.instanceMethod yX3_put, Cond.selects RX3 yX3_put yX3_put, Cond.code yX3_put cX3_put 4 none, Cond.methodLink RX6 194 yX6_beginPlay, Cond.instanceMethod yX6_beginPlay, Cond.selects RX6 yX6_beginPlay yX6_beginPlay, Cond.code yX6_beginPlay cX6_beginPlay 1 none]
def wsL_lays_r3 : List Cond := [Cond.fieldLink RX6 46 "TarockHall" "piles" "LTarockHall$Sets;", Cond.fieldLink RX6 162 "TarockHall" "restOfTalon" "J", Cond.fieldLink RX6 49 "TarockHall" "forehand" "I", Cond.fieldLink RX6 56 "TarockHall" "turn" "I"]
def wsL_lays : List Cond := .codeWith yL_lays cL_lays 3 (some .int) [(0, 5, 6, 13)] :: ((wsL_lays_r1 ++ (wsL_lays_r2 ++ wsL_lays_r3)) ++ wsX60 ++ wsX30 ++ (vx_atS RX6 130 "java/lang/IndexOutOfBoundsException" ["java/lang/RuntimeException", "java/lang/Exception"]).filter goodWord ++ (vx_atS RX6 83 "java/lang/IllegalStateException" ["java/lang/RuntimeException", "java/lang/Exception"]).filter goodWord)
def wsL_announces_r1 : List Cond := [Cond.classLink RL 13 "java/lang/IllegalStateException", Cond.methodLink RL 18 yX6_announce, Cond.instanceMethod yX6_announce, Cond.selects RX6 yX6_announce yX6_announce, Cond.initialized RX6, Cond.code yX6_announce cX6_announce 2 (some .int), Cond.classLink RX6 126 "java/lang/IndexOutOfBoundsException", Cond.initialized "java/lang/IndexOutOfBoundsException", Cond.classLink RX6 79 "java/lang/IllegalStateException", Cond.initialized "java/lang/IllegalStateException", Cond.fieldLink RX6 53 "TarockHall" "phase" "I", Cond.fieldLink RX6 199 "TarockHall" "tricks" "I", Cond.fieldLink RX6 26 "TarockHall" "trick" "LTarockHall$Trick;", Cond.fieldLink RX6 19 "TarockHall" "bidding" "LTarockHall$Bidding;", Cond.fieldLink RX6 214 "TarockHall" "announced" "I", Cond.methodLink RX6 207 yX6_isAnnounced, Cond.instanceMethod yX6_isAnnounced, Cond.selects RX6 yX6_isAnnounced yX6_isAnnounced, Cond.code yX6_isAnnounced cX6_isAnnounced 2 (some .boolean), Cond.methodLink RX6 217 yJ6_bitCount_0f7a4, Cond.static yJ6_bitCount_0f7a4, Cond.initialized RJ6, Cond.code yJ6_bitCount_0f7a4 cJ6_bitCount_0f7a4 1 (some .int), Cond.constant RJ6 265 (1431655765)]
def wsL_announces_r2 : List Cond := [Cond.constant RJ6 266 (858993459), Cond.constant RJ6 267 (252645135)]
def wsL_announces : List Cond := .codeWith yL_announces cL_announces 3 (some .int) [(0, 5, 6, 13)] :: ((wsL_announces_r1 ++ wsL_announces_r2) ++ wsX60 ++ wsX50 ++ wsX00 ++ (vx_atS RX6 130 "java/lang/IndexOutOfBoundsException" ["java/lang/RuntimeException", "java/lang/Exception"]).filter goodWord ++ (vx_atS RX6 83 "java/lang/IllegalStateException" ["java/lang/RuntimeException", "java/lang/Exception"]).filter goodWord)
def wsL_plays_r1 : List Cond := [Cond.classLink RL 13 "java/lang/IllegalStateException", Cond.methodLink RL 21 yX6_play, Cond.instanceMethod yX6_play, Cond.selects RX6 yX6_play yX6_play, Cond.initialized RX6, Cond.code yX6_play cX6_play 2 (some .int), Cond.classLink RX6 126 "java/lang/IndexOutOfBoundsException", Cond.initialized "java/lang/IndexOutOfBoundsException", Cond.classLink RX6 79 "java/lang/IllegalStateException", Cond.initialized "java/lang/IllegalStateException", Cond.methodLink RX6 171 yX6_isCard, Cond.static yX6_isCard, Cond.code yX6_isCard cX6_isCard 1 (some .boolean), Cond.methodLink RX6 222 yX6_playableNow, Cond.instanceMethod yX6_playableNow, Cond.selects RX6 yX6_playableNow yX6_playableNow, Cond.code yX6_playableNow cX6_playableNow 1 (some .long), Cond.fieldLink RX6 53 "TarockHall" "phase" "I", Cond.fieldLink RX6 42 "TarockHall" "hands" "LTarockHall$Sets;", Cond.fieldLink RX6 56 "TarockHall" "turn" "I", Cond.fieldLink RX6 26 "TarockHall" "trick" "LTarockHall$Trick;", Cond.methodLink RX6 154 yX3_at, Cond.instanceMethod yX3_at, Cond.selects RX3 yX3_at yX3_at]
def wsL_plays_r2 : List Cond := [Cond.initialized RX3, Cond.code yX3_at cX3_at 2 (some .long), Cond.fieldLink RX3 13 "TarockHall$Sets" "items" "[J", Cond.methodLink RX6 337 yX5_ledSuit, Cond.instanceMethod yX5_ledSuit, Cond.selects RX5 yX5_ledSuit yX5_ledSuit, Cond.initialized RX5, Cond.code yX5_ledSuit cX5_ledSuit 1 (some .int), Cond.fieldLink RX5 24 "TarockHall$Trick" "size" "I", Cond.fieldLink RX5 14 "TarockHall$Trick" "cards" "LTarockHall$Row;", Cond.methodLink RX5 31 yX2_at, Cond.instanceMethod yX2_at, Cond.selects RX2 yX2_at yX2_at, Cond.initialized RX2, Cond.code yX2_at cX2_at 2 (some .int), Cond.fieldLink RX2 15 "TarockHall$Row" "items" "[I", Cond.static yX6_suitOf, Cond.code yX6_suitOf cX6_suitOf 1 (some .int), Cond.methodLink RX6 340 yX6_playableOf, Cond.static yX6_playableOf, Cond.code yX6_playableOf cX6_playableOf 7 (some .long), Cond.methodLink RX6 359 yX6_cardsOfSuit, Cond.static yX6_cardsOfSuit, Cond.code yX6_cardsOfSuit cX6_cardsOfSuit 5 (some .long)]
def wsL_plays_r3 : List Cond := [Cond.constantLong RX6 355 (-4294967296), Cond.constantLong RX6 357 (255), Cond.methodLink RX6 179 yX6_holds, Cond.static yX6_holds, Cond.code yX6_holds cX6_holds 3 (some .boolean), Cond.methodLink RX6 228 yX6_addToTrick, Cond.instanceMethod yX6_addToTrick, Cond.selects RX6 yX6_addToTrick yX6_addToTrick, Cond.code yX6_addToTrick cX6_addToTrick 3 (some .int), Cond.constantLong RX6 166 (-1), Cond.methodLink RX6 188 yX6_only, Cond.static yX6_only, Cond.code yX6_only cX6_only 1 (some .long), Cond.methodLink RX6 158 yX3_put, Cond.instanceMethod yX3_put, Cond.selects RX3 yX3_put yX3_put, Cond.code yX3_put cX3_put 4 none, Cond.methodLink RX6 297 yX5_add, Cond.instanceMethod yX5_add, Cond.selects RX5 yX5_add yX5_add, Cond.code yX5_add cX5_add 2 none, Cond.methodLink RX5 27 yX2_put, Cond.instanceMethod yX2_put, Cond.selects RX2 yX2_put yX2_put]
def wsL_plays_r4 : List Cond := [Cond.code yX2_put cX2_put 3 none, Cond.methodLink RX6 84 yX6_behind, Cond.static yX6_behind, Cond.code yX6_behind cX6_behind 1 (some .int), Cond.methodLink RX6 300 yX5_winner, Cond.instanceMethod yX5_winner, Cond.selects RX5 yX5_winner yX5_winner, Cond.code yX5_winner cX5_winner 3 (some .int), Cond.methodLink RX5 45 yX5_beats, Cond.static yX5_beats, Cond.code yX5_beats cX5_beats 3 (some .boolean), Cond.methodLink RX5 42 yX5_playerAt, Cond.instanceMethod yX5_playerAt, Cond.selects RX5 yX5_playerAt yX5_playerAt, Cond.code yX5_playerAt cX5_playerAt 2 (some .int), Cond.fieldLink RX5 20 "TarockHall$Trick" "leader" "I", Cond.methodLink RX6 303 yX6_endTrick, Cond.instanceMethod yX6_endTrick, Cond.selects RX6 yX6_endTrick yX6_endTrick, Cond.code yX6_endTrick cX6_endTrick 3 none, Cond.fieldLink RX6 46 "TarockHall" "piles" "LTarockHall$Sets;", Cond.fieldLink RX6 199 "TarockHall" "tricks" "I", Cond.methodLink RX6 285 yX6_sideOf, Cond.instanceMethod yX6_sideOf]
def wsL_plays_r5 : List Cond := [Cond.selects RX6 yX6_sideOf yX6_sideOf, Cond.code yX6_sideOf cX6_sideOf 2 (some .int), Cond.fieldLink RX6 59 "TarockHall" "declarer" "I", Cond.fieldLink RX6 68 "TarockHall" "partner" "I", Cond.methodLink RX6 306 yX5_cardSet, Cond.instanceMethod yX5_cardSet, Cond.selects RX5 yX5_cardSet yX5_cardSet, Cond.code yX5_cardSet cX5_cardSet 4 (some .long), Cond.methodLink RX6 309 yX6_enterResult, Cond.instanceMethod yX6_enterResult, Cond.selects RX6 yX6_enterResult yX6_enterResult, Cond.code yX6_enterResult cX6_enterResult 5 none, Cond.fieldLink RX6 19 "TarockHall" "bidding" "LTarockHall$Bidding;", Cond.fieldLink RX6 33 "TarockHall" "sheet" "LTarockHall$Sheet;", Cond.methodLink RX6 262 yX6_thirdsOf, Cond.static yX6_thirdsOf, Cond.code yX6_thirdsOf cX6_thirdsOf 4 (some .int), Cond.methodLink RX6 254 yX6_worth, Cond.static yX6_worth, Cond.code yX6_worth cX6_worth 2 (some .int), Cond.methodLink RX6 344 yX6_suitOf, Cond.methodLink RX6 312 yX6_gamePoints, Cond.static yX6_gamePoints, Cond.code yX6_gamePoints cX6_gamePoints 3 (some .int)]
def wsL_plays_r6 : List Cond := [Cond.methodLink RX6 350 Lib.Math.abs.name, Cond.static Lib.Math.abs.name, Cond.initialized "java/lang/Math", Cond.code Lib.Math.abs.name Lib.Math.abs.code 1 (some .int), Cond.methodLink RX6 347 yX6_basePoints, Cond.static yX6_basePoints, Cond.code yX6_basePoints cX6_basePoints 1 (some .int), Cond.methodLink RX6 322 yX6_isWon, Cond.static yX6_isWon, Cond.code yX6_isWon cX6_isWon 1 (some .boolean), Cond.methodLink RX6 316 yX6_pagatPoints, Cond.instanceMethod yX6_pagatPoints, Cond.selects RX6 yX6_pagatPoints yX6_pagatPoints, Cond.code yX6_pagatPoints cX6_pagatPoints 5 (some .int), Cond.methodLink RX6 331 yX5_playerOf, Cond.instanceMethod yX5_playerOf, Cond.selects RX5 yX5_playerOf yX5_playerOf, Cond.code yX5_playerOf cX5_playerOf 3 (some .int), Cond.methodLink RX6 207 yX6_isAnnounced, Cond.instanceMethod yX6_isAnnounced, Cond.selects RX6 yX6_isAnnounced yX6_isAnnounced, Cond.code yX6_isAnnounced cX6_isAnnounced 2 (some .boolean), Cond.fieldLink RX6 214 "TarockHall" "announced" "I", Cond.methodLink RX6 319 yX6_kingPoints]
def wsL_plays_r7 : List Cond := [Cond.instanceMethod yX6_kingPoints, Cond.selects RX6 yX6_kingPoints yX6_kingPoints, Cond.code yX6_kingPoints cX6_kingPoints 4 (some .int), Cond.fieldLink RX6 62 "TarockHall" "called" "I", Cond.methodLink RX6 133 yX6_calledKing, Cond.instanceMethod yX6_calledKing, Cond.selects RX6 yX6_calledKing yX6_calledKing, Cond.code yX6_calledKing cX6_calledKing 1 (some .int), Cond.methodLink RX6 325 yX4_enter, Cond.instanceMethod yX4_enter, Cond.selects RX4 yX4_enter yX4_enter, Cond.initialized RX4, Cond.code yX4_enter cX4_enter 6 none, Cond.fieldLink RX4 20 "TarockHall$Sheet" "radli" "LTarockHall$Row;", Cond.fieldLink RX4 27 "TarockHall$Sheet" "latest" "I", Cond.methodLink RX4 23 yX2_at, Cond.methodLink RX4 31 yX2_put, Cond.methodLink RX4 35 yX4_addScore, Cond.instanceMethod yX4_addScore, Cond.selects RX4 yX4_addScore yX4_addScore, Cond.code yX4_addScore cX4_addScore 2 none, Cond.fieldLink RX4 14 "TarockHall$Sheet" "scores" "LTarockHall$Row;", Cond.methodLink RX6 328 yX4_giveRadli, Cond.instanceMethod yX4_giveRadli]
def wsL_plays_r8 : List Cond := [Cond.selects RX4 yX4_giveRadli yX4_giveRadli, Cond.code yX4_giveRadli cX4_giveRadli 2 none, Cond.methodLink RX6 114 yX6_endDeal, Cond.instanceMethod yX6_endDeal, Cond.selects RX6 yX6_endDeal yX6_endDeal, Cond.code yX6_endDeal cX6_endDeal 1 none, Cond.methodLink RX6 291 yX5_begin, Cond.instanceMethod yX5_begin, Cond.selects RX5 yX5_begin yX5_begin, Cond.code yX5_begin cX5_begin 2 none]
def wsL_plays : List Cond := .codeWith yL_plays cL_plays 3 (some .int) [(0, 5, 6, 13)] :: ((wsL_plays_r1 ++ (wsL_plays_r2 ++ (wsL_plays_r3 ++ (wsL_plays_r4 ++ (wsL_plays_r5 ++ (wsL_plays_r6 ++ (wsL_plays_r7 ++ wsL_plays_r8))))))) ++ wsX60 ++ wsX30 ++ wsX50 ++ wsX20 ++ wsX00 ++ wsX40 ++ (vx_atS RX6 130 "java/lang/IndexOutOfBoundsException" ["java/lang/RuntimeException", "java/lang/Exception"]).filter goodWord ++ (vx_atS RX6 83 "java/lang/IllegalStateException" ["java/lang/RuntimeException", "java/lang/Exception"]).filter goodWord)
def wsL_bits : List Cond := .code yL_bits cL_bits 4 (some .int) :: ([])
def wsL_has : List Cond := .code yL_has cL_has 3 (some .boolean) :: ([])
def wsL_suit : List Cond := .code yL_suit cL_suit 1 (some .int) :: ([])
def wsL_areHands_r1 : List Cond := [Cond.methodLink RL 24 yX6_hand, Cond.instanceMethod yX6_hand, Cond.selects RX6 yX6_hand yX6_hand, Cond.initialized RX6, Cond.code yX6_hand cX6_hand 2 (some .long), Cond.classLink RX6 126 "java/lang/IndexOutOfBoundsException", Cond.initialized "java/lang/IndexOutOfBoundsException", Cond.fieldLink RX6 42 "TarockHall" "hands" "LTarockHall$Sets;", Cond.methodLink RX6 239 yX6_isPlayer, Cond.static yX6_isPlayer, Cond.code yX6_isPlayer cX6_isPlayer 1 (some .boolean), Cond.methodLink RX6 154 yX3_at, Cond.instanceMethod yX3_at, Cond.selects RX3 yX3_at yX3_at, Cond.initialized RX3, Cond.code yX3_at cX3_at 2 (some .long), Cond.fieldLink RX3 13 "TarockHall$Sets" "items" "[J", Cond.methodLink RL 28 yL_bits, Cond.static yL_bits, Cond.initialized RL, Cond.code yL_bits cL_bits 4 (some .int), Cond.methodLink RL 34 yX6_phase, Cond.instanceMethod yX6_phase, Cond.selects RX6 yX6_phase yX6_phase]
def wsL_areHands_r2 : List Cond := [Cond.code yX6_phase cX6_phase 1 (some .int), Cond.fieldLink RX6 53 "TarockHall" "phase" "I", Cond.methodLink RL 38 yX6_canPlay, Cond.instanceMethod yX6_canPlay, Cond.selects RX6 yX6_canPlay yX6_canPlay, Cond.code yX6_canPlay cX6_canPlay 2 (some .boolean), Cond.methodLink RX6 171 yX6_isCard, Cond.static yX6_isCard, Cond.code yX6_isCard cX6_isCard 1 (some .boolean), Cond.methodLink RX6 222 yX6_playableNow, Cond.instanceMethod yX6_playableNow, Cond.selects RX6 yX6_playableNow yX6_playableNow, Cond.code yX6_playableNow cX6_playableNow 1 (some .long), Cond.fieldLink RX6 56 "TarockHall" "turn" "I", Cond.fieldLink RX6 26 "TarockHall" "trick" "LTarockHall$Trick;", Cond.methodLink RX6 337 yX5_ledSuit, Cond.instanceMethod yX5_ledSuit, Cond.selects RX5 yX5_ledSuit yX5_ledSuit, Cond.initialized RX5, Cond.code yX5_ledSuit cX5_ledSuit 1 (some .int), Cond.fieldLink RX5 24 "TarockHall$Trick" "size" "I", Cond.fieldLink RX5 14 "TarockHall$Trick" "cards" "LTarockHall$Row;", Cond.methodLink RX5 31 yX2_at, Cond.instanceMethod yX2_at]
def wsL_areHands_r3 : List Cond := [Cond.selects RX2 yX2_at yX2_at, Cond.initialized RX2, Cond.code yX2_at cX2_at 2 (some .int), Cond.fieldLink RX2 15 "TarockHall$Row" "items" "[I", Cond.static yX6_suitOf, Cond.code yX6_suitOf cX6_suitOf 1 (some .int), Cond.methodLink RX6 340 yX6_playableOf, Cond.static yX6_playableOf, Cond.code yX6_playableOf cX6_playableOf 7 (some .long), Cond.methodLink RX6 359 yX6_cardsOfSuit, Cond.static yX6_cardsOfSuit, Cond.code yX6_cardsOfSuit cX6_cardsOfSuit 5 (some .long), Cond.constantLong RX6 355 (-4294967296), Cond.constantLong RX6 357 (255), Cond.methodLink RX6 179 yX6_holds, Cond.static yX6_holds, Cond.code yX6_holds cX6_holds 3 (some .boolean), Cond.methodLink RL 42 yX6_inTrick, Cond.instanceMethod yX6_inTrick, Cond.selects RX6 yX6_inTrick yX6_inTrick, Cond.code yX6_inTrick cX6_inTrick 1 (some .int), Cond.methodLink RL 45 yX6_turn, Cond.instanceMethod yX6_turn, Cond.selects RX6 yX6_turn yX6_turn]
def wsL_areHands_r4 : List Cond := [Cond.code yX6_turn cX6_turn 1 (some .int), Cond.methodLink RL 48 yX6_trickAt, Cond.instanceMethod yX6_trickAt, Cond.selects RX6 yX6_trickAt yX6_trickAt, Cond.code yX6_trickAt cX6_trickAt 2 (some .int), Cond.methodLink RX6 253 yX5_cardAt, Cond.instanceMethod yX5_cardAt, Cond.selects RX5 yX5_cardAt yX5_cardAt, Cond.code yX5_cardAt cX5_cardAt 2 (some .int), Cond.methodLink RL 51 yL_suit, Cond.static yL_suit, Cond.code yL_suit cL_suit 1 (some .int), Cond.methodLink RL 54 yL_has, Cond.static yL_has, Cond.code yL_has cL_has 3 (some .boolean), Cond.methodLink RL 58 yX6_tricks, Cond.instanceMethod yX6_tricks, Cond.selects RX6 yX6_tricks yX6_tricks, Cond.code yX6_tricks cX6_tricks 1 (some .int), Cond.fieldLink RX6 199 "TarockHall" "tricks" "I"]
def wsL_areHands : List Cond := .code yL_areHands cL_areHands 13 (some .boolean) :: ((wsL_areHands_r1 ++ (wsL_areHands_r2 ++ (wsL_areHands_r3 ++ wsL_areHands_r4))) ++ wsX60 ++ wsX30 ++ wsX50 ++ wsX20 ++ (vx_atS RX6 130 "java/lang/IndexOutOfBoundsException" ["java/lang/RuntimeException", "java/lang/Exception"]).filter goodWord)
def wsL_areSides_r1 : List Cond := [Cond.methodLink RL 61 yX6_thirds, Cond.instanceMethod yX6_thirds, Cond.selects RX6 yX6_thirds yX6_thirds, Cond.initialized RX6, Cond.code yX6_thirds cX6_thirds 2 (some .int), Cond.classLink RX6 126 "java/lang/IndexOutOfBoundsException", Cond.initialized "java/lang/IndexOutOfBoundsException", Cond.fieldLink RX6 46 "TarockHall" "piles" "LTarockHall$Sets;", Cond.methodLink RX6 257 yX6_isSide, Cond.static yX6_isSide, Cond.code yX6_isSide cX6_isSide 1 (some .boolean), Cond.methodLink RX6 154 yX3_at, Cond.instanceMethod yX3_at, Cond.selects RX3 yX3_at yX3_at, Cond.initialized RX3, Cond.code yX3_at cX3_at 2 (some .long), Cond.fieldLink RX3 13 "TarockHall$Sets" "items" "[J", Cond.methodLink RX6 262 yX6_thirdsOf, Cond.static yX6_thirdsOf, Cond.code yX6_thirdsOf cX6_thirdsOf 4 (some .int), Cond.methodLink RX6 179 yX6_holds, Cond.static yX6_holds, Cond.code yX6_holds cX6_holds 3 (some .boolean), Cond.methodLink RX6 254 yX6_worth]
def wsL_areSides_r2 : List Cond := [Cond.static yX6_worth, Cond.code yX6_worth cX6_worth 2 (some .int), Cond.methodLink RX6 344 yX6_suitOf, Cond.static yX6_suitOf, Cond.code yX6_suitOf cX6_suitOf 1 (some .int), Cond.methodLink RL 58 yX6_tricks, Cond.instanceMethod yX6_tricks, Cond.selects RX6 yX6_tricks yX6_tricks, Cond.code yX6_tricks cX6_tricks 1 (some .int), Cond.fieldLink RX6 199 "TarockHall" "tricks" "I", Cond.methodLink RL 64 yX6_byPacks, Cond.instanceMethod yX6_byPacks, Cond.selects RX6 yX6_byPacks yX6_byPacks, Cond.code yX6_byPacks cX6_byPacks 2 (some .int), Cond.methodLink RX6 265 yX6_packPointsOf, Cond.static yX6_packPointsOf, Cond.code yX6_packPointsOf cX6_packPointsOf 6 (some .int), Cond.methodLink RL 67 yX6_knows, Cond.instanceMethod yX6_knows, Cond.selects RX6 yX6_knows yX6_knows, Cond.code yX6_knows cX6_knows 4 (some .int), Cond.fieldLink RX6 59 "TarockHall" "declarer" "I", Cond.fieldLink RX6 53 "TarockHall" "phase" "I", Cond.fieldLink RX6 65 "TarockHall" "kingOwner" "I"]
def wsL_areSides_r3 : List Cond := [Cond.methodLink RX6 239 yX6_isPlayer, Cond.static yX6_isPlayer, Cond.code yX6_isPlayer cX6_isPlayer 1 (some .boolean), Cond.methodLink RX6 282 yX6_sidesAreOpen, Cond.instanceMethod yX6_sidesAreOpen, Cond.selects RX6 yX6_sidesAreOpen yX6_sidesAreOpen, Cond.code yX6_sidesAreOpen cX6_sidesAreOpen 1 (some .boolean), Cond.fieldLink RX6 62 "TarockHall" "called" "I", Cond.fieldLink RX6 42 "TarockHall" "hands" "LTarockHall$Sets;", Cond.methodLink RX6 133 yX6_calledKing, Cond.instanceMethod yX6_calledKing, Cond.selects RX6 yX6_calledKing yX6_calledKing, Cond.code yX6_calledKing cX6_calledKing 1 (some .int), Cond.methodLink RX6 285 yX6_sideOf, Cond.instanceMethod yX6_sideOf, Cond.selects RX6 yX6_sideOf yX6_sideOf, Cond.code yX6_sideOf cX6_sideOf 2 (some .int), Cond.fieldLink RX6 68 "TarockHall" "partner" "I", Cond.methodLink RL 71 yX6_declarer, Cond.instanceMethod yX6_declarer, Cond.selects RX6 yX6_declarer yX6_declarer, Cond.code yX6_declarer cX6_declarer 1 (some .int), Cond.methodLink RL 34 yX6_phase, Cond.instanceMethod yX6_phase]
def wsL_areSides_r4 : List Cond := [Cond.selects RX6 yX6_phase yX6_phase, Cond.code yX6_phase cX6_phase 1 (some .int), Cond.methodLink RL 74 yX6_partner, Cond.instanceMethod yX6_partner, Cond.selects RX6 yX6_partner yX6_partner, Cond.code yX6_partner cX6_partner 1 (some .int), Cond.methodLink RL 77 yX6_called, Cond.instanceMethod yX6_called, Cond.selects RX6 yX6_called yX6_called, Cond.code yX6_called cX6_called 1 (some .int), Cond.methodLink RL 80 yX6_level, Cond.instanceMethod yX6_level, Cond.selects RX6 yX6_level yX6_level, Cond.code yX6_level cX6_level 1 (some .int), Cond.fieldLink RX6 19 "TarockHall" "bidding" "LTarockHall$Bidding;"]
def wsL_areSides : List Cond := .code yL_areSides cL_areSides 7 (some .boolean) :: ((wsL_areSides_r1 ++ (wsL_areSides_r2 ++ (wsL_areSides_r3 ++ wsL_areSides_r4))) ++ wsX60 ++ wsX30 ++ wsX00 ++ (vx_atS RX6 130 "java/lang/IndexOutOfBoundsException" ["java/lang/RuntimeException", "java/lang/Exception"]).filter goodWord)
def wsL_wins : List Cond := .code yL_wins cL_wins 9 (some .int) :: ([.methodLink RL 51 yL_suit, .static yL_suit, .initialized RL, .code yL_suit cL_suit 1 (some .int)])
def wsL_drawn : List Cond := .code yL_drawn cL_drawn 5 (some .int) :: ([.methodLink RL 54 yL_has, .static yL_has, .initialized RL, .code yL_has cL_has 3 (some .boolean)])
def wsL_isPlayed_r1 : List Cond := [Cond.methodLink RL 45 yX6_turn, Cond.instanceMethod yX6_turn, Cond.selects RX6 yX6_turn yX6_turn, Cond.initialized RX6, Cond.code yX6_turn cX6_turn 1 (some .int), Cond.fieldLink RX6 56 "TarockHall" "turn" "I", Cond.methodLink RL 42 yX6_inTrick, Cond.instanceMethod yX6_inTrick, Cond.selects RX6 yX6_inTrick yX6_inTrick, Cond.code yX6_inTrick cX6_inTrick 1 (some .int), Cond.fieldLink RX6 26 "TarockHall" "trick" "LTarockHall$Trick;", Cond.methodLink RL 58 yX6_tricks, Cond.instanceMethod yX6_tricks, Cond.selects RX6 yX6_tricks yX6_tricks, Cond.code yX6_tricks cX6_tricks 1 (some .int), Cond.fieldLink RX6 199 "TarockHall" "tricks" "I", Cond.methodLink RL 24 yX6_hand, Cond.instanceMethod yX6_hand, Cond.selects RX6 yX6_hand yX6_hand, Cond.code yX6_hand cX6_hand 2 (some .long), Cond.classLink RX6 126 "java/lang/IndexOutOfBoundsException", Cond.initialized "java/lang/IndexOutOfBoundsException", Cond.fieldLink RX6 42 "TarockHall" "hands" "LTarockHall$Sets;", Cond.methodLink RX6 239 yX6_isPlayer]
def wsL_isPlayed_r2 : List Cond := [Cond.static yX6_isPlayer, Cond.code yX6_isPlayer cX6_isPlayer 1 (some .boolean), Cond.methodLink RX6 154 yX3_at, Cond.instanceMethod yX3_at, Cond.selects RX3 yX3_at yX3_at, Cond.initialized RX3, Cond.code yX3_at cX3_at 2 (some .long), Cond.fieldLink RX3 13 "TarockHall$Sets" "items" "[J", Cond.methodLink RL 83 yL_drawn, Cond.static yL_drawn, Cond.initialized RL, Cond.code yL_drawn cL_drawn 5 (some .int), Cond.methodLink RL 54 yL_has, Cond.static yL_has, Cond.code yL_has cL_has 3 (some .boolean), Cond.methodLink RL 38 yX6_canPlay, Cond.instanceMethod yX6_canPlay, Cond.selects RX6 yX6_canPlay yX6_canPlay, Cond.code yX6_canPlay cX6_canPlay 2 (some .boolean), Cond.methodLink RX6 171 yX6_isCard, Cond.static yX6_isCard, Cond.code yX6_isCard cX6_isCard 1 (some .boolean), Cond.methodLink RX6 222 yX6_playableNow, Cond.instanceMethod yX6_playableNow]
def wsL_isPlayed_r3 : List Cond := [Cond.selects RX6 yX6_playableNow yX6_playableNow, Cond.code yX6_playableNow cX6_playableNow 1 (some .long), Cond.fieldLink RX6 53 "TarockHall" "phase" "I", Cond.methodLink RX6 337 yX5_ledSuit, Cond.instanceMethod yX5_ledSuit, Cond.selects RX5 yX5_ledSuit yX5_ledSuit, Cond.initialized RX5, Cond.code yX5_ledSuit cX5_ledSuit 1 (some .int), Cond.fieldLink RX5 24 "TarockHall$Trick" "size" "I", Cond.fieldLink RX5 14 "TarockHall$Trick" "cards" "LTarockHall$Row;", Cond.methodLink RX5 31 yX2_at, Cond.instanceMethod yX2_at, Cond.selects RX2 yX2_at yX2_at, Cond.initialized RX2, Cond.code yX2_at cX2_at 2 (some .int), Cond.fieldLink RX2 15 "TarockHall$Row" "items" "[I", Cond.static yX6_suitOf, Cond.code yX6_suitOf cX6_suitOf 1 (some .int), Cond.methodLink RX6 340 yX6_playableOf, Cond.static yX6_playableOf, Cond.code yX6_playableOf cX6_playableOf 7 (some .long), Cond.methodLink RX6 359 yX6_cardsOfSuit, Cond.static yX6_cardsOfSuit, Cond.code yX6_cardsOfSuit cX6_cardsOfSuit 5 (some .long)]
def wsL_isPlayed_r4 : List Cond := [Cond.constantLong RX6 355 (-4294967296), Cond.constantLong RX6 357 (255), Cond.methodLink RX6 179 yX6_holds, Cond.static yX6_holds, Cond.code yX6_holds cX6_holds 3 (some .boolean), Cond.methodLink RL 48 yX6_trickAt, Cond.instanceMethod yX6_trickAt, Cond.selects RX6 yX6_trickAt yX6_trickAt, Cond.code yX6_trickAt cX6_trickAt 2 (some .int), Cond.methodLink RX6 253 yX5_cardAt, Cond.instanceMethod yX5_cardAt, Cond.selects RX5 yX5_cardAt yX5_cardAt, Cond.code yX5_cardAt cX5_cardAt 2 (some .int), Cond.methodLink RL 61 yX6_thirds, Cond.instanceMethod yX6_thirds, Cond.selects RX6 yX6_thirds yX6_thirds, Cond.code yX6_thirds cX6_thirds 2 (some .int), Cond.fieldLink RX6 46 "TarockHall" "piles" "LTarockHall$Sets;", Cond.methodLink RX6 257 yX6_isSide, Cond.static yX6_isSide, Cond.code yX6_isSide cX6_isSide 1 (some .boolean), Cond.methodLink RX6 262 yX6_thirdsOf, Cond.static yX6_thirdsOf, Cond.code yX6_thirdsOf cX6_thirdsOf 4 (some .int)]
def wsL_isPlayed_r5 : List Cond := [Cond.methodLink RX6 254 yX6_worth, Cond.static yX6_worth, Cond.code yX6_worth cX6_worth 2 (some .int), Cond.methodLink RX6 344 yX6_suitOf, Cond.methodLink RL 87 yL_plays, Cond.static yL_plays, Cond.codeWith yL_plays cL_plays 3 (some .int) [(0, 5, 6, 13)], Cond.classLink RL 13 "java/lang/IllegalStateException", Cond.methodLink RL 21 yX6_play, Cond.instanceMethod yX6_play, Cond.selects RX6 yX6_play yX6_play, Cond.code yX6_play cX6_play 2 (some .int), Cond.classLink RX6 79 "java/lang/IllegalStateException", Cond.initialized "java/lang/IllegalStateException", Cond.methodLink RX6 228 yX6_addToTrick, Cond.instanceMethod yX6_addToTrick, Cond.selects RX6 yX6_addToTrick yX6_addToTrick, Cond.code yX6_addToTrick cX6_addToTrick 3 (some .int), Cond.constantLong RX6 166 (-1), Cond.methodLink RX6 188 yX6_only, Cond.static yX6_only, Cond.code yX6_only cX6_only 1 (some .long), Cond.methodLink RX6 158 yX3_put, Cond.instanceMethod yX3_put]
def wsL_isPlayed_r6 : List Cond := [Cond.selects RX3 yX3_put yX3_put, Cond.code yX3_put cX3_put 4 none, Cond.methodLink RX6 297 yX5_add, Cond.instanceMethod yX5_add, Cond.selects RX5 yX5_add yX5_add, Cond.code yX5_add cX5_add 2 none, Cond.methodLink RX5 27 yX2_put, Cond.instanceMethod yX2_put, Cond.selects RX2 yX2_put yX2_put, Cond.code yX2_put cX2_put 3 none, Cond.methodLink RX6 84 yX6_behind, Cond.static yX6_behind, Cond.code yX6_behind cX6_behind 1 (some .int), Cond.methodLink RX6 300 yX5_winner, Cond.instanceMethod yX5_winner, Cond.selects RX5 yX5_winner yX5_winner, Cond.code yX5_winner cX5_winner 3 (some .int), Cond.methodLink RX5 45 yX5_beats, Cond.static yX5_beats, Cond.code yX5_beats cX5_beats 3 (some .boolean), Cond.methodLink RX5 42 yX5_playerAt, Cond.instanceMethod yX5_playerAt, Cond.selects RX5 yX5_playerAt yX5_playerAt, Cond.code yX5_playerAt cX5_playerAt 2 (some .int)]
def wsL_isPlayed_r7 : List Cond := [Cond.fieldLink RX5 20 "TarockHall$Trick" "leader" "I", Cond.methodLink RX6 303 yX6_endTrick, Cond.instanceMethod yX6_endTrick, Cond.selects RX6 yX6_endTrick yX6_endTrick, Cond.code yX6_endTrick cX6_endTrick 3 none, Cond.methodLink RX6 285 yX6_sideOf, Cond.instanceMethod yX6_sideOf, Cond.selects RX6 yX6_sideOf yX6_sideOf, Cond.code yX6_sideOf cX6_sideOf 2 (some .int), Cond.fieldLink RX6 59 "TarockHall" "declarer" "I", Cond.fieldLink RX6 68 "TarockHall" "partner" "I", Cond.methodLink RX6 306 yX5_cardSet, Cond.instanceMethod yX5_cardSet, Cond.selects RX5 yX5_cardSet yX5_cardSet, Cond.code yX5_cardSet cX5_cardSet 4 (some .long), Cond.methodLink RX6 309 yX6_enterResult, Cond.instanceMethod yX6_enterResult, Cond.selects RX6 yX6_enterResult yX6_enterResult, Cond.code yX6_enterResult cX6_enterResult 5 none, Cond.fieldLink RX6 19 "TarockHall" "bidding" "LTarockHall$Bidding;", Cond.fieldLink RX6 33 "TarockHall" "sheet" "LTarockHall$Sheet;", Cond.methodLink RX6 312 yX6_gamePoints, Cond.static yX6_gamePoints, Cond.code yX6_gamePoints cX6_gamePoints 3 (some .int)]
def wsL_isPlayed_r8 : List Cond := [Cond.methodLink RX6 350 Lib.Math.abs.name, Cond.static Lib.Math.abs.name, Cond.initialized "java/lang/Math", Cond.code Lib.Math.abs.name Lib.Math.abs.code 1 (some .int), Cond.methodLink RX6 347 yX6_basePoints, Cond.static yX6_basePoints, Cond.code yX6_basePoints cX6_basePoints 1 (some .int), Cond.methodLink RX6 322 yX6_isWon, Cond.static yX6_isWon, Cond.code yX6_isWon cX6_isWon 1 (some .boolean), Cond.methodLink RX6 316 yX6_pagatPoints, Cond.instanceMethod yX6_pagatPoints, Cond.selects RX6 yX6_pagatPoints yX6_pagatPoints, Cond.code yX6_pagatPoints cX6_pagatPoints 5 (some .int), Cond.methodLink RX6 331 yX5_playerOf, Cond.instanceMethod yX5_playerOf, Cond.selects RX5 yX5_playerOf yX5_playerOf, Cond.code yX5_playerOf cX5_playerOf 3 (some .int), Cond.methodLink RX6 207 yX6_isAnnounced, Cond.instanceMethod yX6_isAnnounced, Cond.selects RX6 yX6_isAnnounced yX6_isAnnounced, Cond.code yX6_isAnnounced cX6_isAnnounced 2 (some .boolean), Cond.fieldLink RX6 214 "TarockHall" "announced" "I", Cond.methodLink RX6 319 yX6_kingPoints]
def wsL_isPlayed_r9 : List Cond := [Cond.instanceMethod yX6_kingPoints, Cond.selects RX6 yX6_kingPoints yX6_kingPoints, Cond.code yX6_kingPoints cX6_kingPoints 4 (some .int), Cond.fieldLink RX6 62 "TarockHall" "called" "I", Cond.methodLink RX6 133 yX6_calledKing, Cond.instanceMethod yX6_calledKing, Cond.selects RX6 yX6_calledKing yX6_calledKing, Cond.code yX6_calledKing cX6_calledKing 1 (some .int), Cond.methodLink RX6 325 yX4_enter, Cond.instanceMethod yX4_enter, Cond.selects RX4 yX4_enter yX4_enter, Cond.initialized RX4, Cond.code yX4_enter cX4_enter 6 none, Cond.fieldLink RX4 20 "TarockHall$Sheet" "radli" "LTarockHall$Row;", Cond.fieldLink RX4 27 "TarockHall$Sheet" "latest" "I", Cond.methodLink RX4 23 yX2_at, Cond.methodLink RX4 31 yX2_put, Cond.methodLink RX4 35 yX4_addScore, Cond.instanceMethod yX4_addScore, Cond.selects RX4 yX4_addScore yX4_addScore, Cond.code yX4_addScore cX4_addScore 2 none, Cond.fieldLink RX4 14 "TarockHall$Sheet" "scores" "LTarockHall$Row;", Cond.methodLink RX6 328 yX4_giveRadli, Cond.instanceMethod yX4_giveRadli]
def wsL_isPlayed_r10 : List Cond := [Cond.selects RX4 yX4_giveRadli yX4_giveRadli, Cond.code yX4_giveRadli cX4_giveRadli 2 none, Cond.methodLink RX6 114 yX6_endDeal, Cond.instanceMethod yX6_endDeal, Cond.selects RX6 yX6_endDeal yX6_endDeal, Cond.code yX6_endDeal cX6_endDeal 1 none, Cond.methodLink RX6 291 yX5_begin, Cond.instanceMethod yX5_begin, Cond.selects RX5 yX5_begin yX5_begin, Cond.code yX5_begin cX5_begin 2 none, Cond.methodLink RL 91 yX6_valueOf, Cond.instanceMethod yX6_valueOf, Cond.selects RX6 yX6_valueOf yX6_valueOf, Cond.code yX6_valueOf cX6_valueOf 2 (some .int), Cond.methodLink RL 94 yL_wins, Cond.static yL_wins, Cond.code yL_wins cL_wins 9 (some .int), Cond.methodLink RL 51 yL_suit, Cond.static yL_suit, Cond.code yL_suit cL_suit 1 (some .int)]
def wsL_isPlayed : List Cond := .code yL_isPlayed cL_isPlayed 16 (some .boolean) :: ((wsL_isPlayed_r1 ++ (wsL_isPlayed_r2 ++ (wsL_isPlayed_r3 ++ (wsL_isPlayed_r4 ++ (wsL_isPlayed_r5 ++ (wsL_isPlayed_r6 ++ (wsL_isPlayed_r7 ++ (wsL_isPlayed_r8 ++ (wsL_isPlayed_r9 ++ wsL_isPlayed_r10))))))))) ++ wsX60 ++ wsX50 ++ wsX30 ++ wsX20 ++ wsX00 ++ wsX40 ++ (vx_atS RX6 130 "java/lang/IndexOutOfBoundsException" ["java/lang/RuntimeException", "java/lang/Exception"]).filter goodWord ++ (vx_atS RX6 83 "java/lang/IllegalStateException" ["java/lang/RuntimeException", "java/lang/Exception"]).filter goodWord)
def wsL_isScored_r1 : List Cond := [Cond.methodLink RL 98 yX6_result, Cond.instanceMethod yX6_result, Cond.selects RX6 yX6_result yX6_result, Cond.initialized RX6, Cond.code yX6_result cX6_result 1 (some .int), Cond.fieldLink RX6 33 "TarockHall" "sheet" "LTarockHall$Sheet;", Cond.methodLink RL 71 yX6_declarer, Cond.instanceMethod yX6_declarer, Cond.selects RX6 yX6_declarer yX6_declarer, Cond.code yX6_declarer cX6_declarer 1 (some .int), Cond.fieldLink RX6 59 "TarockHall" "declarer" "I", Cond.methodLink RL 74 yX6_partner, Cond.instanceMethod yX6_partner, Cond.selects RX6 yX6_partner yX6_partner, Cond.code yX6_partner cX6_partner 1 (some .int), Cond.fieldLink RX6 68 "TarockHall" "partner" "I", Cond.methodLink RL 101 yX6_score, Cond.instanceMethod yX6_score, Cond.selects RX6 yX6_score yX6_score, Cond.code yX6_score cX6_score 2 (some .int), Cond.classLink RX6 126 "java/lang/IndexOutOfBoundsException", Cond.initialized "java/lang/IndexOutOfBoundsException", Cond.methodLink RX6 239 yX6_isPlayer, Cond.static yX6_isPlayer]
def wsL_isScored_r2 : List Cond := [Cond.code yX6_isPlayer cX6_isPlayer 1 (some .boolean), Cond.methodLink RX6 272 yX2_at, Cond.instanceMethod yX2_at, Cond.selects RX2 yX2_at yX2_at, Cond.initialized RX2, Cond.code yX2_at cX2_at 2 (some .int), Cond.fieldLink RX2 15 "TarockHall$Row" "items" "[I", Cond.methodLink RL 61 yX6_thirds, Cond.instanceMethod yX6_thirds, Cond.selects RX6 yX6_thirds yX6_thirds, Cond.code yX6_thirds cX6_thirds 2 (some .int), Cond.fieldLink RX6 46 "TarockHall" "piles" "LTarockHall$Sets;", Cond.methodLink RX6 257 yX6_isSide, Cond.static yX6_isSide, Cond.code yX6_isSide cX6_isSide 1 (some .boolean), Cond.methodLink RX6 154 yX3_at, Cond.instanceMethod yX3_at, Cond.selects RX3 yX3_at yX3_at, Cond.initialized RX3, Cond.code yX3_at cX3_at 2 (some .long), Cond.fieldLink RX3 13 "TarockHall$Sets" "items" "[J", Cond.methodLink RX6 262 yX6_thirdsOf, Cond.static yX6_thirdsOf, Cond.code yX6_thirdsOf cX6_thirdsOf 4 (some .int)]
def wsL_isScored_r3 : List Cond := [Cond.methodLink RX6 179 yX6_holds, Cond.static yX6_holds, Cond.code yX6_holds cX6_holds 3 (some .boolean), Cond.methodLink RX6 254 yX6_worth, Cond.static yX6_worth, Cond.code yX6_worth cX6_worth 2 (some .int), Cond.methodLink RX6 344 yX6_suitOf, Cond.static yX6_suitOf, Cond.code yX6_suitOf cX6_suitOf 1 (some .int), Cond.methodLink RL 80 yX6_level, Cond.instanceMethod yX6_level, Cond.selects RX6 yX6_level yX6_level, Cond.code yX6_level cX6_level 1 (some .int), Cond.fieldLink RX6 19 "TarockHall" "bidding" "LTarockHall$Bidding;", Cond.methodLink RL 104 yX6_radli, Cond.instanceMethod yX6_radli, Cond.selects RX6 yX6_radli yX6_radli, Cond.code yX6_radli cX6_radli 2 (some .int)]
def wsL_isScored : List Cond := .code yL_isScored cL_isScored 12 (some .boolean) :: ((wsL_isScored_r1 ++ (wsL_isScored_r2 ++ wsL_isScored_r3)) ++ wsX60 ++ wsX40 ++ wsX20 ++ wsX30 ++ wsX00 ++ (vx_atS RX6 130 "java/lang/IndexOutOfBoundsException" ["java/lang/RuntimeException", "java/lang/Exception"]).filter goodWord)
def wsL_law0_r1 : List Cond := [Cond.classLink RL 8 RX6, Cond.instantiable RX6 18, Cond.initialized RX6, Cond.arrayClass .int, Cond.constant RL 115 (810013), Cond.constant RL 116 (268435455), Cond.constant RL 117 (65535), Cond.methodLink RL 107 yX6_init, Cond.instanceMethod yX6_init, Cond.code yX6_init cX6_init 1 none, Cond.methodLink RX6 3 objectInit, Cond.instanceMethod objectInit, Cond.code objectInit ⟨#[0xb1]⟩ 1 none, Cond.classLink RX6 9 RX1, Cond.instantiable RX1 1, Cond.initialized RX1, Cond.fieldLink RX6 12 "TarockHall" "deck" "LTarockHall$Deck;", Cond.classLink RX6 16 RX0, Cond.instantiable RX0 3, Cond.initialized RX0, Cond.fieldLink RX6 19 "TarockHall" "bidding" "LTarockHall$Bidding;", Cond.classLink RX6 23 RX5, Cond.instantiable RX5 3, Cond.initialized RX5]
def wsL_law0_r2 : List Cond := [Cond.fieldLink RX6 26 "TarockHall" "trick" "LTarockHall$Trick;", Cond.classLink RX6 30 RX4, Cond.instantiable RX4 3, Cond.initialized RX4, Cond.fieldLink RX6 33 "TarockHall" "sheet" "LTarockHall$Sheet;", Cond.classLink RX6 37 RX3, Cond.instantiable RX3 1, Cond.initialized RX3, Cond.fieldLink RX6 42 "TarockHall" "hands" "LTarockHall$Sets;", Cond.fieldLink RX6 46 "TarockHall" "piles" "LTarockHall$Sets;", Cond.fieldLink RX6 49 "TarockHall" "forehand" "I", Cond.fieldLink RX6 53 "TarockHall" "phase" "I", Cond.fieldLink RX6 56 "TarockHall" "turn" "I", Cond.fieldLink RX6 59 "TarockHall" "declarer" "I", Cond.fieldLink RX6 62 "TarockHall" "called" "I", Cond.fieldLink RX6 65 "TarockHall" "kingOwner" "I", Cond.fieldLink RX6 68 "TarockHall" "partner" "I", Cond.methodLink RX6 11 yX1_init, Cond.instanceMethod yX1_init, Cond.code yX1_init cX1_init 1 none, Cond.methodLink RX1 3 objectInit, Cond.classLink RX1 9 RX2, Cond.instantiable RX2 1, Cond.initialized RX2]
def wsL_law0_r3 : List Cond := [Cond.fieldLink RX1 14 "TarockHall$Deck" "row" "LTarockHall$Row;", Cond.methodLink RX1 11 yX2_init, Cond.instanceMethod yX2_init, Cond.code yX2_init cX2_init 2 none, Cond.methodLink RX2 3 objectInit, Cond.methodLink RX2 9 Lib.Math.max.name, Cond.static Lib.Math.max.name, Cond.initialized "java/lang/Math", Cond.code Lib.Math.max.name Lib.Math.max.code 2 (some .int), Cond.fieldLink RX2 15 "TarockHall$Row" "items" "[I", Cond.methodLink RX6 18 yX0_init, Cond.instanceMethod yX0_init, Cond.code yX0_init cX0_init 1 none, Cond.methodLink RX0 3 objectInit, Cond.fieldLink RX0 9 "TarockHall$Bidding" "bidder" "I", Cond.methodLink RX6 25 yX5_init, Cond.instanceMethod yX5_init, Cond.code yX5_init cX5_init 1 none, Cond.methodLink RX5 3 objectInit, Cond.classLink RX5 9 RX2, Cond.fieldLink RX5 14 "TarockHall$Trick" "cards" "LTarockHall$Row;", Cond.methodLink RX5 11 yX2_init, Cond.methodLink RX6 32 yX4_init, Cond.instanceMethod yX4_init]
def wsL_law0_r4 : List Cond := [Cond.code yX4_init cX4_init 1 none, Cond.methodLink RX4 3 objectInit, Cond.classLink RX4 9 RX2, Cond.fieldLink RX4 14 "TarockHall$Sheet" "scores" "LTarockHall$Row;", Cond.fieldLink RX4 20 "TarockHall$Sheet" "radli" "LTarockHall$Row;", Cond.methodLink RX4 11 yX2_init, Cond.methodLink RX6 39 yX3_init, Cond.instanceMethod yX3_init, Cond.code yX3_init cX3_init 2 none, Cond.methodLink RX3 1 objectInit, Cond.methodLink RX3 7 Lib.Math.max.name, Cond.arrayClass .long, Cond.fieldLink RX3 13 "TarockHall$Sets" "items" "[J", Cond.methodLink RL 108 yL_areHands, Cond.static yL_areHands, Cond.initialized RL, Cond.code yL_areHands cL_areHands 13 (some .boolean), Cond.methodLink RL 24 yX6_hand, Cond.instanceMethod yX6_hand, Cond.selects RX6 yX6_hand yX6_hand, Cond.code yX6_hand cX6_hand 2 (some .long), Cond.classLink RX6 126 "java/lang/IndexOutOfBoundsException", Cond.initialized "java/lang/IndexOutOfBoundsException", Cond.methodLink RX6 239 yX6_isPlayer]
def wsL_law0_r5 : List Cond := [Cond.static yX6_isPlayer, Cond.code yX6_isPlayer cX6_isPlayer 1 (some .boolean), Cond.methodLink RX6 154 yX3_at, Cond.instanceMethod yX3_at, Cond.selects RX3 yX3_at yX3_at, Cond.code yX3_at cX3_at 2 (some .long), Cond.methodLink RL 28 yL_bits, Cond.static yL_bits, Cond.code yL_bits cL_bits 4 (some .int), Cond.methodLink RL 34 yX6_phase, Cond.instanceMethod yX6_phase, Cond.selects RX6 yX6_phase yX6_phase, Cond.code yX6_phase cX6_phase 1 (some .int), Cond.methodLink RL 38 yX6_canPlay, Cond.instanceMethod yX6_canPlay, Cond.selects RX6 yX6_canPlay yX6_canPlay, Cond.code yX6_canPlay cX6_canPlay 2 (some .boolean), Cond.methodLink RX6 171 yX6_isCard, Cond.static yX6_isCard, Cond.code yX6_isCard cX6_isCard 1 (some .boolean), Cond.methodLink RX6 222 yX6_playableNow, Cond.instanceMethod yX6_playableNow, Cond.selects RX6 yX6_playableNow yX6_playableNow, Cond.code yX6_playableNow cX6_playableNow 1 (some .long)]
def wsL_law0_r6 : List Cond := [Cond.methodLink RX6 337 yX5_ledSuit, Cond.instanceMethod yX5_ledSuit, Cond.selects RX5 yX5_ledSuit yX5_ledSuit, Cond.code yX5_ledSuit cX5_ledSuit 1 (some .int), Cond.fieldLink RX5 24 "TarockHall$Trick" "size" "I", Cond.methodLink RX5 31 yX2_at, Cond.instanceMethod yX2_at, Cond.selects RX2 yX2_at yX2_at, Cond.code yX2_at cX2_at 2 (some .int), Cond.static yX6_suitOf, Cond.code yX6_suitOf cX6_suitOf 1 (some .int), Cond.methodLink RX6 340 yX6_playableOf, Cond.static yX6_playableOf, Cond.code yX6_playableOf cX6_playableOf 7 (some .long), Cond.methodLink RX6 359 yX6_cardsOfSuit, Cond.static yX6_cardsOfSuit, Cond.code yX6_cardsOfSuit cX6_cardsOfSuit 5 (some .long), Cond.constantLong RX6 355 (-4294967296), Cond.constantLong RX6 357 (255), Cond.methodLink RX6 179 yX6_holds, Cond.static yX6_holds, Cond.code yX6_holds cX6_holds 3 (some .boolean), Cond.methodLink RL 42 yX6_inTrick, Cond.instanceMethod yX6_inTrick]
def wsL_law0_r7 : List Cond := [Cond.selects RX6 yX6_inTrick yX6_inTrick, Cond.code yX6_inTrick cX6_inTrick 1 (some .int), Cond.methodLink RL 45 yX6_turn, Cond.instanceMethod yX6_turn, Cond.selects RX6 yX6_turn yX6_turn, Cond.code yX6_turn cX6_turn 1 (some .int), Cond.methodLink RL 48 yX6_trickAt, Cond.instanceMethod yX6_trickAt, Cond.selects RX6 yX6_trickAt yX6_trickAt, Cond.code yX6_trickAt cX6_trickAt 2 (some .int), Cond.methodLink RX6 253 yX5_cardAt, Cond.instanceMethod yX5_cardAt, Cond.selects RX5 yX5_cardAt yX5_cardAt, Cond.code yX5_cardAt cX5_cardAt 2 (some .int), Cond.methodLink RL 51 yL_suit, Cond.static yL_suit, Cond.code yL_suit cL_suit 1 (some .int), Cond.methodLink RL 54 yL_has, Cond.static yL_has, Cond.code yL_has cL_has 3 (some .boolean), Cond.methodLink RL 58 yX6_tricks, Cond.instanceMethod yX6_tricks, Cond.selects RX6 yX6_tricks yX6_tricks, Cond.code yX6_tricks cX6_tricks 1 (some .int)]
def wsL_law0_r8 : List Cond := [Cond.fieldLink RX6 199 "TarockHall" "tricks" "I", Cond.methodLink RL 112 yL_areSides, Cond.static yL_areSides, Cond.code yL_areSides cL_areSides 7 (some .boolean), Cond.methodLink RL 61 yX6_thirds, Cond.instanceMethod yX6_thirds, Cond.selects RX6 yX6_thirds yX6_thirds, Cond.code yX6_thirds cX6_thirds 2 (some .int), Cond.methodLink RX6 257 yX6_isSide, Cond.static yX6_isSide, Cond.code yX6_isSide cX6_isSide 1 (some .boolean), Cond.methodLink RX6 262 yX6_thirdsOf, Cond.static yX6_thirdsOf, Cond.code yX6_thirdsOf cX6_thirdsOf 4 (some .int), Cond.methodLink RX6 254 yX6_worth, Cond.static yX6_worth, Cond.code yX6_worth cX6_worth 2 (some .int), Cond.methodLink RX6 344 yX6_suitOf, Cond.methodLink RL 64 yX6_byPacks, Cond.instanceMethod yX6_byPacks, Cond.selects RX6 yX6_byPacks yX6_byPacks, Cond.code yX6_byPacks cX6_byPacks 2 (some .int), Cond.methodLink RX6 265 yX6_packPointsOf, Cond.static yX6_packPointsOf]
def wsL_law0_r9 : List Cond := [Cond.code yX6_packPointsOf cX6_packPointsOf 6 (some .int), Cond.methodLink RL 67 yX6_knows, Cond.instanceMethod yX6_knows, Cond.selects RX6 yX6_knows yX6_knows, Cond.code yX6_knows cX6_knows 4 (some .int), Cond.methodLink RX6 282 yX6_sidesAreOpen, Cond.instanceMethod yX6_sidesAreOpen, Cond.selects RX6 yX6_sidesAreOpen yX6_sidesAreOpen, Cond.code yX6_sidesAreOpen cX6_sidesAreOpen 1 (some .boolean), Cond.methodLink RX6 133 yX6_calledKing, Cond.instanceMethod yX6_calledKing, Cond.selects RX6 yX6_calledKing yX6_calledKing, Cond.code yX6_calledKing cX6_calledKing 1 (some .int), Cond.methodLink RX6 285 yX6_sideOf, Cond.instanceMethod yX6_sideOf, Cond.selects RX6 yX6_sideOf yX6_sideOf, Cond.code yX6_sideOf cX6_sideOf 2 (some .int), Cond.methodLink RL 71 yX6_declarer, Cond.instanceMethod yX6_declarer, Cond.selects RX6 yX6_declarer yX6_declarer, Cond.code yX6_declarer cX6_declarer 1 (some .int), Cond.methodLink RL 74 yX6_partner, Cond.instanceMethod yX6_partner, Cond.selects RX6 yX6_partner yX6_partner]
def wsL_law0_r10 : List Cond := [Cond.code yX6_partner cX6_partner 1 (some .int), Cond.methodLink RL 77 yX6_called, Cond.instanceMethod yX6_called, Cond.selects RX6 yX6_called yX6_called, Cond.code yX6_called cX6_called 1 (some .int), Cond.methodLink RL 80 yX6_level, Cond.instanceMethod yX6_level, Cond.selects RX6 yX6_level yX6_level, Cond.code yX6_level cX6_level 1 (some .int), Cond.methodLink RL 101 yX6_score, Cond.instanceMethod yX6_score, Cond.selects RX6 yX6_score yX6_score, Cond.code yX6_score cX6_score 2 (some .int), Cond.methodLink RX6 272 yX2_at, Cond.methodLink RL 104 yX6_radli, Cond.instanceMethod yX6_radli, Cond.selects RX6 yX6_radli yX6_radli, Cond.code yX6_radli cX6_radli 2 (some .int), Cond.methodLink RL 118 yX6_deal, Cond.instanceMethod yX6_deal, Cond.selects RX6 yX6_deal yX6_deal, Cond.code yX6_deal cX6_deal 2 (some .int), Cond.classLink RX6 72 "java/lang/IllegalArgumentException", Cond.initialized "java/lang/IllegalArgumentException"]
def wsL_law0_r11 : List Cond := [Cond.classLink RX6 79 "java/lang/IllegalStateException", Cond.initialized "java/lang/IllegalStateException", Cond.constant RX6 71 (65536), Cond.methodLink RX6 84 yX6_behind, Cond.static yX6_behind, Cond.code yX6_behind cX6_behind 1 (some .int), Cond.methodLink RX6 88 yX6_clearDeal, Cond.instanceMethod yX6_clearDeal, Cond.selects RX6 yX6_clearDeal yX6_clearDeal, Cond.code yX6_clearDeal cX6_clearDeal 1 none, Cond.fieldLink RX6 168 "TarockHall" "toLayAway" "I", Cond.fieldLink RX6 191 "TarockHall" "laidAway" "J", Cond.fieldLink RX6 214 "TarockHall" "announced" "I", Cond.methodLink RX6 288 yX0_clear, Cond.instanceMethod yX0_clear, Cond.selects RX0 yX0_clear yX0_clear, Cond.code yX0_clear cX0_clear 1 none, Cond.fieldLink RX0 15 "TarockHall$Bidding" "passed" "I", Cond.fieldLink RX0 18 "TarockHall$Bidding" "highest" "I", Cond.methodLink RX6 291 yX5_begin, Cond.instanceMethod yX5_begin, Cond.selects RX5 yX5_begin yX5_begin, Cond.code yX5_begin cX5_begin 2 none, Cond.fieldLink RX5 20 "TarockHall$Trick" "leader" "I"]
def wsL_law0_r12 : List Cond := [Cond.methodLink RX6 158 yX3_put, Cond.instanceMethod yX3_put, Cond.selects RX3 yX3_put yX3_put, Cond.code yX3_put cX3_put 4 none, Cond.methodLink RX6 91 yX1_shuffle, Cond.instanceMethod yX1_shuffle, Cond.selects RX1 yX1_shuffle yX1_shuffle, Cond.code yX1_shuffle cX1_shuffle 4 none, Cond.constant RX1 24 (65536), Cond.methodLink RX1 20 yX2_put, Cond.instanceMethod yX2_put, Cond.selects RX2 yX2_put yX2_put, Cond.code yX2_put cX2_put 3 none, Cond.methodLink RX1 25 yX1_swap, Cond.instanceMethod yX1_swap, Cond.selects RX1 yX1_swap yX1_swap, Cond.code yX1_swap cX1_swap 4 none, Cond.methodLink RX1 28 yX2_at, Cond.methodLink RX6 94 yX6_handOut, Cond.instanceMethod yX6_handOut, Cond.selects RX6 yX6_handOut yX6_handOut, Cond.code yX6_handOut cX6_handOut 3 none, Cond.fieldLink RX6 162 "TarockHall" "restOfTalon" "J", Cond.methodLink RX6 150 yX1_cardsFrom]
def wsL_law0_r13 : List Cond := [Cond.instanceMethod yX1_cardsFrom, Cond.selects RX1 yX1_cardsFrom yX1_cardsFrom, Cond.code yX1_cardsFrom cX1_cardsFrom 6 (some .long), Cond.static yX6_only, Cond.code yX6_only cX6_only 1 (some .long), Cond.methodLink RL 121 yX6_talonAt, Cond.instanceMethod yX6_talonAt, Cond.selects RX6 yX6_talonAt yX6_talonAt, Cond.code yX6_talonAt cX6_talonAt 2 (some .int), Cond.methodLink RX6 248 yX1_cardAt, Cond.instanceMethod yX1_cardAt, Cond.selects RX1 yX1_cardAt yX1_cardAt, Cond.code yX1_cardAt cX1_cardAt 2 (some .int), Cond.methodLink RL 124 yL_bids, Cond.static yL_bids, Cond.codeWith yL_bids cL_bids 3 (some .int) [(0, 5, 6, 13)], Cond.classLink RL 13 "java/lang/IllegalStateException", Cond.methodLink RL 7 yX6_bid, Cond.instanceMethod yX6_bid, Cond.selects RX6 yX6_bid yX6_bid, Cond.code yX6_bid cX6_bid 2 (some .int), Cond.methodLink RX6 106 yX0_enter, Cond.instanceMethod yX0_enter, Cond.selects RX0 yX0_enter yX0_enter]
def wsL_law0_r14 : List Cond := [Cond.code yX0_enter cX0_enter 3 none, Cond.methodLink RX6 110 yX0_allPassed, Cond.instanceMethod yX0_allPassed, Cond.selects RX0 yX0_allPassed yX0_allPassed, Cond.code yX0_allPassed cX0_allPassed 1 (some .boolean), Cond.methodLink RX0 21 yJ6_bitCount_0f7a4, Cond.static yJ6_bitCount_0f7a4, Cond.initialized RJ6, Cond.code yJ6_bitCount_0f7a4 cJ6_bitCount_0f7a4 1 (some .int), Cond.constant RJ6 265 (1431655765), Cond.constant RJ6 266 (858993459), Cond.constant RJ6 267 (252645135), Cond.methodLink RX6 114 yX6_endDeal, Cond.instanceMethod yX6_endDeal, Cond.selects RX6 yX6_endDeal yX6_endDeal, Cond.code yX6_endDeal cX6_endDeal 1 none, Cond.methodLink RX6 117 yX0_isSettled, Cond.instanceMethod yX0_isSettled, Cond.selects RX0 yX0_isSettled yX0_isSettled, Cond.code yX0_isSettled cX0_isSettled 1 (some .boolean), Cond.methodLink RX6 120 yX6_beginGame, Cond.instanceMethod yX6_beginGame, Cond.selects RX6 yX6_beginGame yX6_beginGame, Cond.code yX6_beginGame cX6_beginGame 1 none]
def wsL_law0_r15 : List Cond := [Cond.methodLink RX6 194 yX6_beginPlay, Cond.instanceMethod yX6_beginPlay, Cond.selects RX6 yX6_beginPlay yX6_beginPlay, Cond.code yX6_beginPlay cX6_beginPlay 1 none, Cond.methodLink RX6 123 yX0_nextBehind, Cond.instanceMethod yX0_nextBehind, Cond.selects RX0 yX0_nextBehind yX0_nextBehind, Cond.code yX0_nextBehind cX0_nextBehind 4 (some .int), Cond.methodLink RX0 30 yX0_hasPassed, Cond.instanceMethod yX0_hasPassed, Cond.selects RX0 yX0_hasPassed yX0_hasPassed, Cond.code yX0_hasPassed cX0_hasPassed 2 (some .boolean), Cond.methodLink RL 127 yX6_call, Cond.instanceMethod yX6_call, Cond.selects RX6 yX6_call yX6_call, Cond.code yX6_call cX6_call 2 (some .int), Cond.methodLink RX6 137 yX6_ownerOf, Cond.instanceMethod yX6_ownerOf, Cond.selects RX6 yX6_ownerOf yX6_ownerOf, Cond.code yX6_ownerOf cX6_ownerOf 3 (some .int), Cond.methodLink RL 130 yX6_take, Cond.instanceMethod yX6_take, Cond.selects RX6 yX6_take yX6_take, Cond.code yX6_take cX6_take 5 (some .int)]
def wsL_law0_r16 : List Cond := [Cond.constantLong RX6 166 (-1), Cond.methodLink RX6 140 yX6_groupsNow, Cond.instanceMethod yX6_groupsNow, Cond.selects RX6 yX6_groupsNow yX6_groupsNow, Cond.code yX6_groupsNow cX6_groupsNow 1 (some .int), Cond.methodLink RX6 334 yX6_groupsAt, Cond.static yX6_groupsAt, Cond.code yX6_groupsAt cX6_groupsAt 1 (some .int), Cond.methodLink RX6 147 yX6_groupSize, Cond.static yX6_groupSize, Cond.code yX6_groupSize cX6_groupSize 1 (some .int), Cond.methodLink RL 83 yL_drawn, Cond.static yL_drawn, Cond.code yL_drawn cL_drawn 5 (some .int), Cond.methodLink RL 133 yL_lays, Cond.static yL_lays, Cond.codeWith yL_lays cL_lays 3 (some .int) [(0, 5, 6, 13)], Cond.methodLink RL 15 yX6_discard, Cond.instanceMethod yX6_discard, Cond.selects RX6 yX6_discard yX6_discard, Cond.code yX6_discard cX6_discard 4 (some .int), Cond.methodLink RX6 183 yX6_canBeLaidAway, Cond.static yX6_canBeLaidAway, Cond.code yX6_canBeLaidAway cX6_canBeLaidAway 1 (some .boolean)]
def wsL_law0_r17 : List Cond := [Cond.methodLink RX6 188 yX6_only, Cond.methodLink RL 91 yX6_valueOf, Cond.instanceMethod yX6_valueOf, Cond.selects RX6 yX6_valueOf yX6_valueOf, Cond.code yX6_valueOf cX6_valueOf 2 (some .int), Cond.methodLink RL 136 yL_announces, Cond.static yL_announces, Cond.codeWith yL_announces cL_announces 3 (some .int) [(0, 5, 6, 13)], Cond.methodLink RL 18 yX6_announce, Cond.instanceMethod yX6_announce, Cond.selects RX6 yX6_announce yX6_announce, Cond.code yX6_announce cX6_announce 2 (some .int), Cond.methodLink RX6 207 yX6_isAnnounced, Cond.instanceMethod yX6_isAnnounced, Cond.selects RX6 yX6_isAnnounced yX6_isAnnounced, Cond.code yX6_isAnnounced cX6_isAnnounced 2 (some .boolean), Cond.methodLink RX6 217 yJ6_bitCount_0f7a4, Cond.methodLink RL 139 yX6_playLowest, Cond.instanceMethod yX6_playLowest, Cond.selects RX6 yX6_playLowest yX6_playLowest, Cond.code yX6_playLowest cX6_playLowest 4 (some .int), Cond.methodLink RX6 235 yX6_lowestOf, Cond.static yX6_lowestOf, Cond.code yX6_lowestOf cX6_lowestOf 3 (some .int)]
def wsL_law0_r18 : List Cond := [Cond.methodLink RX6 228 yX6_addToTrick, Cond.instanceMethod yX6_addToTrick, Cond.selects RX6 yX6_addToTrick yX6_addToTrick, Cond.code yX6_addToTrick cX6_addToTrick 3 (some .int), Cond.methodLink RX6 297 yX5_add, Cond.instanceMethod yX5_add, Cond.selects RX5 yX5_add yX5_add, Cond.code yX5_add cX5_add 2 none, Cond.methodLink RX5 27 yX2_put, Cond.methodLink RX6 300 yX5_winner, Cond.instanceMethod yX5_winner, Cond.selects RX5 yX5_winner yX5_winner, Cond.code yX5_winner cX5_winner 3 (some .int), Cond.methodLink RX5 45 yX5_beats, Cond.static yX5_beats, Cond.code yX5_beats cX5_beats 3 (some .boolean), Cond.methodLink RX5 42 yX5_playerAt, Cond.instanceMethod yX5_playerAt, Cond.selects RX5 yX5_playerAt yX5_playerAt, Cond.code yX5_playerAt cX5_playerAt 2 (some .int), Cond.methodLink RX6 303 yX6_endTrick, Cond.instanceMethod yX6_endTrick, Cond.selects RX6 yX6_endTrick yX6_endTrick, Cond.code yX6_endTrick cX6_endTrick 3 none]
def wsL_law0_r19 : List Cond := [Cond.methodLink RX6 306 yX5_cardSet, Cond.instanceMethod yX5_cardSet, Cond.selects RX5 yX5_cardSet yX5_cardSet, Cond.code yX5_cardSet cX5_cardSet 4 (some .long), Cond.methodLink RX6 309 yX6_enterResult, Cond.instanceMethod yX6_enterResult, Cond.selects RX6 yX6_enterResult yX6_enterResult, Cond.code yX6_enterResult cX6_enterResult 5 none, Cond.methodLink RX6 312 yX6_gamePoints, Cond.static yX6_gamePoints, Cond.code yX6_gamePoints cX6_gamePoints 3 (some .int), Cond.methodLink RX6 350 Lib.Math.abs.name, Cond.static Lib.Math.abs.name, Cond.code Lib.Math.abs.name Lib.Math.abs.code 1 (some .int), Cond.methodLink RX6 347 yX6_basePoints, Cond.static yX6_basePoints, Cond.code yX6_basePoints cX6_basePoints 1 (some .int), Cond.methodLink RX6 322 yX6_isWon, Cond.static yX6_isWon, Cond.code yX6_isWon cX6_isWon 1 (some .boolean), Cond.methodLink RX6 316 yX6_pagatPoints, Cond.instanceMethod yX6_pagatPoints, Cond.selects RX6 yX6_pagatPoints yX6_pagatPoints, Cond.code yX6_pagatPoints cX6_pagatPoints 5 (some .int)]
def wsL_law0_r20 : List Cond := [Cond.methodLink RX6 331 yX5_playerOf, Cond.instanceMethod yX5_playerOf, Cond.selects RX5 yX5_playerOf yX5_playerOf, Cond.code yX5_playerOf cX5_playerOf 3 (some .int), Cond.methodLink RX6 319 yX6_kingPoints, Cond.instanceMethod yX6_kingPoints, Cond.selects RX6 yX6_kingPoints yX6_kingPoints, Cond.code yX6_kingPoints cX6_kingPoints 4 (some .int), Cond.methodLink RX6 325 yX4_enter, Cond.instanceMethod yX4_enter, Cond.selects RX4 yX4_enter yX4_enter, Cond.code yX4_enter cX4_enter 6 none, Cond.fieldLink RX4 27 "TarockHall$Sheet" "latest" "I", Cond.methodLink RX4 23 yX2_at, Cond.methodLink RX4 31 yX2_put, Cond.methodLink RX4 35 yX4_addScore, Cond.instanceMethod yX4_addScore, Cond.selects RX4 yX4_addScore yX4_addScore, Cond.code yX4_addScore cX4_addScore 2 none, Cond.methodLink RX6 328 yX4_giveRadli, Cond.instanceMethod yX4_giveRadli, Cond.selects RX4 yX4_giveRadli yX4_giveRadli, Cond.code yX4_giveRadli cX4_giveRadli 2 none, Cond.methodLink RL 142 yL_isPlayed]
def wsL_law0_r21 : List Cond := [Cond.static yL_isPlayed, Cond.code yL_isPlayed cL_isPlayed 16 (some .boolean), Cond.methodLink RL 87 yL_plays, Cond.static yL_plays, Cond.codeWith yL_plays cL_plays 3 (some .int) [(0, 5, 6, 13)], Cond.methodLink RL 21 yX6_play, Cond.instanceMethod yX6_play, Cond.selects RX6 yX6_play yX6_play, Cond.code yX6_play cX6_play 2 (some .int), Cond.methodLink RL 94 yL_wins, Cond.static yL_wins, Cond.code yL_wins cL_wins 9 (some .int), Cond.methodLink RL 146 yL_isScored, Cond.static yL_isScored, Cond.code yL_isScored cL_isScored 12 (some .boolean), Cond.methodLink RL 98 yX6_result, Cond.instanceMethod yX6_result, Cond.selects RX6 yX6_result yX6_result, Cond.code yX6_result cX6_result 1 (some .int)]
def wsL_law0 : List Cond := (wsL_law0_r1 ++ (wsL_law0_r2 ++ (wsL_law0_r3 ++ (wsL_law0_r4 ++ (wsL_law0_r5 ++ (wsL_law0_r6 ++ (wsL_law0_r7 ++ (wsL_law0_r8 ++ (wsL_law0_r9 ++ (wsL_law0_r10 ++ (wsL_law0_r11 ++ (wsL_law0_r12 ++ (wsL_law0_r13 ++ (wsL_law0_r14 ++ (wsL_law0_r15 ++ (wsL_law0_r16 ++ (wsL_law0_r17 ++ (wsL_law0_r18 ++ (wsL_law0_r19 ++ (wsL_law0_r20 ++ wsL_law0_r21)))))))))))))))))))) ++ wsX60 ++ wsX10 ++ wsX00 ++ wsX50 ++ wsX40 ++ wsX30 ++ wsX20 ++ ([] : List Cond)
def wsL_law : List Cond := wsL_law0 ++ (vx_atS RX6 130 "java/lang/IndexOutOfBoundsException" ["java/lang/RuntimeException", "java/lang/Exception"]).filter goodWord ++ (vx_atS RX6 76 "java/lang/IllegalArgumentException" ["java/lang/RuntimeException", "java/lang/Exception"]).filter goodWord ++ (vx_atS RX6 83 "java/lang/IllegalStateException" ["java/lang/RuntimeException", "java/lang/Exception"]).filter goodWord
abbrev vwCl : List vw_C := [(RX0, TX0, 3), (RX1, TX1, 1), (RX2, TX2, 1), (RX3, TX3, 1), (RX4, TX4, 3), (RX5, TX5, 3), (RX6, TX6, 18)]
