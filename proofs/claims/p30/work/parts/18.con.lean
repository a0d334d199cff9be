section TKN
variable {p : Program} {l : Launch} {e : Env} {R : Room} {s : State} {m : MethodId} {args : Array Value} {below : List Frame} {meth : Method} {c : Code} {H H1 : Heap} {locs : List Loc} {cells slots mc ms : Nat} {Q : State → Prop}
variable {cc : ByteArray} {pc : Nat} {ls : Array Slot} {rest st0 : List Value} {ar : Array Value} {A : Nat → Prop} {H0 : Heap} {G : va_G} {c3 : ClassId × ClassId × ClassId} {a b : va_W} {wf : (Nat → Nat) → va_W}
theorem tk_sameKI {cA : ClassId} (h : va_K G vwCl (tk_tys c3 ++ [(cA, .int)]) s) : cA = c3.1 := Option.some.inj ((h.2 2 (cA, .int) rfl).2.symm.trans (h.2 0 (c3.1, .int) rfl).2)
theorem tk_sameKJ {cA : ClassId} (h : va_K G vwCl (tk_tys c3 ++ [(cA, .long)]) s) : cA = c3.2.1 := Option.some.inj ((h.2 2 (cA, .long) rfl).2.symm.trans (h.2 1 (c3.2.1, .long) rfl).2)
def tk_Kv (l : Launch) (y : MethodName) (w : List Cond) (rm : Room) (G : va_G) (c : ClassId × ClassId × ClassId) (av : List Value) (ws : va_W) (wf : (Nat → Nat) → va_W) (h0 mc ms : Nat) : Prop :=
  ∀ sz : Nat, Met l y w rm (va_Pc av (tk_pre G c ws sz)) (va_Qv (fun u : Nat → Nat => u 0 = h0) (fun u t => va_P G vwCl (wf u) t.heap ∧ va_D (va_A ws sz) (wf u)) (va_A ws sz)) mc ms (va_A ws sz)
theorem tk_pI {x : Nat} {As : List Value} (hE : tk_E G c3 s) (hP : va_P G vwCl a H) (hD : va_D A a) : PreS s H (va_Pc (.ref x :: As) (tk_pre G c3 a H.size)) (.ref x :: As) := tk_pS hE hP hD
theorem tk_cvR {x : Nat} (hr : va_Run p l e R s m args below meth c H locs cells slots mc ms (F0 m pc ls st0) rest (va_Qv (fun u : Nat → Nat => u 0 = x) (fun u t => va_P G vwCl (wf u) t.heap ∧ va_D (va_A b H.size) (wf u)) (va_A b H.size) ar) (va_A b H.size))
    (hP : va_P G vwCl (a ++ b) H) (hD : va_D A (a ++ b)) (hS : va_S A H0 H locs) (hA : ∀ q, H0.size ≤ q → A q)
    (kk : ∀ (u : Nat → Nat) (H1 : Heap) (locs1 : List Loc), u 0 = x → va_P G vwCl (a ++ wf u) H1 → va_D A (a ++ wf u) → va_S A H0 H1 locs1 → W p l e R s m args below meth c H1 locs1 (cells + mc) (slots + ms) Q (F0 m (pc + 3) ls rest)) : W p l e R s m args below meth c H locs cells slots Q (F0 m pc ls st0) := by
  have hF := tk_free (tk_Dr hD) hS hA
  refine va_callv hr hS (fun q _ h => hF q h) hF (fun u t H1 locs1 ht hvm hw hB hz1 hk1 hS1 => ?_)
  obtain ⟨hP1, hD1⟩ := hB
  rw [ht] at hP1
  obtain ⟨hP2, hD2⟩ := tk_jR hP hD hF hk1 hP1 hD1
  exact kk u H1 locs1 hw hP2 hD2 hS1
theorem tk_rK {wr : va_W} {h0 : Nat} (hQ : Q = MQ below (va_Qv (fun u : Nat → Nat => u 0 = h0) (fun u t => va_P G vwCl (wf u) t.heap ∧ va_D A (wf u)) A) args s mc ms A) (u : Nat → Nat) (hu : u 0 = h0) (hw : wr = wf u)
    (hx : p.tables.exec = Jvm.exec) (hb : c.code = cc) (hr : meth.sig.returnType = none) (hlocks : meth.locks = false) (hP : va_P G vwCl wr H) (hD : va_D A wr) (hS : va_S A s.heap H locs) (hc : cells ≤ mc) (hs : slots ≤ ms) (d : decode cc pc = .ok (.return_, 1)) :
    W p l e R s m args below meth c H locs cells slots Q (F0 m pc ls []) := by
  subst hQ; subst hw
  refine W.widen (k := mc) (n := ms) hc hs ?_
  exact W.vret hx hb hr (fun t ht hW => ⟨⟨u, rfl, hu, by rw [ht]; exact hP, hD⟩, hS.F ht⟩) hS.2.2 d
end TKN
theorem tk_ofK {l : Launch} {y : MethodName} {ws ws' : List Cond} {rm : Room} {G : va_G} {c3 : ClassId × ClassId × ClassId} {av : List Value} {w0 : va_W} {wf : (Nat → Nat) → va_W} {h0 mc ms : Nat} {cc : ByteArray} {maxL : Nat} {ret : Option FieldType}
    (hy : plainName y.cls = true) (hw : ws = Cond.code y cc maxL ret :: ws') (hyn : y.name = "<init>") (hn : (lg_sl av).length ≤ maxL)
    (body : ∀ (p : Program) (e : Env) (s : State) (m : MethodId) (below : List Frame) (meth : Method) (c : Code) (A : Nat → Prop) (Q : State → Prop) (ls : Array Slot) (H : Heap) (locs : List Loc), p.tables.exec = Jvm.exec → c.code = cc → c.maxLocals = maxL → meth.sig.returnType = ret → (∀ w ∈ ws, w.before av.toArray s = true) → s.vm.findClass y.cls = some m.cls → meth.locks = false → tk_E G c3 s → (∀ q : Nat, s.heap.size ≤ q → A q) → va_P G vwCl w0 H → va_D A w0 → va_S A s.heap H locs → meth.name = "<init>" → Q = MQ below (va_Qv (fun u : Nat → Nat => u 0 = h0) (fun u t => va_P G vwCl (wf u) t.heap ∧ va_D A (wf u)) A) av.toArray s mc ms A → lv_has ls maxL (lv_args 0 av) → W p l e rm s m av.toArray below meth c H locs 0 0 Q (F0 m 0 ls [])) : tk_Kv l y ws rm G c3 av w0 wf h0 mc ms := by
  intro sz
  refine Met.ofW (cc := cc) (maxL := maxL) (ret := ret) hy hw ?_
  intro p e s m args below meth c s₁ B hml hv
  obtain ⟨rfl, hsz, hP, hE, hD0⟩ := hv
  subst hsz
  have hD := hD0.self (sz := s.heap.size)
  have hl := lv_entry av (n := maxL) hn
  rw [lg_entry_eq]
  exact body p e s m below meth c _ _ _ _ _ B.exec B.bytes hml B.returns (atoms_spec (ws := ws) B.pre) (findClass_of_methodNamed B.named) B.notSynchronized hE (fun q h => Or.inr h) hP hD va_S.rf ((name_of_methodNamed B.named B.method).1.trans hyn) rfl hl
set_option maxRecDepth 20000 in
theorem m_X2_init_m3 : Cond.methodLink RX2 3 objectInit ∈ wsX2_init := by decide +kernel
set_option maxRecDepth 20000 in
theorem m_X2_init_oi : Cond.instanceMethod objectInit ∈ wsX2_init := by decide +kernel
set_option maxRecDepth 20000 in
theorem m_X2_init_oc : Cond.code objectInit ⟨#[0xb1]⟩ 1 none ∈ wsX2_init := by decide +kernel
set_option maxRecDepth 20000 in
theorem m_X2_init_m9 : Cond.methodLink RX2 9 Lib.Math.max.name ∈ wsX2_init := by decide +kernel
set_option maxRecDepth 20000 in
theorem m_X2_init_s_max : Cond.static Lib.Math.max.name ∈ wsX2_init := by decide +kernel
set_option maxRecDepth 20000 in
theorem m_X2_init_iMath : Cond.initialized "java/lang/Math" ∈ wsX2_init := by decide +kernel
set_option maxRecDepth 20000 in
theorem m_X2_init_c_max : Cond.code Lib.Math.max.name Lib.Math.max.code 2 (some .int) ∈ wsX2_init := by decide +kernel
set_option maxRecDepth 20000 in
theorem m_X2_init_ac_int : Cond.arrayClass .int ∈ wsX2_init := by decide +kernel
set_option maxRecDepth 20000 in
theorem i_X2_init_X2 : ∀ w ∈ wsX20, w ∈ wsX2_init := fun w h => List.mem_cons_of_mem _ (List.mem_append_right _ h)
set_option maxRecDepth 20000 in
theorem m_X2_init_f15 : Cond.fieldLink RX2 15 "TarockHall$Row" "items" "[I" ∈ wsX2_init := by decide +kernel
set_option maxRecDepth 20000 in
theorem m_X3_init_m1 : Cond.methodLink RX3 1 objectInit ∈ wsX3_init := by decide +kernel
set_option maxRecDepth 20000 in
theorem m_X3_init_oi : Cond.instanceMethod objectInit ∈ wsX3_init := by decide +kernel
set_option maxRecDepth 20000 in
theorem m_X3_init_oc : Cond.code objectInit ⟨#[0xb1]⟩ 1 none ∈ wsX3_init := by decide +kernel
set_option maxRecDepth 20000 in
theorem m_X3_init_m7 : Cond.methodLink RX3 7 Lib.Math.max.name ∈ wsX3_init := by decide +kernel
set_option maxRecDepth 20000 in
theorem m_X3_init_s_max : Cond.static Lib.Math.max.name ∈ wsX3_init := by decide +kernel
set_option maxRecDepth 20000 in
theorem m_X3_init_iMath : Cond.initialized "java/lang/Math" ∈ wsX3_init := by decide +kernel
set_option maxRecDepth 20000 in
theorem m_X3_init_c_max : Cond.code Lib.Math.max.name Lib.Math.max.code 2 (some .int) ∈ wsX3_init := by decide +kernel
set_option maxRecDepth 20000 in
theorem m_X3_init_ac_long : Cond.arrayClass .long ∈ wsX3_init := by decide +kernel
set_option maxRecDepth 20000 in
theorem i_X3_init_X3 : ∀ w ∈ wsX30, w ∈ wsX3_init := fun w h => List.mem_cons_of_mem _ (List.mem_append_right _ h)
set_option maxRecDepth 20000 in
theorem m_X3_init_f13 : Cond.fieldLink RX3 13 "TarockHall$Sets" "items" "[J" ∈ wsX3_init := by decide +kernel
set_option maxRecDepth 20000 in
theorem m_X0_init_m3 : Cond.methodLink RX0 3 objectInit ∈ wsX0_init := by decide +kernel
set_option maxRecDepth 20000 in
theorem m_X0_init_oi : Cond.instanceMethod objectInit ∈ wsX0_init := by decide +kernel
set_option maxRecDepth 20000 in
theorem m_X0_init_oc : Cond.code objectInit ⟨#[0xb1]⟩ 1 none ∈ wsX0_init := by decide +kernel
set_option maxRecDepth 20000 in
theorem i_X0_init_X0 : ∀ w ∈ wsX00, w ∈ wsX0_init := fun w h => List.mem_cons_of_mem _ (List.mem_append_right _ h)
set_option maxRecDepth 20000 in
theorem m_X0_init_f9 : Cond.fieldLink RX0 9 "TarockHall$Bidding" "bidder" "I" ∈ wsX0_init := by decide +kernel
set_option maxRecDepth 20000 in
theorem m_X1_init_m3 : Cond.methodLink RX1 3 objectInit ∈ wsX1_init := by decide +kernel
set_option maxRecDepth 20000 in
theorem m_X1_init_oi : Cond.instanceMethod objectInit ∈ wsX1_init := by decide +kernel
set_option maxRecDepth 20000 in
theorem m_X1_init_oc : Cond.code objectInit ⟨#[0xb1]⟩ 1 none ∈ wsX1_init := by decide +kernel
set_option maxRecDepth 20000 in
theorem i_X1_init_X2 : ∀ w ∈ wsX20, w ∈ wsX1_init := fun w h => List.mem_cons_of_mem _ (List.mem_append_left _ (List.mem_append_right _ h))
set_option maxRecDepth 20000 in
theorem m_X1_init_n9 : Cond.classLink RX1 9 RX2 ∈ wsX1_init := by decide +kernel
set_option maxRecDepth 20000 in
theorem m_X1_init_inX2 : Cond.instantiable RX2 1 ∈ wsX1_init := by decide +kernel
set_option maxRecDepth 20000 in
theorem m_X1_init_iX2 : Cond.initialized RX2 ∈ wsX1_init := by decide +kernel
set_option maxRecDepth 20000 in
theorem hs_X2_init : yX2_init.cls ≠ "java/lang/invoke/MethodHandle" ∧ yX2_init.cls ≠ "java/lang/invoke/VarHandle" ∧ (parseMethodDescriptor yX2_init.desc).map (fun d => d.parameters.length) = some 1 := by decide +kernel
set_option maxRecDepth 20000 in
theorem m_X1_init_m11 : Cond.methodLink RX1 11 yX2_init ∈ wsX1_init := by decide +kernel
set_option maxRecDepth 20000 in
theorem m_X1_init_im_X2_init : Cond.instanceMethod yX2_init ∈ wsX1_init := by decide +kernel
set_option maxRecDepth 20000 in
theorem i_X1_init_X1 : ∀ w ∈ wsX10, w ∈ wsX1_init := fun w h => List.mem_cons_of_mem _ (List.mem_append_right _ h)
set_option maxRecDepth 20000 in
theorem m_X1_init_f14 : Cond.fieldLink RX1 14 "TarockHall$Deck" "row" "LTarockHall$Row;" ∈ wsX1_init := by decide +kernel
set_option maxRecDepth 20000 in
theorem m_X5_init_m3 : Cond.methodLink RX5 3 objectInit ∈ wsX5_init := by decide +kernel
set_option maxRecDepth 20000 in
theorem m_X5_init_oi : Cond.instanceMethod objectInit ∈ wsX5_init := by decide +kernel
set_option maxRecDepth 20000 in
theorem m_X5_init_oc : Cond.code objectInit ⟨#[0xb1]⟩ 1 none ∈ wsX5_init := by decide +kernel
set_option maxRecDepth 20000 in
theorem i_X5_init_X2 : ∀ w ∈ wsX20, w ∈ wsX5_init := fun w h => List.mem_cons_of_mem _ (List.mem_append_left _ (List.mem_append_right _ h))
set_option maxRecDepth 20000 in
theorem m_X5_init_n9 : Cond.classLink RX5 9 RX2 ∈ wsX5_init := by decide +kernel
set_option maxRecDepth 20000 in
theorem m_X5_init_inX2 : Cond.instantiable RX2 1 ∈ wsX5_init := by decide +kernel
set_option maxRecDepth 20000 in
theorem m_X5_init_iX2 : Cond.initialized RX2 ∈ wsX5_init := by decide +kernel
set_option maxRecDepth 20000 in
theorem m_X5_init_m11 : Cond.methodLink RX5 11 yX2_init ∈ wsX5_init := by decide +kernel
set_option maxRecDepth 20000 in
theorem m_X5_init_im_X2_init : Cond.instanceMethod yX2_init ∈ wsX5_init := by decide +kernel
set_option maxRecDepth 20000 in
theorem i_X5_init_X5 : ∀ w ∈ wsX50, w ∈ wsX5_init := fun w h => List.mem_cons_of_mem _ (List.mem_append_right _ h)
set_option maxRecDepth 20000 in
theorem m_X5_init_f14 : Cond.fieldLink RX5 14 "TarockHall$Trick" "cards" "LTarockHall$Row;" ∈ wsX5_init := by decide +kernel
set_option maxRecDepth 20000 in
theorem m_X4_init_m3 : Cond.methodLink RX4 3 objectInit ∈ wsX4_init := by decide +kernel
set_option maxRecDepth 20000 in
theorem m_X4_init_oi : Cond.instanceMethod objectInit ∈ wsX4_init := by decide +kernel
set_option maxRecDepth 20000 in
theorem m_X4_init_oc : Cond.code objectInit ⟨#[0xb1]⟩ 1 none ∈ wsX4_init := by decide +kernel
set_option maxRecDepth 20000 in
theorem i_X4_init_X2 : ∀ w ∈ wsX20, w ∈ wsX4_init := fun w h => List.mem_cons_of_mem _ (List.mem_append_left _ (List.mem_append_right _ h))
set_option maxRecDepth 20000 in
theorem m_X4_init_n9 : Cond.classLink RX4 9 RX2 ∈ wsX4_init := by decide +kernel
set_option maxRecDepth 20000 in
theorem m_X4_init_inX2 : Cond.instantiable RX2 1 ∈ wsX4_init := by decide +kernel
set_option maxRecDepth 20000 in
theorem m_X4_init_iX2 : Cond.initialized RX2 ∈ wsX4_init := by decide +kernel
set_option maxRecDepth 20000 in
theorem m_X4_init_m11 : Cond.methodLink RX4 11 yX2_init ∈ wsX4_init := by decide +kernel
set_option maxRecDepth 20000 in
theorem m_X4_init_im_X2_init : Cond.instanceMethod yX2_init ∈ wsX4_init := by decide +kernel
set_option maxRecDepth 20000 in
theorem i_X4_init_X4 : ∀ w ∈ wsX40, w ∈ wsX4_init := fun w h => List.mem_cons_of_mem _ (List.mem_append_right _ h)
set_option maxRecDepth 20000 in
theorem m_X4_init_f14 : Cond.fieldLink RX4 14 "TarockHall$Sheet" "scores" "LTarockHall$Row;" ∈ wsX4_init := by decide +kernel
set_option maxRecDepth 20000 in
theorem m_X4_init_f20 : Cond.fieldLink RX4 20 "TarockHall$Sheet" "radli" "LTarockHall$Row;" ∈ wsX4_init := by decide +kernel
set_option maxRecDepth 20000 in
theorem m_X6_init_m3 : Cond.methodLink RX6 3 objectInit ∈ wsX6_init := by decide +kernel
set_option maxRecDepth 20000 in
theorem m_X6_init_oi : Cond.instanceMethod objectInit ∈ wsX6_init := by decide +kernel
set_option maxRecDepth 20000 in
theorem m_X6_init_oc : Cond.code objectInit ⟨#[0xb1]⟩ 1 none ∈ wsX6_init := by decide +kernel
set_option maxRecDepth 20000 in
theorem i_X6_init_X1 : ∀ w ∈ wsX10, w ∈ wsX6_init := fun w h => List.mem_cons_of_mem _ (List.mem_append_left _ (List.mem_append_left _ (List.mem_append_left _ (List.mem_append_left _ (List.mem_append_left _ (List.mem_append_left _ (List.mem_append_right _ h)))))))
set_option maxRecDepth 20000 in
theorem m_X6_init_n9 : Cond.classLink RX6 9 RX1 ∈ wsX6_init := by decide +kernel
set_option maxRecDepth 20000 in
theorem m_X6_init_inX1 : Cond.instantiable RX1 1 ∈ wsX6_init := by decide +kernel
set_option maxRecDepth 20000 in
theorem m_X6_init_iX1 : Cond.initialized RX1 ∈ wsX6_init := by decide +kernel
set_option maxRecDepth 20000 in
theorem hs_X1_init : yX1_init.cls ≠ "java/lang/invoke/MethodHandle" ∧ yX1_init.cls ≠ "java/lang/invoke/VarHandle" ∧ (parseMethodDescriptor yX1_init.desc).map (fun d => d.parameters.length) = some 0 := by decide +kernel
set_option maxRecDepth 20000 in
theorem m_X6_init_m11 : Cond.methodLink RX6 11 yX1_init ∈ wsX6_init := by decide +kernel
set_option maxRecDepth 20000 in
theorem m_X6_init_im_X1_init : Cond.instanceMethod yX1_init ∈ wsX6_init := by decide +kernel
set_option maxRecDepth 20000 in
theorem i_X6_init_X6 : ∀ w ∈ wsX60, w ∈ wsX6_init := fun w h => List.mem_cons_of_mem _ (List.mem_append_left _ (List.mem_append_left _ (List.mem_append_left _ (List.mem_append_left _ (List.mem_append_left _ (List.mem_append_right _ h))))))
set_option maxRecDepth 20000 in
theorem m_X6_init_f12 : Cond.fieldLink RX6 12 "TarockHall" "deck" "LTarockHall$Deck;" ∈ wsX6_init := by decide +kernel
set_option maxRecDepth 20000 in
theorem i_X6_init_X0 : ∀ w ∈ wsX00, w ∈ wsX6_init := fun w h => List.mem_cons_of_mem _ (List.mem_append_left _ (List.mem_append_left _ (List.mem_append_left _ (List.mem_append_left _ (List.mem_append_right _ h)))))
set_option maxRecDepth 20000 in
theorem m_X6_init_n16 : Cond.classLink RX6 16 RX0 ∈ wsX6_init := by decide +kernel
set_option maxRecDepth 20000 in
theorem m_X6_init_inX0 : Cond.instantiable RX0 3 ∈ wsX6_init := by decide +kernel
set_option maxRecDepth 20000 in
theorem m_X6_init_iX0 : Cond.initialized RX0 ∈ wsX6_init := by decide +kernel
set_option maxRecDepth 20000 in
theorem hs_X0_init : yX0_init.cls ≠ "java/lang/invoke/MethodHandle" ∧ yX0_init.cls ≠ "java/lang/invoke/VarHandle" ∧ (parseMethodDescriptor yX0_init.desc).map (fun d => d.parameters.length) = some 0 := by decide +kernel
set_option maxRecDepth 20000 in
theorem m_X6_init_m18 : Cond.methodLink RX6 18 yX0_init ∈ wsX6_init := by decide +kernel
set_option maxRecDepth 20000 in
theorem m_X6_init_im_X0_init : Cond.instanceMethod yX0_init ∈ wsX6_init := by decide +kernel
set_option maxRecDepth 20000 in
theorem m_X6_init_f19 : Cond.fieldLink RX6 19 "TarockHall" "bidding" "LTarockHall$Bidding;" ∈ wsX6_init := by decide +kernel
set_option maxRecDepth 20000 in
theorem i_X6_init_X5 : ∀ w ∈ wsX50, w ∈ wsX6_init := fun w h => List.mem_cons_of_mem _ (List.mem_append_left _ (List.mem_append_left _ (List.mem_append_left _ (List.mem_append_right _ h))))
set_option maxRecDepth 20000 in
theorem m_X6_init_n23 : Cond.classLink RX6 23 RX5 ∈ wsX6_init := by decide +kernel
set_option maxRecDepth 20000 in
theorem m_X6_init_inX5 : Cond.instantiable RX5 3 ∈ wsX6_init := by decide +kernel
set_option maxRecDepth 20000 in
theorem m_X6_init_iX5 : Cond.initialized RX5 ∈ wsX6_init := by decide +kernel
set_option maxRecDepth 20000 in
theorem hs_X5_init : yX5_init.cls ≠ "java/lang/invoke/MethodHandle" ∧ yX5_init.cls ≠ "java/lang/invoke/VarHandle" ∧ (parseMethodDescriptor yX5_init.desc).map (fun d => d.parameters.length) = some 0 := by decide +kernel
set_option maxRecDepth 20000 in
theorem m_X6_init_m25 : Cond.methodLink RX6 25 yX5_init ∈ wsX6_init := by decide +kernel
set_option maxRecDepth 20000 in
theorem m_X6_init_im_X5_init : Cond.instanceMethod yX5_init ∈ wsX6_init := by decide +kernel
set_option maxRecDepth 20000 in
theorem m_X6_init_f26 : Cond.fieldLink RX6 26 "TarockHall" "trick" "LTarockHall$Trick;" ∈ wsX6_init := by decide +kernel
set_option maxRecDepth 20000 in
theorem i_X6_init_X4 : ∀ w ∈ wsX40, w ∈ wsX6_init := fun w h => List.mem_cons_of_mem _ (List.mem_append_left _ (List.mem_append_left _ (List.mem_append_right _ h)))
set_option maxRecDepth 20000 in
theorem m_X6_init_n30 : Cond.classLink RX6 30 RX4 ∈ wsX6_init := by decide +kernel
set_option maxRecDepth 20000 in
theorem m_X6_init_inX4 : Cond.instantiable RX4 3 ∈ wsX6_init := by decide +kernel
set_option maxRecDepth 20000 in
theorem m_X6_init_iX4 : Cond.initialized RX4 ∈ wsX6_init := by decide +kernel
set_option maxRecDepth 20000 in
theorem hs_X4_init : yX4_init.cls ≠ "java/lang/invoke/MethodHandle" ∧ yX4_init.cls ≠ "java/lang/invoke/VarHandle" ∧ (parseMethodDescriptor yX4_init.desc).map (fun d => d.parameters.length) = some 0 := by decide +kernel
set_option maxRecDepth 20000 in
theorem m_X6_init_m32 : Cond.methodLink RX6 32 yX4_init ∈ wsX6_init := by decide +kernel
set_option maxRecDepth 20000 in
theorem m_X6_init_im_X4_init : Cond.instanceMethod yX4_init ∈ wsX6_init := by decide +kernel
set_option maxRecDepth 20000 in
theorem m_X6_init_f33 : Cond.fieldLink RX6 33 "TarockHall" "sheet" "LTarockHall$Sheet;" ∈ wsX6_init := by decide +kernel
set_option maxRecDepth 20000 in
theorem i_X6_init_X3 : ∀ w ∈ wsX30, w ∈ wsX6_init := fun w h => List.mem_cons_of_mem _ (List.mem_append_left _ (List.mem_append_right _ h))
set_option maxRecDepth 20000 in
theorem m_X6_init_n37 : Cond.classLink RX6 37 RX3 ∈ wsX6_init := by decide +kernel
set_option maxRecDepth 20000 in
theorem m_X6_init_inX3 : Cond.instantiable RX3 1 ∈ wsX6_init := by decide +kernel
set_option maxRecDepth 20000 in
theorem m_X6_init_iX3 : Cond.initialized RX3 ∈ wsX6_init := by decide +kernel
set_option maxRecDepth 20000 in
theorem hs_X3_init : yX3_init.cls ≠ "java/lang/invoke/MethodHandle" ∧ yX3_init.cls ≠ "java/lang/invoke/VarHandle" ∧ (parseMethodDescriptor yX3_init.desc).map (fun d => d.parameters.length) = some 1 := by decide +kernel
set_option maxRecDepth 20000 in
theorem m_X6_init_m39 : Cond.methodLink RX6 39 yX3_init ∈ wsX6_init := by decide +kernel
set_option maxRecDepth 20000 in
theorem m_X6_init_im_X3_init : Cond.instanceMethod yX3_init ∈ wsX6_init := by decide +kernel
set_option maxRecDepth 20000 in
theorem m_X6_init_f42 : Cond.fieldLink RX6 42 "TarockHall" "hands" "LTarockHall$Sets;" ∈ wsX6_init := by decide +kernel
set_option maxRecDepth 20000 in
theorem m_X6_init_f46 : Cond.fieldLink RX6 46 "TarockHall" "piles" "LTarockHall$Sets;" ∈ wsX6_init := by decide +kernel
set_option maxRecDepth 20000 in
theorem m_X6_init_f49 : Cond.fieldLink RX6 49 "TarockHall" "forehand" "I" ∈ wsX6_init := by decide +kernel
set_option maxRecDepth 20000 in
theorem m_X6_init_f53 : Cond.fieldLink RX6 53 "TarockHall" "phase" "I" ∈ wsX6_init := by decide +kernel
set_option maxRecDepth 20000 in
theorem m_X6_init_f56 : Cond.fieldLink RX6 56 "TarockHall" "turn" "I" ∈ wsX6_init := by decide +kernel
set_option maxRecDepth 20000 in
theorem m_X6_init_f59 : Cond.fieldLink RX6 59 "TarockHall" "declarer" "I" ∈ wsX6_init := by decide +kernel
set_option maxRecDepth 20000 in
theorem m_X6_init_f62 : Cond.fieldLink RX6 62 "TarockHall" "called" "I" ∈ wsX6_init := by decide +kernel
set_option maxRecDepth 20000 in
theorem m_X6_init_f65 : Cond.fieldLink RX6 65 "TarockHall" "kingOwner" "I" ∈ wsX6_init := by decide +kernel
set_option maxRecDepth 20000 in
theorem m_X6_init_f68 : Cond.fieldLink RX6 68 "TarockHall" "partner" "I" ∈ wsX6_init := by decide +kernel
def p_X2_init_54 (c3 : ClassId × ClassId × ClassId) (u : Nat → Nat) : va_W := [((u 0), .inr (2, [.ref (u 1)])), ((u 1), .inl (c3.1, 54, .inl (fun _ => 0)))]
abbrev rm_X2_init_54 : Room := { frames := 1, cells := 1, slots := 54, locals := 21 }
set_option maxHeartbeats 4000000 in
set_option maxRecDepth 100000 in
theorem c_X2_init_54 (l : Launch) (G : va_G) (c3 : ClassId × ClassId × ClassId) (h0 : Nat) : tk_Kv l yX2_init wsX2_init rm_X2_init_54 G c3 [.ref h0, .int 54] [(h0, .inr (2, [.null]))] (p_X2_init_54 c3) h0 1 54 := by
  refine tk_ofK (cc := cX2_init) (maxL := 2) (ret := none) (by decide) rfl rfl (Nat.le_of_ble_eq_true rfl) ?_
  intro p e s m below meth c A Q ls H locs hx hb hml hr hts hown hlocks hE hA hP hD hS hin hQ hl
  have hl : lv_has ls 2 [(0, .ref h0), (1, .int 54)] := hl
  have hown : s.vm.findClass RX2 = some m.cls := hown
  refine lv_aload_n hx hb dX2_init_0 rfl (lv_at hl 0 rfl) ?_
  refine W.objInit hx hb hown (hts _ m_X2_init_m3) (hts _ m_X2_init_oi) (hts _ m_X2_init_oc) rfl (by rw [hml]; exact hl.1) rfl dX2_init_1 (Nat.le_of_ble_eq_true rfl) (Nat.le_of_ble_eq_true rfl) ?_
  refine W.eq (g2 := F0 m 4 ls []) rfl ?_
  refine lv_aload_n hx hb dX2_init_4 rfl (lv_at hl 0 rfl) ?_
  refine lv_iload_n hx hb dX2_init_5 rfl (lv_at hl 1 rfl) ?_
  refine lv_iconst (v := 0) hx hb dX2_init_6 (by decide) ?_
  refine va_mmax hx hb (hml.trans hl.1.symm) hown (hts _ m_X2_init_m9) (hts _ m_X2_init_s_max) (hts _ m_X2_init_iMath) (hts _ m_X2_init_c_max) (Nat.le_of_ble_eq_true rfl) (Nat.le_of_ble_eq_true rfl) (Nat.zero_le _) (Nat.zero_le _) dX2_init_7 ?_
  refine lv_topi (fun y9 e9 => ?_)
  have e9 : y9 = 54 := by rw [e9]; decide
  subst e9
  refine va_newa (atype := .int) (a0 := (54, .inl (fun _ => 0))) hx hb (hts _ m_X2_init_ac_int) rfl hE.1 hP hD hS hA (fun _ => rfl) (by decide) (by decide) (Nat.le_of_ble_eq_true rfl) (Nat.le_of_ble_eq_true rfl) (Nat.le_of_ble_eq_true rfl) dX2_init_10 (fun x1 cA H hK9 hP hD hS => ?_)
  obtain rfl := tk_sameKI hK9
  have hP : va_P G vwCl [(h0, .inr (2, [.null])), (x1, .inl (c3.1, 54, .inl (fun _ => 0)))] H := hP
  have hD : va_D A [(h0, .inr (2, [.null])), (x1, .inl (c3.1, 54, .inl (fun _ => 0)))] := hD
  refine va_putF (D := G) (ci := 2) (v := .ref x1) (ty := .array .int) (C := RX2) (T := TX2) (N := 1) hx hb hts i_X2_init_X2 tyX2 tyX2_ok nmX2 hown hE.1 hP hD hS 0 rfl rfl 0 (by decide) (hts _ m_X2_init_f15) (fun _ h9 => h9) rfl hin rfl (by decide +kernel) rfl rfl (Nat.le_of_ble_eq_true rfl) dX2_init_12 (fun H locs hP hD hS => ?_)
  have hP : va_P G vwCl [(h0, .inr (2, [.ref x1])), (x1, .inl (c3.1, 54, .inl (fun _ => 0)))] H := hP
  have hD : va_D A [(h0, .inr (2, [.ref x1])), (x1, .inl (c3.1, 54, .inl (fun _ => 0)))] := hD
  exact tk_rK hQ (fun k => ([h0, x1] : List Nat).getD k 0) rfl rfl hx hb hr hlocks hP hD hS (Nat.le_of_ble_eq_true rfl) (Nat.le_of_ble_eq_true rfl) dX2_init_15
def p_X2_init_4 (c3 : ClassId × ClassId × ClassId) (u : Nat → Nat) : va_W := [((u 0), .inr (2, [.ref (u 1)])), ((u 1), .inl (c3.1, 4, .inl (fun _ => 0)))]
abbrev rm_X2_init_4 : Room := { frames := 1, cells := 1, slots := 4, locals := 21 }
set_option maxHeartbeats 4000000 in
set_option maxRecDepth 100000 in
theorem c_X2_init_4 (l : Launch) (G : va_G) (c3 : ClassId × ClassId × ClassId) (h0 : Nat) : tk_Kv l yX2_init wsX2_init rm_X2_init_4 G c3 [.ref h0, .int 4] [(h0, .inr (2, [.null]))] (p_X2_init_4 c3) h0 1 4 := by
  refine tk_ofK (cc := cX2_init) (maxL := 2) (ret := none) (by decide) rfl rfl (Nat.le_of_ble_eq_true rfl) ?_
  intro p e s m below meth c A Q ls H locs hx hb hml hr hts hown hlocks hE hA hP hD hS hin hQ hl
  have hl : lv_has ls 2 [(0, .ref h0), (1, .int 4)] := hl
  have hown : s.vm.findClass RX2 = some m.cls := hown
  refine lv_aload_n hx hb dX2_init_0 rfl (lv_at hl 0 rfl) ?_
  refine W.objInit hx hb hown (hts _ m_X2_init_m3) (hts _ m_X2_init_oi) (hts _ m_X2_init_oc) rfl (by rw [hml]; exact hl.1) rfl dX2_init_1 (Nat.le_of_ble_eq_true rfl) (Nat.le_of_ble_eq_true rfl) ?_
  refine W.eq (g2 := F0 m 4 ls []) rfl ?_
  refine lv_aload_n hx hb dX2_init_4 rfl (lv_at hl 0 rfl) ?_
  refine lv_iload_n hx hb dX2_init_5 rfl (lv_at hl 1 rfl) ?_
  refine lv_iconst (v := 0) hx hb dX2_init_6 (by decide) ?_
  refine va_mmax hx hb (hml.trans hl.1.symm) hown (hts _ m_X2_init_m9) (hts _ m_X2_init_s_max) (hts _ m_X2_init_iMath) (hts _ m_X2_init_c_max) (Nat.le_of_ble_eq_true rfl) (Nat.le_of_ble_eq_true rfl) (Nat.zero_le _) (Nat.zero_le _) dX2_init_7 ?_
  refine lv_topi (fun y9 e9 => ?_)
  have e9 : y9 = 4 := by rw [e9]; decide
  subst e9
  refine va_newa (atype := .int) (a0 := (4, .inl (fun _ => 0))) hx hb (hts _ m_X2_init_ac_int) rfl hE.1 hP hD hS hA (fun _ => rfl) (by decide) (by decide) (Nat.le_of_ble_eq_true rfl) (Nat.le_of_ble_eq_true rfl) (Nat.le_of_ble_eq_true rfl) dX2_init_10 (fun x1 cA H hK9 hP hD hS => ?_)
  obtain rfl := tk_sameKI hK9
  have hP : va_P G vwCl [(h0, .inr (2, [.null])), (x1, .inl (c3.1, 4, .inl (fun _ => 0)))] H := hP
  have hD : va_D A [(h0, .inr (2, [.null])), (x1, .inl (c3.1, 4, .inl (fun _ => 0)))] := hD
  refine va_putF (D := G) (ci := 2) (v := .ref x1) (ty := .array .int) (C := RX2) (T := TX2) (N := 1) hx hb hts i_X2_init_X2 tyX2 tyX2_ok nmX2 hown hE.1 hP hD hS 0 rfl rfl 0 (by decide) (hts _ m_X2_init_f15) (fun _ h9 => h9) rfl hin rfl (by decide +kernel) rfl rfl (Nat.le_of_ble_eq_true rfl) dX2_init_12 (fun H locs hP hD hS => ?_)
  have hP : va_P G vwCl [(h0, .inr (2, [.ref x1])), (x1, .inl (c3.1, 4, .inl (fun _ => 0)))] H := hP
  have hD : va_D A [(h0, .inr (2, [.ref x1])), (x1, .inl (c3.1, 4, .inl (fun _ => 0)))] := hD
  exact tk_rK hQ (fun k => ([h0, x1] : List Nat).getD k 0) rfl rfl hx hb hr hlocks hP hD hS (Nat.le_of_ble_eq_true rfl) (Nat.le_of_ble_eq_true rfl) dX2_init_15
def p_X3_init_4 (c3 : ClassId × ClassId × ClassId) (u : Nat → Nat) : va_W := [((u 0), .inr (3, [.ref (u 1)])), ((u 1), .inl (c3.2.1, 4, .inr (.inl (fun _ => 0))))]
abbrev rm_X3_init_4 : Room := { frames := 1, cells := 1, slots := 4, locals := 21 }
set_option maxHeartbeats 4000000 in
set_option maxRecDepth 100000 in
theorem c_X3_init_4 (l : Launch) (G : va_G) (c3 : ClassId × ClassId × ClassId) (h0 : Nat) : tk_Kv l yX3_init wsX3_init rm_X3_init_4 G c3 [.ref h0, .int 4] [(h0, .inr (3, [.null]))] (p_X3_init_4 c3) h0 1 4 := by
  refine tk_ofK (cc := cX3_init) (maxL := 2) (ret := none) (by decide) rfl rfl (Nat.le_of_ble_eq_true rfl) ?_
  intro p e s m below meth c A Q ls H locs hx hb hml hr hts hown hlocks hE hA hP hD hS hin hQ hl
  have hl : lv_has ls 2 [(0, .ref h0), (1, .int 4)] := hl
  have hown : s.vm.findClass RX3 = some m.cls := hown
  refine lv_aload_n hx hb dX3_init_0 rfl (lv_at hl 0 rfl) ?_
  refine W.objInit hx hb hown (hts _ m_X3_init_m1) (hts _ m_X3_init_oi) (hts _ m_X3_init_oc) rfl (by rw [hml]; exact hl.1) rfl dX3_init_1 (Nat.le_of_ble_eq_true rfl) (Nat.le_of_ble_eq_true rfl) ?_
  refine W.eq (g2 := F0 m 4 ls []) rfl ?_
  refine lv_aload_n hx hb dX3_init_4 rfl (lv_at hl 0 rfl) ?_
  refine lv_iload_n hx hb dX3_init_5 rfl (lv_at hl 1 rfl) ?_
  refine lv_iconst (v := 0) hx hb dX3_init_6 (by decide) ?_
  refine va_mmax hx hb (hml.trans hl.1.symm) hown (hts _ m_X3_init_m7) (hts _ m_X3_init_s_max) (hts _ m_X3_init_iMath) (hts _ m_X3_init_c_max) (Nat.le_of_ble_eq_true rfl) (Nat.le_of_ble_eq_true rfl) (Nat.zero_le _) (Nat.zero_le _) dX3_init_7 ?_
  refine lv_topi (fun y9 e9 => ?_)
  have e9 : y9 = 4 := by rw [e9]; decide
  subst e9
  refine va_newa (atype := .long) (a0 := (4, .inr (.inl (fun _ => 0)))) hx hb (hts _ m_X3_init_ac_long) rfl hE.1 hP hD hS hA (fun _ => rfl) (by decide) (by decide) (Nat.le_of_ble_eq_true rfl) (Nat.le_of_ble_eq_true rfl) (Nat.le_of_ble_eq_true rfl) dX3_init_10 (fun x1 cA H hK9 hP hD hS => ?_)
  obtain rfl := tk_sameKJ hK9
  have hP : va_P G vwCl [(h0, .inr (3, [.null])), (x1, .inl (c3.2.1, 4, .inr (.inl (fun _ => 0))))] H := hP
  have hD : va_D A [(h0, .inr (3, [.null])), (x1, .inl (c3.2.1, 4, .inr (.inl (fun _ => 0))))] := hD
  refine va_putF (D := G) (ci := 3) (v := .ref x1) (ty := .array .long) (C := RX3) (T := TX3) (N := 1) hx hb hts i_X3_init_X3 tyX3 tyX3_ok nmX3 hown hE.1 hP hD hS 0 rfl rfl 0 (by decide) (hts _ m_X3_init_f13) (fun _ h9 => h9) rfl hin rfl (by decide +kernel) rfl rfl (Nat.le_of_ble_eq_true rfl) dX3_init_12 (fun H locs hP hD hS => ?_)
  have hP : va_P G vwCl [(h0, .inr (3, [.ref x1])), (x1, .inl (c3.2.1, 4, .inr (.inl (fun _ => 0))))] H := hP
  have hD : va_D A [(h0, .inr (3, [.ref x1])), (x1, .inl (c3.2.1, 4, .inr (.inl (fun _ => 0))))] := hD
  exact tk_rK hQ (fun k => ([h0, x1] : List Nat).getD k 0) rfl rfl hx hb hr hlocks hP hD hS (Nat.le_of_ble_eq_true rfl) (Nat.le_of_ble_eq_true rfl) dX3_init_15
def p_X3_init_2 (c3 : ClassId × ClassId × ClassId) (u : Nat → Nat) : va_W := [((u 0), .inr (3, [.ref (u 1)])), ((u 1), .inl (c3.2.1, 2, .inr (.inl (fun _ => 0))))]
abbrev rm_X3_init_2 : Room := { frames := 1, cells := 1, slots := 2, locals := 21 }
set_option maxHeartbeats 4000000 in
set_option maxRecDepth 100000 in
theorem c_X3_init_2 (l : Launch) (G : va_G) (c3 : ClassId × ClassId × ClassId) (h0 : Nat) : tk_Kv l yX3_init wsX3_init rm_X3_init_2 G c3 [.ref h0, .int 2] [(h0, .inr (3, [.null]))] (p_X3_init_2 c3) h0 1 2 := by
  refine tk_ofK (cc := cX3_init) (maxL := 2) (ret := none) (by decide) rfl rfl (Nat.le_of_ble_eq_true rfl) ?_
  intro p e s m below meth c A Q ls H locs hx hb hml hr hts hown hlocks hE hA hP hD hS hin hQ hl
  have hl : lv_has ls 2 [(0, .ref h0), (1, .int 2)] := hl
  have hown : s.vm.findClass RX3 = some m.cls := hown
  refine lv_aload_n hx hb dX3_init_0 rfl (lv_at hl 0 rfl) ?_
  refine W.objInit hx hb hown (hts _ m_X3_init_m1) (hts _ m_X3_init_oi) (hts _ m_X3_init_oc) rfl (by rw [hml]; exact hl.1) rfl dX3_init_1 (Nat.le_of_ble_eq_true rfl) (Nat.le_of_ble_eq_true rfl) ?_
  refine W.eq (g2 := F0 m 4 ls []) rfl ?_
  refine lv_aload_n hx hb dX3_init_4 rfl (lv_at hl 0 rfl) ?_
  refine lv_iload_n hx hb dX3_init_5 rfl (lv_at hl 1 rfl) ?_
  refine lv_iconst (v := 0) hx hb dX3_init_6 (by decide) ?_
  refine va_mmax hx hb (hml.trans hl.1.symm) hown (hts _ m_X3_init_m7) (hts _ m_X3_init_s_max) (hts _ m_X3_init_iMath) (hts _ m_X3_init_c_max) (Nat.le_of_ble_eq_true rfl) (Nat.le_of_ble_eq_true rfl) (Nat.zero_le _) (Nat.zero_le _) dX3_init_7 ?_
  refine lv_topi (fun y9 e9 => ?_)
  have e9 : y9 = 2 := by rw [e9]; decide
  subst e9
  refine va_newa (atype := .long) (a0 := (2, .inr (.inl (fun _ => 0)))) hx hb (hts _ m_X3_init_ac_long) rfl hE.1 hP hD hS hA (fun _ => rfl) (by decide) (by decide) (Nat.le_of_ble_eq_true rfl) (Nat.le_of_ble_eq_true rfl) (Nat.le_of_ble_eq_true rfl) dX3_init_10 (fun x1 cA H hK9 hP hD hS => ?_)
  obtain rfl := tk_sameKJ hK9
  have hP : va_P G vwCl [(h0, .inr (3, [.null])), (x1, .inl (c3.2.1, 2, .inr (.inl (fun _ => 0))))] H := hP
  have hD : va_D A [(h0, .inr (3, [.null])), (x1, .inl (c3.2.1, 2, .inr (.inl (fun _ => 0))))] := hD
  refine va_putF (D := G) (ci := 3) (v := .ref x1) (ty := .array .long) (C := RX3) (T := TX3) (N := 1) hx hb hts i_X3_init_X3 tyX3 tyX3_ok nmX3 hown hE.1 hP hD hS 0 rfl rfl 0 (by decide) (hts _ m_X3_init_f13) (fun _ h9 => h9) rfl hin rfl (by decide +kernel) rfl rfl (Nat.le_of_ble_eq_true rfl) dX3_init_12 (fun H locs hP hD hS => ?_)
  have hP : va_P G vwCl [(h0, .inr (3, [.ref x1])), (x1, .inl (c3.2.1, 2, .inr (.inl (fun _ => 0))))] H := hP
  have hD : va_D A [(h0, .inr (3, [.ref x1])), (x1, .inl (c3.2.1, 2, .inr (.inl (fun _ => 0))))] := hD
  exact tk_rK hQ (fun k => ([h0, x1] : List Nat).getD k 0) rfl rfl hx hb hr hlocks hP hD hS (Nat.le_of_ble_eq_true rfl) (Nat.le_of_ble_eq_true rfl) dX3_init_15
def p_X0_init (c3 : ClassId × ClassId × ClassId) (u : Nat → Nat) : va_W := [((u 0), .inr (0, [.int 0, .int 0, .int (-1)]))]
abbrev rm_X0_init : Room := { frames := 1, cells := 0, slots := 0, locals := 21 }
set_option maxHeartbeats 4000000 in
set_option maxRecDepth 100000 in
theorem c_X0_init (l : Launch) (G : va_G) (c3 : ClassId × ClassId × ClassId) (h0 : Nat) : tk_Kv l yX0_init wsX0_init rm_X0_init G c3 [.ref h0] [(h0, .inr (0, [.int 0, .int 0, .int 0]))] (p_X0_init c3) h0 0 0 := by
  refine tk_ofK (cc := cX0_init) (maxL := 1) (ret := none) (by decide) rfl rfl (Nat.le_of_ble_eq_true rfl) ?_
  intro p e s m below meth c A Q ls H locs hx hb hml hr hts hown hlocks hE hA hP hD hS hin hQ hl
  have hl : lv_has ls 1 [(0, .ref h0)] := hl
  have hown : s.vm.findClass RX0 = some m.cls := hown
  refine lv_aload_n hx hb dX0_init_0 rfl (lv_at hl 0 rfl) ?_
  refine W.objInit hx hb hown (hts _ m_X0_init_m3) (hts _ m_X0_init_oi) (hts _ m_X0_init_oc) rfl (by rw [hml]; exact hl.1) rfl dX0_init_1 (Nat.le_of_ble_eq_true rfl) (Nat.le_of_ble_eq_true rfl) ?_
  refine W.eq (g2 := F0 m 4 ls []) rfl ?_
  refine lv_aload_n hx hb dX0_init_4 rfl (lv_at hl 0 rfl) ?_
  refine lv_iconst (v := -1) hx hb dX0_init_5 (by decide) ?_
  refine va_put (D := G) (ci := 0) (v := .int (-1)) (ty := .int) (C := RX0) (T := TX0) (N := 3) hx hb hts i_X0_init_X0 tyX0 tyX0_ok nmX0 hown hE.1 hP hD hS 0 rfl rfl 2 (by decide) (hts _ m_X0_init_f9) (fun _ h9 => h9) rfl (by decide +kernel) rfl rfl (Nat.le_of_ble_eq_true rfl) dX0_init_6 (fun H locs hP hD hS => ?_)
  have hP : va_P G vwCl [(h0, .inr (0, [.int 0, .int 0, .int (-1)]))] H := hP
  have hD : va_D A [(h0, .inr (0, [.int 0, .int 0, .int (-1)]))] := hD
  exact tk_rK hQ (fun k => ([h0] : List Nat).getD k 0) rfl rfl hx hb hr hlocks hP hD hS (Nat.le_of_ble_eq_true rfl) (Nat.le_of_ble_eq_true rfl) dX0_init_9
def p_X1_init (c3 : ClassId × ClassId × ClassId) (u : Nat → Nat) : va_W := [((u 0), .inr (1, [.ref (u 1)])), ((u 1), .inr (2, [.ref (u 2)])), ((u 2), .inl (c3.1, 54, .inl (fun _ => 0)))]
abbrev rm_X1_init : Room := { frames := 2, cells := 2, slots := 55, locals := 42 }
set_option maxHeartbeats 4000000 in
set_option maxRecDepth 100000 in
theorem c_X1_init (l : Launch) (G : va_G) (c3 : ClassId × ClassId × ClassId) (h0 : Nat) : tk_Kv l yX1_init wsX1_init rm_X1_init G c3 [.ref h0] [(h0, .inr (1, [.null]))] (p_X1_init c3) h0 2 55 := by
  refine tk_ofK (cc := cX1_init) (maxL := 1) (ret := none) (by decide) rfl rfl (Nat.le_of_ble_eq_true rfl) ?_
  intro p e s m below meth c A Q ls H locs hx hb hml hr hts hown hlocks hE hA hP hD hS hin hQ hl
  have hl : lv_has ls 1 [(0, .ref h0)] := hl
  have hown : s.vm.findClass RX1 = some m.cls := hown
  refine lv_aload_n hx hb dX1_init_0 rfl (lv_at hl 0 rfl) ?_
  refine W.objInit hx hb hown (hts _ m_X1_init_m3) (hts _ m_X1_init_oi) (hts _ m_X1_init_oc) rfl (by rw [hml]; exact hl.1) rfl dX1_init_1 (Nat.le_of_ble_eq_true rfl) (Nat.le_of_ble_eq_true rfl) ?_
  refine W.eq (g2 := F0 m 4 ls []) rfl ?_
  refine lv_aload_n hx hb dX1_init_4 rfl (lv_at hl 0 rfl) ?_
  refine va_new (ci := 2) (fs := [.null]) (C := RX2) (T := TX2) (N := 1) hx hb hts i_X1_init_X2 tyX2 tyX2_ok hown (hts _ m_X1_init_n9) (hts _ m_X1_init_inX2) (hts _ m_X1_init_iX2) hE.1 hP hD hS hA rfl (fun j hj => by rcases (show j = 0 by omega) with rfl <;> rfl) (Nat.le_of_ble_eq_true rfl) (Nat.le_of_ble_eq_true rfl) dX1_init_5 (fun x1 H hP hD hS => ?_)
  have hP : va_P G vwCl [(h0, .inr (1, [.null])), (x1, .inr (2, [.null]))] H := hP
  have hD : va_D A [(h0, .inr (1, [.null])), (x1, .inr (2, [.null]))] := hD
  refine lv_dup hx hb dX1_init_8 rfl ?_
  refine lv_bipush (v := 54) hx hb dX1_init_9 (by decide) ?_
  refine tk_cvR (a := [(h0, .inr (1, [.null]))]) (b := [(x1, .inr (2, [.null]))]) (wf := p_X2_init_54 c3) (va_runI (As := [.int 54]) (rest := [.ref x1, .ref h0]) ⟨hx, hb, hml, hown, hts⟩ (c_X2_init_54 l G c3 x1 H.size) (cwI 1 hts gX1_init_X2_init rfl rfl rfl (hts _ m_X1_init_iX2) (hts _ m_X1_init_m11) (hts _ m_X1_init_im_X2_init) rfl hs_X2_init ⟨Nat.le_of_ble_eq_true rfl, Nat.le_of_ble_eq_true rfl⟩) (tk_pI hE (tk_Pr (a := [(h0, .inr (1, [.null]))]) hP) (tk_Dr (a := [(h0, .inr (1, [.null]))]) hD)) rfl rfl hl.1 rfl (lv_room (Nat.le_of_ble_eq_true rfl)) dX1_init_11 ⟨Nat.le_of_ble_eq_true rfl, Nat.le_of_ble_eq_true rfl⟩) hP hD hS hA (fun u2 H locs eu2 hP hD hS => ?_)
  have hP : va_P G vwCl [(h0, .inr (1, [.null])), ((u2 0), .inr (2, [.ref (u2 1)])), ((u2 1), .inl (c3.1, 54, .inl (fun _ => 0)))] H := hP
  have hD : va_D A [(h0, .inr (1, [.null])), ((u2 0), .inr (2, [.ref (u2 1)])), ((u2 1), .inl (c3.1, 54, .inl (fun _ => 0)))] := hD
  rw [eu2] at hP hD
  have hP : va_P G vwCl [(h0, .inr (1, [.null])), (x1, .inr (2, [.ref (u2 1)])), ((u2 1), .inl (c3.1, 54, .inl (fun _ => 0)))] H := hP
  have hD : va_D A [(h0, .inr (1, [.null])), (x1, .inr (2, [.ref (u2 1)])), ((u2 1), .inl (c3.1, 54, .inl (fun _ => 0)))] := hD
  refine va_putF (D := G) (ci := 1) (v := .ref x1) (ty := .object "TarockHall$Row") (C := RX1) (T := TX1) (N := 1) hx hb hts i_X1_init_X1 tyX1 tyX1_ok nmX1 hown hE.1 hP hD hS 0 rfl rfl 0 (by decide) (hts _ m_X1_init_f14) (fun _ h9 => h9) rfl hin rfl (by decide +kernel) rfl rfl (Nat.le_of_ble_eq_true rfl) dX1_init_14 (fun H locs hP hD hS => ?_)
  have hP : va_P G vwCl [(h0, .inr (1, [.ref x1])), (x1, .inr (2, [.ref (u2 1)])), ((u2 1), .inl (c3.1, 54, .inl (fun _ => 0)))] H := hP
  have hD : va_D A [(h0, .inr (1, [.ref x1])), (x1, .inr (2, [.ref (u2 1)])), ((u2 1), .inl (c3.1, 54, .inl (fun _ => 0)))] := hD
  exact tk_rK hQ (fun k => ([h0, x1, (u2 1)] : List Nat).getD k 0) rfl rfl hx hb hr hlocks hP hD hS (Nat.le_of_ble_eq_true rfl) (Nat.le_of_ble_eq_true rfl) dX1_init_17
def p_X5_init (c3 : ClassId × ClassId × ClassId) (u : Nat → Nat) : va_W := [((u 0), .inr (5, [.ref (u 1), .int 0, .int 0])), ((u 1), .inr (2, [.ref (u 2)])), ((u 2), .inl (c3.1, 4, .inl (fun _ => 0)))]
abbrev rm_X5_init : Room := { frames := 2, cells := 2, slots := 5, locals := 42 }
set_option maxHeartbeats 4000000 in
set_option maxRecDepth 100000 in
theorem c_X5_init (l : Launch) (G : va_G) (c3 : ClassId × ClassId × ClassId) (h0 : Nat) : tk_Kv l yX5_init wsX5_init rm_X5_init G c3 [.ref h0] [(h0, .inr (5, [.null, .int 0, .int 0]))] (p_X5_init c3) h0 2 5 := by
  refine tk_ofK (cc := cX5_init) (maxL := 1) (ret := none) (by decide) rfl rfl (Nat.le_of_ble_eq_true rfl) ?_
  intro p e s m below meth c A Q ls H locs hx hb hml hr hts hown hlocks hE hA hP hD hS hin hQ hl
  have hl : lv_has ls 1 [(0, .ref h0)] := hl
  have hown : s.vm.findClass RX5 = some m.cls := hown
  refine lv_aload_n hx hb dX5_init_0 rfl (lv_at hl 0 rfl) ?_
  refine W.objInit hx hb hown (hts _ m_X5_init_m3) (hts _ m_X5_init_oi) (hts _ m_X5_init_oc) rfl (by rw [hml]; exact hl.1) rfl dX5_init_1 (Nat.le_of_ble_eq_true rfl) (Nat.le_of_ble_eq_true rfl) ?_
  refine W.eq (g2 := F0 m 4 ls []) rfl ?_
  refine lv_aload_n hx hb dX5_init_4 rfl (lv_at hl 0 rfl) ?_
  refine va_new (ci := 2) (fs := [.null]) (C := RX2) (T := TX2) (N := 1) hx hb hts i_X5_init_X2 tyX2 tyX2_ok hown (hts _ m_X5_init_n9) (hts _ m_X5_init_inX2) (hts _ m_X5_init_iX2) hE.1 hP hD hS hA rfl (fun j hj => by rcases (show j = 0 by omega) with rfl <;> rfl) (Nat.le_of_ble_eq_true rfl) (Nat.le_of_ble_eq_true rfl) dX5_init_5 (fun x1 H hP hD hS => ?_)
  have hP : va_P G vwCl [(h0, .inr (5, [.null, .int 0, .int 0])), (x1, .inr (2, [.null]))] H := hP
  have hD : va_D A [(h0, .inr (5, [.null, .int 0, .int 0])), (x1, .inr (2, [.null]))] := hD
  refine lv_dup hx hb dX5_init_8 rfl ?_
  refine lv_iconst (v := 4) hx hb dX5_init_9 (by decide) ?_
  refine tk_cvR (a := [(h0, .inr (5, [.null, .int 0, .int 0]))]) (b := [(x1, .inr (2, [.null]))]) (wf := p_X2_init_4 c3) (va_runI (As := [.int 4]) (rest := [.ref x1, .ref h0]) ⟨hx, hb, hml, hown, hts⟩ (c_X2_init_4 l G c3 x1 H.size) (cwI 1 hts gX5_init_X2_init rfl rfl rfl (hts _ m_X5_init_iX2) (hts _ m_X5_init_m11) (hts _ m_X5_init_im_X2_init) rfl hs_X2_init ⟨Nat.le_of_ble_eq_true rfl, Nat.le_of_ble_eq_true rfl⟩) (tk_pI hE (tk_Pr (a := [(h0, .inr (5, [.null, .int 0, .int 0]))]) hP) (tk_Dr (a := [(h0, .inr (5, [.null, .int 0, .int 0]))]) hD)) rfl rfl hl.1 rfl (lv_room (Nat.le_of_ble_eq_true rfl)) dX5_init_10 ⟨Nat.le_of_ble_eq_true rfl, Nat.le_of_ble_eq_true rfl⟩) hP hD hS hA (fun u2 H locs eu2 hP hD hS => ?_)
  have hP : va_P G vwCl [(h0, .inr (5, [.null, .int 0, .int 0])), ((u2 0), .inr (2, [.ref (u2 1)])), ((u2 1), .inl (c3.1, 4, .inl (fun _ => 0)))] H := hP
  have hD : va_D A [(h0, .inr (5, [.null, .int 0, .int 0])), ((u2 0), .inr (2, [.ref (u2 1)])), ((u2 1), .inl (c3.1, 4, .inl (fun _ => 0)))] := hD
  rw [eu2] at hP hD
  have hP : va_P G vwCl [(h0, .inr (5, [.null, .int 0, .int 0])), (x1, .inr (2, [.ref (u2 1)])), ((u2 1), .inl (c3.1, 4, .inl (fun _ => 0)))] H := hP
  have hD : va_D A [(h0, .inr (5, [.null, .int 0, .int 0])), (x1, .inr (2, [.ref (u2 1)])), ((u2 1), .inl (c3.1, 4, .inl (fun _ => 0)))] := hD
  refine va_putF (D := G) (ci := 5) (v := .ref x1) (ty := .object "TarockHall$Row") (C := RX5) (T := TX5) (N := 3) hx hb hts i_X5_init_X5 tyX5 tyX5_ok nmX5 hown hE.1 hP hD hS 0 rfl rfl 0 (by decide) (hts _ m_X5_init_f14) (fun _ h9 => h9) rfl hin rfl (by decide +kernel) rfl rfl (Nat.le_of_ble_eq_true rfl) dX5_init_13 (fun H locs hP hD hS => ?_)
  have hP : va_P G vwCl [(h0, .inr (5, [.ref x1, .int 0, .int 0])), (x1, .inr (2, [.ref (u2 1)])), ((u2 1), .inl (c3.1, 4, .inl (fun _ => 0)))] H := hP
  have hD : va_D A [(h0, .inr (5, [.ref x1, .int 0, .int 0])), (x1, .inr (2, [.ref (u2 1)])), ((u2 1), .inl (c3.1, 4, .inl (fun _ => 0)))] := hD
  exact tk_rK hQ (fun k => ([h0, x1, (u2 1)] : List Nat).getD k 0) rfl rfl hx hb hr hlocks hP hD hS (Nat.le_of_ble_eq_true rfl) (Nat.le_of_ble_eq_true rfl) dX5_init_16
def p_X4_init (c3 : ClassId × ClassId × ClassId) (u : Nat → Nat) : va_W := [((u 0), .inr (4, [.ref (u 1), .ref (u 3), .int 0])), ((u 1), .inr (2, [.ref (u 2)])), ((u 2), .inl (c3.1, 4, .inl (fun _ => 0))), ((u 3), .inr (2, [.ref (u 4)])), ((u 4), .inl (c3.1, 4, .inl (fun _ => 0)))]
abbrev rm_X4_init : Room := { frames := 2, cells := 4, slots := 10, locals := 42 }
set_option maxHeartbeats 4000000 in
set_option maxRecDepth 100000 in
theorem c_X4_init (l : Launch) (G : va_G) (c3 : ClassId × ClassId × ClassId) (h0 : Nat) : tk_Kv l yX4_init wsX4_init rm_X4_init G c3 [.ref h0] [(h0, .inr (4, [.null, .null, .int 0]))] (p_X4_init c3) h0 4 10 := by
  refine tk_ofK (cc := cX4_init) (maxL := 1) (ret := none) (by decide) rfl rfl (Nat.le_of_ble_eq_true rfl) ?_
  intro p e s m below meth c A Q ls H locs hx hb hml hr hts hown hlocks hE hA hP hD hS hin hQ hl
  have hl : lv_has ls 1 [(0, .ref h0)] := hl
  have hown : s.vm.findClass RX4 = some m.cls := hown
  refine lv_aload_n hx hb dX4_init_0 rfl (lv_at hl 0 rfl) ?_
  refine W.objInit hx hb hown (hts _ m_X4_init_m3) (hts _ m_X4_init_oi) (hts _ m_X4_init_oc) rfl (by rw [hml]; exact hl.1) rfl dX4_init_1 (Nat.le_of_ble_eq_true rfl) (Nat.le_of_ble_eq_true rfl) ?_
  refine W.eq (g2 := F0 m 4 ls []) rfl ?_
  refine lv_aload_n hx hb dX4_init_4 rfl (lv_at hl 0 rfl) ?_
  refine va_new (ci := 2) (fs := [.null]) (C := RX2) (T := TX2) (N := 1) hx hb hts i_X4_init_X2 tyX2 tyX2_ok hown (hts _ m_X4_init_n9) (hts _ m_X4_init_inX2) (hts _ m_X4_init_iX2) hE.1 hP hD hS hA rfl (fun j hj => by rcases (show j = 0 by omega) with rfl <;> rfl) (Nat.le_of_ble_eq_true rfl) (Nat.le_of_ble_eq_true rfl) dX4_init_5 (fun x1 H hP hD hS => ?_)
  have hP : va_P G vwCl [(h0, .inr (4, [.null, .null, .int 0])), (x1, .inr (2, [.null]))] H := hP
  have hD : va_D A [(h0, .inr (4, [.null, .null, .int 0])), (x1, .inr (2, [.null]))] := hD
  refine lv_dup hx hb dX4_init_8 rfl ?_
  refine lv_iconst (v := 4) hx hb dX4_init_9 (by decide) ?_
  refine tk_cvR (a := [(h0, .inr (4, [.null, .null, .int 0]))]) (b := [(x1, .inr (2, [.null]))]) (wf := p_X2_init_4 c3) (va_runI (As := [.int 4]) (rest := [.ref x1, .ref h0]) ⟨hx, hb, hml, hown, hts⟩ (c_X2_init_4 l G c3 x1 H.size) (cwI 1 hts gX4_init_X2_init rfl rfl rfl (hts _ m_X4_init_iX2) (hts _ m_X4_init_m11) (hts _ m_X4_init_im_X2_init) rfl hs_X2_init ⟨Nat.le_of_ble_eq_true rfl, Nat.le_of_ble_eq_true rfl⟩) (tk_pI hE (tk_Pr (a := [(h0, .inr (4, [.null, .null, .int 0]))]) hP) (tk_Dr (a := [(h0, .inr (4, [.null, .null, .int 0]))]) hD)) rfl rfl hl.1 rfl (lv_room (Nat.le_of_ble_eq_true rfl)) dX4_init_10 ⟨Nat.le_of_ble_eq_true rfl, Nat.le_of_ble_eq_true rfl⟩) hP hD hS hA (fun u2 H locs eu2 hP hD hS => ?_)
  have hP : va_P G vwCl [(h0, .inr (4, [.null, .null, .int 0])), ((u2 0), .inr (2, [.ref (u2 1)])), ((u2 1), .inl (c3.1, 4, .inl (fun _ => 0)))] H := hP
  have hD : va_D A [(h0, .inr (4, [.null, .null, .int 0])), ((u2 0), .inr (2, [.ref (u2 1)])), ((u2 1), .inl (c3.1, 4, .inl (fun _ => 0)))] := hD
  rw [eu2] at hP hD
  have hP : va_P G vwCl [(h0, .inr (4, [.null, .null, .int 0])), (x1, .inr (2, [.ref (u2 1)])), ((u2 1), .inl (c3.1, 4, .inl (fun _ => 0)))] H := hP
  have hD : va_D A [(h0, .inr (4, [.null, .null, .int 0])), (x1, .inr (2, [.ref (u2 1)])), ((u2 1), .inl (c3.1, 4, .inl (fun _ => 0)))] := hD
  refine va_putF (D := G) (ci := 4) (v := .ref x1) (ty := .object "TarockHall$Row") (C := RX4) (T := TX4) (N := 3) hx hb hts i_X4_init_X4 tyX4 tyX4_ok nmX4 hown hE.1 hP hD hS 0 rfl rfl 0 (by decide) (hts _ m_X4_init_f14) (fun _ h9 => h9) rfl hin rfl (by decide +kernel) rfl rfl (Nat.le_of_ble_eq_true rfl) dX4_init_13 (fun H locs hP hD hS => ?_)
  have hP : va_P G vwCl [(h0, .inr (4, [.ref x1, .null, .int 0])), (x1, .inr (2, [.ref (u2 1)])), ((u2 1), .inl (c3.1, 4, .inl (fun _ => 0)))] H := hP
  have hD : va_D A [(h0, .inr (4, [.ref x1, .null, .int 0])), (x1, .inr (2, [.ref (u2 1)])), ((u2 1), .inl (c3.1, 4, .inl (fun _ => 0)))] := hD
  refine lv_aload_n hx hb dX4_init_16 rfl (lv_at hl 0 rfl) ?_
  refine va_new (ci := 2) (fs := [.null]) (C := RX2) (T := TX2) (N := 1) hx hb hts i_X4_init_X2 tyX2 tyX2_ok hown (hts _ m_X4_init_n9) (hts _ m_X4_init_inX2) (hts _ m_X4_init_iX2) hE.1 hP hD hS hA rfl (fun j hj => by rcases (show j = 0 by omega) with rfl <;> rfl) (Nat.le_of_ble_eq_true rfl) (Nat.le_of_ble_eq_true rfl) dX4_init_17 (fun x3 H hP hD hS => ?_)
  have hP : va_P G vwCl [(h0, .inr (4, [.ref x1, .null, .int 0])), (x1, .inr (2, [.ref (u2 1)])), ((u2 1), .inl (c3.1, 4, .inl (fun _ => 0))), (x3, .inr (2, [.null]))] H := hP
  have hD : va_D A [(h0, .inr (4, [.ref x1, .null, .int 0])), (x1, .inr (2, [.ref (u2 1)])), ((u2 1), .inl (c3.1, 4, .inl (fun _ => 0))), (x3, .inr (2, [.null]))] := hD
  refine lv_dup hx hb dX4_init_20 rfl ?_
  refine lv_iconst (v := 4) hx hb dX4_init_21 (by decide) ?_
  refine tk_cvR (a := [(h0, .inr (4, [.ref x1, .null, .int 0])), (x1, .inr (2, [.ref (u2 1)])), ((u2 1), .inl (c3.1, 4, .inl (fun _ => 0)))]) (b := [(x3, .inr (2, [.null]))]) (wf := p_X2_init_4 c3) (va_runI (As := [.int 4]) (rest := [.ref x3, .ref h0]) ⟨hx, hb, hml, hown, hts⟩ (c_X2_init_4 l G c3 x3 H.size) (cwI 1 hts gX4_init_X2_init rfl rfl rfl (hts _ m_X4_init_iX2) (hts _ m_X4_init_m11) (hts _ m_X4_init_im_X2_init) rfl hs_X2_init ⟨Nat.le_of_ble_eq_true rfl, Nat.le_of_ble_eq_true rfl⟩) (tk_pI hE (tk_Pr (a := [(h0, .inr (4, [.ref x1, .null, .int 0])), (x1, .inr (2, [.ref (u2 1)])), ((u2 1), .inl (c3.1, 4, .inl (fun _ => 0)))]) hP) (tk_Dr (a := [(h0, .inr (4, [.ref x1, .null, .int 0])), (x1, .inr (2, [.ref (u2 1)])), ((u2 1), .inl (c3.1, 4, .inl (fun _ => 0)))]) hD)) rfl rfl hl.1 rfl (lv_room (Nat.le_of_ble_eq_true rfl)) dX4_init_22 ⟨Nat.le_of_ble_eq_true rfl, Nat.le_of_ble_eq_true rfl⟩) hP hD hS hA (fun u4 H locs eu4 hP hD hS => ?_)
  have hP : va_P G vwCl [(h0, .inr (4, [.ref x1, .null, .int 0])), (x1, .inr (2, [.ref (u2 1)])), ((u2 1), .inl (c3.1, 4, .inl (fun _ => 0))), ((u4 0), .inr (2, [.ref (u4 1)])), ((u4 1), .inl (c3.1, 4, .inl (fun _ => 0)))] H := hP
  have hD : va_D A [(h0, .inr (4, [.ref x1, .null, .int 0])), (x1, .inr (2, [.ref (u2 1)])), ((u2 1), .inl (c3.1, 4, .inl (fun _ => 0))), ((u4 0), .inr (2, [.ref (u4 1)])), ((u4 1), .inl (c3.1, 4, .inl (fun _ => 0)))] := hD
  rw [eu4] at hP hD
  have hP : va_P G vwCl [(h0, .inr (4, [.ref x1, .null, .int 0])), (x1, .inr (2, [.ref (u2 1)])), ((u2 1), .inl (c3.1, 4, .inl (fun _ => 0))), (x3, .inr (2, [.ref (u4 1)])), ((u4 1), .inl (c3.1, 4, .inl (fun _ => 0)))] H := hP
  have hD : va_D A [(h0, .inr (4, [.ref x1, .null, .int 0])), (x1, .inr (2, [.ref (u2 1)])), ((u2 1), .inl (c3.1, 4, .inl (fun _ => 0))), (x3, .inr (2, [.ref (u4 1)])), ((u4 1), .inl (c3.1, 4, .inl (fun _ => 0)))] := hD
  refine va_putF (D := G) (ci := 4) (v := .ref x3) (ty := .object "TarockHall$Row") (C := RX4) (T := TX4) (N := 3) hx hb hts i_X4_init_X4 tyX4 tyX4_ok nmX4 hown hE.1 hP hD hS 0 rfl rfl 1 (by decide) (hts _ m_X4_init_f20) (fun _ h9 => h9) rfl hin rfl (by decide +kernel) rfl rfl (Nat.le_of_ble_eq_true rfl) dX4_init_25 (fun H locs hP hD hS => ?_)
  have hP : va_P G vwCl [(h0, .inr (4, [.ref x1, .ref x3, .int 0])), (x1, .inr (2, [.ref (u2 1)])), ((u2 1), .inl (c3.1, 4, .inl (fun _ => 0))), (x3, .inr (2, [.ref (u4 1)])), ((u4 1), .inl (c3.1, 4, .inl (fun _ => 0)))] H := hP
  have hD : va_D A [(h0, .inr (4, [.ref x1, .ref x3, .int 0])), (x1, .inr (2, [.ref (u2 1)])), ((u2 1), .inl (c3.1, 4, .inl (fun _ => 0))), (x3, .inr (2, [.ref (u4 1)])), ((u4 1), .inl (c3.1, 4, .inl (fun _ => 0)))] := hD
  exact tk_rK hQ (fun k => ([h0, x1, (u2 1), x3, (u4 1)] : List Nat).getD k 0) rfl rfl hx hb hr hlocks hP hD hS (Nat.le_of_ble_eq_true rfl) (Nat.le_of_ble_eq_true rfl) dX4_init_28
def p_X6_init (c3 : ClassId × ClassId × ClassId) (u : Nat → Nat) : va_W := [((u 0), .inr (6, [.ref (u 1), .ref (u 4), .ref (u 5), .ref (u 8), .ref (u 13), .ref (u 15), .int (-1), .int 0, .int (-1), .int (-1), .int (-1), .int (-1), .int (-1), .int 0, .long 0, .long 0, .int 0, .int 0])), ((u 1), .inr (1, [.ref (u 2)])), ((u 2), .inr (2, [.ref (u 3)])), ((u 3), .inl (c3.1, 54, .inl (fun _ => 0))), ((u 4), .inr (0, [.int 0, .int 0, .int (-1)])), ((u 5), .inr (5, [.ref (u 6), .int 0, .int 0])), ((u 6), .inr (2, [.ref (u 7)])), ((u 7), .inl (c3.1, 4, .inl (fun _ => 0))), ((u 8), .inr (4, [.ref (u 9), .ref (u 11), .int 0])), ((u 9), .inr (2, [.ref (u 10)])), ((u 10), .inl (c3.1, 4, .inl (fun _ => 0))), ((u 11), .inr (2, [.ref (u 12)])), ((u 12), .inl (c3.1, 4, .inl (fun _ => 0))), ((u 13), .inr (3, [.ref (u 14)])), ((u 14), .inl (c3.2.1, 4, .inr (.inl (fun _ => 0)))), ((u 15), .inr (3, [.ref (u 16)])), ((u 16), .inl (c3.2.1, 2, .inr (.inl (fun _ => 0))))]
abbrev rm_X6_init : Room := { frames := 3, cells := 16, slots := 88, locals := 62 }
set_option maxHeartbeats 4000000 in
set_option maxRecDepth 100000 in
theorem c_X6_init (l : Launch) (G : va_G) (c3 : ClassId × ClassId × ClassId) (h0 : Nat) : tk_Kv l yX6_init wsX6_init rm_X6_init G c3 [.ref h0] [(h0, .inr (6, [.null, .null, .null, .null, .null, .null, .int 0, .int 0, .int 0, .int 0, .int 0, .int 0, .int 0, .int 0, .long 0, .long 0, .int 0, .int 0]))] (p_X6_init c3) h0 16 88 := by
  refine tk_ofK (cc := cX6_init) (maxL := 1) (ret := none) (by decide) rfl rfl (Nat.le_of_ble_eq_true rfl) ?_
  intro p e s m below meth c A Q ls H locs hx hb hml hr hts hown hlocks hE hA hP hD hS hin hQ hl
  have hl : lv_has ls 1 [(0, .ref h0)] := hl
  have hown : s.vm.findClass RX6 = some m.cls := hown
  refine lv_aload_n hx hb dX6_init_0 rfl (lv_at hl 0 rfl) ?_
  refine W.objInit hx hb hown (hts _ m_X6_init_m3) (hts _ m_X6_init_oi) (hts _ m_X6_init_oc) rfl (by rw [hml]; exact hl.1) rfl dX6_init_1 (Nat.le_of_ble_eq_true rfl) (Nat.le_of_ble_eq_true rfl) ?_
  refine W.eq (g2 := F0 m 4 ls []) rfl ?_
  refine lv_aload_n hx hb dX6_init_4 rfl (lv_at hl 0 rfl) ?_
  refine va_new (ci := 1) (fs := [.null]) (C := RX1) (T := TX1) (N := 1) hx hb hts i_X6_init_X1 tyX1 tyX1_ok hown (hts _ m_X6_init_n9) (hts _ m_X6_init_inX1) (hts _ m_X6_init_iX1) hE.1 hP hD hS hA rfl (fun j hj => by rcases (show j = 0 by omega) with rfl <;> rfl) (Nat.le_of_ble_eq_true rfl) (Nat.le_of_ble_eq_true rfl) dX6_init_5 (fun x1 H hP hD hS => ?_)
  have hP : va_P G vwCl [(h0, .inr (6, [.null, .null, .null, .null, .null, .null, .int 0, .int 0, .int 0, .int 0, .int 0, .int 0, .int 0, .int 0, .long 0, .long 0, .int 0, .int 0])), (x1, .inr (1, [.null]))] H := hP
  have hD : va_D A [(h0, .inr (6, [.null, .null, .null, .null, .null, .null, .int 0, .int 0, .int 0, .int 0, .int 0, .int 0, .int 0, .int 0, .long 0, .long 0, .int 0, .int 0])), (x1, .inr (1, [.null]))] := hD
  refine lv_dup hx hb dX6_init_8 rfl ?_
  refine tk_cvR (a := [(h0, .inr (6, [.null, .null, .null, .null, .null, .null, .int 0, .int 0, .int 0, .int 0, .int 0, .int 0, .int 0, .int 0, .long 0, .long 0, .int 0, .int 0]))]) (b := [(x1, .inr (1, [.null]))]) (wf := p_X1_init c3) (va_runI (As := []) (rest := [.ref x1, .ref h0]) ⟨hx, hb, hml, hown, hts⟩ (c_X1_init l G c3 x1 H.size) (cwI 0 hts gX6_init_X1_init rfl rfl rfl (hts _ m_X6_init_iX1) (hts _ m_X6_init_m11) (hts _ m_X6_init_im_X1_init) rfl hs_X1_init ⟨Nat.le_of_ble_eq_true rfl, Nat.le_of_ble_eq_true rfl⟩) (tk_pI hE (tk_Pr (a := [(h0, .inr (6, [.null, .null, .null, .null, .null, .null, .int 0, .int 0, .int 0, .int 0, .int 0, .int 0, .int 0, .int 0, .long 0, .long 0, .int 0, .int 0]))]) hP) (tk_Dr (a := [(h0, .inr (6, [.null, .null, .null, .null, .null, .null, .int 0, .int 0, .int 0, .int 0, .int 0, .int 0, .int 0, .int 0, .long 0, .long 0, .int 0, .int 0]))]) hD)) rfl rfl hl.1 rfl (lv_room (Nat.le_of_ble_eq_true rfl)) dX6_init_9 ⟨Nat.le_of_ble_eq_true rfl, Nat.le_of_ble_eq_true rfl⟩) hP hD hS hA (fun u2 H locs eu2 hP hD hS => ?_)
  have hP : va_P G vwCl [(h0, .inr (6, [.null, .null, .null, .null, .null, .null, .int 0, .int 0, .int 0, .int 0, .int 0, .int 0, .int 0, .int 0, .long 0, .long 0, .int 0, .int 0])), ((u2 0), .inr (1, [.ref (u2 1)])), ((u2 1), .inr (2, [.ref (u2 2)])), ((u2 2), .inl (c3.1, 54, .inl (fun _ => 0)))] H := hP
  have hD : va_D A [(h0, .inr (6, [.null, .null, .null, .null, .null, .null, .int 0, .int 0, .int 0, .int 0, .int 0, .int 0, .int 0, .int 0, .long 0, .long 0, .int 0, .int 0])), ((u2 0), .inr (1, [.ref (u2 1)])), ((u2 1), .inr (2, [.ref (u2 2)])), ((u2 2), .inl (c3.1, 54, .inl (fun _ => 0)))] := hD
  rw [eu2] at hP hD
  have hP : va_P G vwCl [(h0, .inr (6, [.null, .null, .null, .null, .null, .null, .int 0, .int 0, .int 0, .int 0, .int 0, .int 0, .int 0, .int 0, .long 0, .long 0, .int 0, .int 0])), (x1, .inr (1, [.ref (u2 1)])), ((u2 1), .inr (2, [.ref (u2 2)])), ((u2 2), .inl (c3.1, 54, .inl (fun _ => 0)))] H := hP
  have hD : va_D A [(h0, .inr (6, [.null, .null, .null, .null, .null, .null, .int 0, .int 0, .int 0, .int 0, .int 0, .int 0, .int 0, .int 0, .long 0, .long 0, .int 0, .int 0])), (x1, .inr (1, [.ref (u2 1)])), ((u2 1), .inr (2, [.ref (u2 2)])), ((u2 2), .inl (c3.1, 54, .inl (fun _ => 0)))] := hD
  refine va_putF (D := G) (ci := 6) (v := .ref x1) (ty := .object "TarockHall$Deck") (C := RX6) (T := TX6) (N := 18) hx hb hts i_X6_init_X6 tyX6 tyX6_ok nmX6 hown hE.1 hP hD hS 0 rfl rfl 0 (by decide) (hts _ m_X6_init_f12) (fun _ h9 => h9) rfl hin rfl (by decide +kernel) rfl rfl (Nat.le_of_ble_eq_true rfl) dX6_init_12 (fun H locs hP hD hS => ?_)
  have hP : va_P G vwCl [(h0, .inr (6, [.ref x1, .null, .null, .null, .null, .null, .int 0, .int 0, .int 0, .int 0, .int 0, .int 0, .int 0, .int 0, .long 0, .long 0, .int 0, .int 0])), (x1, .inr (1, [.ref (u2 1)])), ((u2 1), .inr (2, [.ref (u2 2)])), ((u2 2), .inl (c3.1, 54, .inl (fun _ => 0)))] H := hP
  have hD : va_D A [(h0, .inr (6, [.ref x1, .null, .null, .null, .null, .null, .int 0, .int 0, .int 0, .int 0, .int 0, .int 0, .int 0, .int 0, .long 0, .long 0, .int 0, .int 0])), (x1, .inr (1, [.ref (u2 1)])), ((u2 1), .inr (2, [.ref (u2 2)])), ((u2 2), .inl (c3.1, 54, .inl (fun _ => 0)))] := hD
  refine lv_aload_n hx hb dX6_init_15 rfl (lv_at hl 0 rfl) ?_
  refine va_new (ci := 0) (fs := [.int 0, .int 0, .int 0]) (C := RX0) (T := TX0) (N := 3) hx hb hts i_X6_init_X0 tyX0 tyX0_ok hown (hts _ m_X6_init_n16) (hts _ m_X6_init_inX0) (hts _ m_X6_init_iX0) hE.1 hP hD hS hA rfl (fun j hj => by rcases (show j = 0 ∨ j = 1 ∨ j = 2 by omega) with rfl | rfl | rfl <;> rfl) (Nat.le_of_ble_eq_true rfl) (Nat.le_of_ble_eq_true rfl) dX6_init_16 (fun x3 H hP hD hS => ?_)
  have hP : va_P G vwCl [(h0, .inr (6, [.ref x1, .null, .null, .null, .null, .null, .int 0, .int 0, .int 0, .int 0, .int 0, .int 0, .int 0, .int 0, .long 0, .long 0, .int 0, .int 0])), (x1, .inr (1, [.ref (u2 1)])), ((u2 1), .inr (2, [.ref (u2 2)])), ((u2 2), .inl (c3.1, 54, .inl (fun _ => 0))), (x3, .inr (0, [.int 0, .int 0, .int 0]))] H := hP
  have hD : va_D A [(h0, .inr (6, [.ref x1, .null, .null, .null, .null, .null, .int 0, .int 0, .int 0, .int 0, .int 0, .int 0, .int 0, .int 0, .long 0, .long 0, .int 0, .int 0])), (x1, .inr (1, [.ref (u2 1)])), ((u2 1), .inr (2, [.ref (u2 2)])), ((u2 2), .inl (c3.1, 54, .inl (fun _ => 0))), (x3, .inr (0, [.int 0, .int 0, .int 0]))] := hD
  refine lv_dup hx hb dX6_init_19 rfl ?_
  refine tk_cvR (a := [(h0, .inr (6, [.ref x1, .null, .null, .null, .null, .null, .int 0, .int 0, .int 0, .int 0, .int 0, .int 0, .int 0, .int 0, .long 0, .long 0, .int 0, .int 0])), (x1, .inr (1, [.ref (u2 1)])), ((u2 1), .inr (2, [.ref (u2 2)])), ((u2 2), .inl (c3.1, 54, .inl (fun _ => 0)))]) (b := [(x3, .inr (0, [.int 0, .int 0, .int 0]))]) (wf := p_X0_init c3) (va_runI (As := []) (rest := [.ref x3, .ref h0]) ⟨hx, hb, hml, hown, hts⟩ (c_X0_init l G c3 x3 H.size) (cwI 0 hts gX6_init_X0_init rfl rfl rfl (hts _ m_X6_init_iX0) (hts _ m_X6_init_m18) (hts _ m_X6_init_im_X0_init) rfl hs_X0_init ⟨Nat.le_of_ble_eq_true rfl, Nat.le_of_ble_eq_true rfl⟩) (tk_pI hE (tk_Pr (a := [(h0, .inr (6, [.ref x1, .null, .null, .null, .null, .null, .int 0, .int 0, .int 0, .int 0, .int 0, .int 0, .int 0, .int 0, .long 0, .long 0, .int 0, .int 0])), (x1, .inr (1, [.ref (u2 1)])), ((u2 1), .inr (2, [.ref (u2 2)])), ((u2 2), .inl (c3.1, 54, .inl (fun _ => 0)))]) hP) (tk_Dr (a := [(h0, .inr (6, [.ref x1, .null, .null, .null, .null, .null, .int 0, .int 0, .int 0, .int 0, .int 0, .int 0, .int 0, .int 0, .long 0, .long 0, .int 0, .int 0])), (x1, .inr (1, [.ref (u2 1)])), ((u2 1), .inr (2, [.ref (u2 2)])), ((u2 2), .inl (c3.1, 54, .inl (fun _ => 0)))]) hD)) rfl rfl hl.1 rfl (lv_room (Nat.le_of_ble_eq_true rfl)) dX6_init_20 ⟨Nat.le_of_ble_eq_true rfl, Nat.le_of_ble_eq_true rfl⟩) hP hD hS hA (fun u4 H locs eu4 hP hD hS => ?_)
  have hP : va_P G vwCl [(h0, .inr (6, [.ref x1, .null, .null, .null, .null, .null, .int 0, .int 0, .int 0, .int 0, .int 0, .int 0, .int 0, .int 0, .long 0, .long 0, .int 0, .int 0])), (x1, .inr (1, [.ref (u2 1)])), ((u2 1), .inr (2, [.ref (u2 2)])), ((u2 2), .inl (c3.1, 54, .inl (fun _ => 0))), ((u4 0), .inr (0, [.int 0, .int 0, .int (-1)]))] H := hP
  have hD : va_D A [(h0, .inr (6, [.ref x1, .null, .null, .null, .null, .null, .int 0, .int 0, .int 0, .int 0, .int 0, .int 0, .int 0, .int 0, .long 0, .long 0, .int 0, .int 0])), (x1, .inr (1, [.ref (u2 1)])), ((u2 1), .inr (2, [.ref (u2 2)])), ((u2 2), .inl (c3.1, 54, .inl (fun _ => 0))), ((u4 0), .inr (0, [.int 0, .int 0, .int (-1)]))] := hD
  rw [eu4] at hP hD
  have hP : va_P G vwCl [(h0, .inr (6, [.ref x1, .null, .null, .null, .null, .null, .int 0, .int 0, .int 0, .int 0, .int 0, .int 0, .int 0, .int 0, .long 0, .long 0, .int 0, .int 0])), (x1, .inr (1, [.ref (u2 1)])), ((u2 1), .inr (2, [.ref (u2 2)])), ((u2 2), .inl (c3.1, 54, .inl (fun _ => 0))), (x3, .inr (0, [.int 0, .int 0, .int (-1)]))] H := hP
  have hD : va_D A [(h0, .inr (6, [.ref x1, .null, .null, .null, .null, .null, .int 0, .int 0, .int 0, .int 0, .int 0, .int 0, .int 0, .int 0, .long 0, .long 0, .int 0, .int 0])), (x1, .inr (1, [.ref (u2 1)])), ((u2 1), .inr (2, [.ref (u2 2)])), ((u2 2), .inl (c3.1, 54, .inl (fun _ => 0))), (x3, .inr (0, [.int 0, .int 0, .int (-1)]))] := hD
  refine va_putF (D := G) (ci := 6) (v := .ref x3) (ty := .object "TarockHall$Bidding") (C := RX6) (T := TX6) (N := 18) hx hb hts i_X6_init_X6 tyX6 tyX6_ok nmX6 hown hE.1 hP hD hS 0 rfl rfl 1 (by decide) (hts _ m_X6_init_f19) (fun _ h9 => h9) rfl hin rfl (by decide +kernel) rfl rfl (Nat.le_of_ble_eq_true rfl) dX6_init_23 (fun H locs hP hD hS => ?_)
  have hP : va_P G vwCl [(h0, .inr (6, [.ref x1, .ref x3, .null, .null, .null, .null, .int 0, .int 0, .int 0, .int 0, .int 0, .int 0, .int 0, .int 0, .long 0, .long 0, .int 0, .int 0])), (x1, .inr (1, [.ref (u2 1)])), ((u2 1), .inr (2, [.ref (u2 2)])), ((u2 2), .inl (c3.1, 54, .inl (fun _ => 0))), (x3, .inr (0, [.int 0, .int 0, .int (-1)]))] H := hP
  have hD : va_D A [(h0, .inr (6, [.ref x1, .ref x3, .null, .null, .null, .null, .int 0, .int 0, .int 0, .int 0, .int 0, .int 0, .int 0, .int 0, .long 0, .long 0, .int 0, .int 0])), (x1, .inr (1, [.ref (u2 1)])), ((u2 1), .inr (2, [.ref (u2 2)])), ((u2 2), .inl (c3.1, 54, .inl (fun _ => 0))), (x3, .inr (0, [.int 0, .int 0, .int (-1)]))] := hD
  refine lv_aload_n hx hb dX6_init_26 rfl (lv_at hl 0 rfl) ?_
  refine va_new (ci := 5) (fs := [.null, .int 0, .int 0]) (C := RX5) (T := TX5) (N := 3) hx hb hts i_X6_init_X5 tyX5 tyX5_ok hown (hts _ m_X6_init_n23) (hts _ m_X6_init_inX5) (hts _ m_X6_init_iX5) hE.1 hP hD hS hA rfl (fun j hj => by rcases (show j = 0 ∨ j = 1 ∨ j = 2 by omega) with rfl | rfl | rfl <;> rfl) (Nat.le_of_ble_eq_true rfl) (Nat.le_of_ble_eq_true rfl) dX6_init_27 (fun x5 H hP hD hS => ?_)
  have hP : va_P G vwCl [(h0, .inr (6, [.ref x1, .ref x3, .null, .null, .null, .null, .int 0, .int 0, .int 0, .int 0, .int 0, .int 0, .int 0, .int 0, .long 0, .long 0, .int 0, .int 0])), (x1, .inr (1, [.ref (u2 1)])), ((u2 1), .inr (2, [.ref (u2 2)])), ((u2 2), .inl (c3.1, 54, .inl (fun _ => 0))), (x3, .inr (0, [.int 0, .int 0, .int (-1)])), (x5, .inr (5, [.null, .int 0, .int 0]))] H := hP
  have hD : va_D A [(h0, .inr (6, [.ref x1, .ref x3, .null, .null, .null, .null, .int 0, .int 0, .int 0, .int 0, .int 0, .int 0, .int 0, .int 0, .long 0, .long 0, .int 0, .int 0])), (x1, .inr (1, [.ref (u2 1)])), ((u2 1), .inr (2, [.ref (u2 2)])), ((u2 2), .inl (c3.1, 54, .inl (fun _ => 0))), (x3, .inr (0, [.int 0, .int 0, .int (-1)])), (x5, .inr (5, [.null, .int 0, .int 0]))] := hD
  refine lv_dup hx hb dX6_init_30 rfl ?_
  refine tk_cvR (a := [(h0, .inr (6, [.ref x1, .ref x3, .null, .null, .null, .null, .int 0, .int 0, .int 0, .int 0, .int 0, .int 0, .int 0, .int 0, .long 0, .long 0, .int 0, .int 0])), (x1, .inr (1, [.ref (u2 1)])), ((u2 1), .inr (2, [.ref (u2 2)])), ((u2 2), .inl (c3.1, 54, .inl (fun _ => 0))), (x3, .inr (0, [.int 0, .int 0, .int (-1)]))]) (b := [(x5, .inr (5, [.null, .int 0, .int 0]))]) (wf := p_X5_init c3) (va_runI (As := []) (rest := [.ref x5, .ref h0]) ⟨hx, hb, hml, hown, hts⟩ (c_X5_init l G c3 x5 H.size) (cwI 0 hts gX6_init_X5_init rfl rfl rfl (hts _ m_X6_init_iX5) (hts _ m_X6_init_m25) (hts _ m_X6_init_im_X5_init) rfl hs_X5_init ⟨Nat.le_of_ble_eq_true rfl, Nat.le_of_ble_eq_true rfl⟩) (tk_pI hE (tk_Pr (a := [(h0, .inr (6, [.ref x1, .ref x3, .null, .null, .null, .null, .int 0, .int 0, .int 0, .int 0, .int 0, .int 0, .int 0, .int 0, .long 0, .long 0, .int 0, .int 0])), (x1, .inr (1, [.ref (u2 1)])), ((u2 1), .inr (2, [.ref (u2 2)])), ((u2 2), .inl (c3.1, 54, .inl (fun _ => 0))), (x3, .inr (0, [.int 0, .int 0, .int (-1)]))]) hP) (tk_Dr (a := [(h0, .inr (6, [.ref x1, .ref x3, .null, .null, .null, .null, .int 0, .int 0, .int 0, .int 0, .int 0, .int 0, .int 0, .int 0, .long 0, .long 0, .int 0, .int 0])), (x1, .inr (1, [.ref (u2 1)])), ((u2 1), .inr (2, [.ref (u2 2)])), ((u2 2), .inl (c3.1, 54, .inl (fun _ => 0))), (x3, .inr (0, [.int 0, .int 0, .int (-1)]))]) hD)) rfl rfl hl.1 rfl (lv_room (Nat.le_of_ble_eq_true rfl)) dX6_init_31 ⟨Nat.le_of_ble_eq_true rfl, Nat.le_of_ble_eq_true rfl⟩) hP hD hS hA (fun u6 H locs eu6 hP hD hS => ?_)
  have hP : va_P G vwCl [(h0, .inr (6, [.ref x1, .ref x3, .null, .null, .null, .null, .int 0, .int 0, .int 0, .int 0, .int 0, .int 0, .int 0, .int 0, .long 0, .long 0, .int 0, .int 0])), (x1, .inr (1, [.ref (u2 1)])), ((u2 1), .inr (2, [.ref (u2 2)])), ((u2 2), .inl (c3.1, 54, .inl (fun _ => 0))), (x3, .inr (0, [.int 0, .int 0, .int (-1)])), ((u6 0), .inr (5, [.ref (u6 1), .int 0, .int 0])), ((u6 1), .inr (2, [.ref (u6 2)])), ((u6 2), .inl (c3.1, 4, .inl (fun _ => 0)))] H := hP
  have hD : va_D A [(h0, .inr (6, [.ref x1, .ref x3, .null, .null, .null, .null, .int 0, .int 0, .int 0, .int 0, .int 0, .int 0, .int 0, .int 0, .long 0, .long 0, .int 0, .int 0])), (x1, .inr (1, [.ref (u2 1)])), ((u2 1), .inr (2, [.ref (u2 2)])), ((u2 2), .inl (c3.1, 54, .inl (fun _ => 0))), (x3, .inr (0, [.int 0, .int 0, .int (-1)])), ((u6 0), .inr (5, [.ref (u6 1), .int 0, .int 0])), ((u6 1), .inr (2, [.ref (u6 2)])), ((u6 2), .inl (c3.1, 4, .inl (fun _ => 0)))] := hD
  rw [eu6] at hP hD
  have hP : va_P G vwCl [(h0, .inr (6, [.ref x1, .ref x3, .null, .null, .null, .null, .int 0, .int 0, .int 0, .int 0, .int 0, .int 0, .int 0, .int 0, .long 0, .long 0, .int 0, .int 0])), (x1, .inr (1, [.ref (u2 1)])), ((u2 1), .inr (2, [.ref (u2 2)])), ((u2 2), .inl (c3.1, 54, .inl (fun _ => 0))), (x3, .inr (0, [.int 0, .int 0, .int (-1)])), (x5, .inr (5, [.ref (u6 1), .int 0, .int 0])), ((u6 1), .inr (2, [.ref (u6 2)])), ((u6 2), .inl (c3.1, 4, .inl (fun _ => 0)))] H := hP
  have hD : va_D A [(h0, .inr (6, [.ref x1, .ref x3, .null, .null, .null, .null, .int 0, .int 0, .int 0, .int 0, .int 0, .int 0, .int 0, .int 0, .long 0, .long 0, .int 0, .int 0])), (x1, .inr (1, [.ref (u2 1)])), ((u2 1), .inr (2, [.ref (u2 2)])), ((u2 2), .inl (c3.1, 54, .inl (fun _ => 0))), (x3, .inr (0, [.int 0, .int 0, .int (-1)])), (x5, .inr (5, [.ref (u6 1), .int 0, .int 0])), ((u6 1), .inr (2, [.ref (u6 2)])), ((u6 2), .inl (c3.1, 4, .inl (fun _ => 0)))] := hD
  refine va_putF (D := G) (ci := 6) (v := .ref x5) (ty := .object "TarockHall$Trick") (C := RX6) (T := TX6) (N := 18) hx hb hts i_X6_init_X6 tyX6 tyX6_ok nmX6 hown hE.1 hP hD hS 0 rfl rfl 2 (by decide) (hts _ m_X6_init_f26) (fun _ h9 => h9) rfl hin rfl (by decide +kernel) rfl rfl (Nat.le_of_ble_eq_true rfl) dX6_init_34 (fun H locs hP hD hS => ?_)
  have hP : va_P G vwCl [(h0, .inr (6, [.ref x1, .ref x3, .ref x5, .null, .null, .null, .int 0, .int 0, .int 0, .int 0, .int 0, .int 0, .int 0, .int 0, .long 0, .long 0, .int 0, .int 0])), (x1, .inr (1, [.ref (u2 1)])), ((u2 1), .inr (2, [.ref (u2 2)])), ((u2 2), .inl (c3.1, 54, .inl (fun _ => 0))), (x3, .inr (0, [.int 0, .int 0, .int (-1)])), (x5, .inr (5, [.ref (u6 1), .int 0, .int 0])), ((u6 1), .inr (2, [.ref (u6 2)])), ((u6 2), .inl (c3.1, 4, .inl (fun _ => 0)))] H := hP
  have hD : va_D A [(h0, .inr (6, [.ref x1, .ref x3, .ref x5, .null, .null, .null, .int 0, .int 0, .int 0, .int 0, .int 0, .int 0, .int 0, .int 0, .long 0, .long 0, .int 0, .int 0])), (x1, .inr (1, [.ref (u2 1)])), ((u2 1), .inr (2, [.ref (u2 2)])), ((u2 2), .inl (c3.1, 54, .inl (fun _ => 0))), (x3, .inr (0, [.int 0, .int 0, .int (-1)])), (x5, .inr (5, [.ref (u6 1), .int 0, .int 0])), ((u6 1), .inr (2, [.ref (u6 2)])), ((u6 2), .inl (c3.1, 4, .inl (fun _ => 0)))] := hD
  refine lv_aload_n hx hb dX6_init_37 rfl (lv_at hl 0 rfl) ?_
  refine va_new (ci := 4) (fs := [.null, .null, .int 0]) (C := RX4) (T := TX4) (N := 3) hx hb hts i_X6_init_X4 tyX4 tyX4_ok hown (hts _ m_X6_init_n30) (hts _ m_X6_init_inX4) (hts _ m_X6_init_iX4) hE.1 hP hD hS hA rfl (fun j hj => by rcases (show j = 0 ∨ j = 1 ∨ j = 2 by omega) with rfl | rfl | rfl <;> rfl) (Nat.le_of_ble_eq_true rfl) (Nat.le_of_ble_eq_true rfl) dX6_init_38 (fun x7 H hP hD hS => ?_)
  have hP : va_P G vwCl [(h0, .inr (6, [.ref x1, .ref x3, .ref x5, .null, .null, .null, .int 0, .int 0, .int 0, .int 0, .int 0, .int 0, .int 0, .int 0, .long 0, .long 0, .int 0, .int 0])), (x1, .inr (1, [.ref (u2 1)])), ((u2 1), .inr (2, [.ref (u2 2)])), ((u2 2), .inl (c3.1, 54, .inl (fun _ => 0))), (x3, .inr (0, [.int 0, .int 0, .int (-1)])), (x5, .inr (5, [.ref (u6 1), .int 0, .int 0])), ((u6 1), .inr (2, [.ref (u6 2)])), ((u6 2), .inl (c3.1, 4, .inl (fun _ => 0))), (x7, .inr (4, [.null, .null, .int 0]))] H := hP
  have hD : va_D A [(h0, .inr (6, [.ref x1, .ref x3, .ref x5, .null, .null, .null, .int 0, .int 0, .int 0, .int 0, .int 0, .int 0, .int 0, .int 0, .long 0, .long 0, .int 0, .int 0])), (x1, .inr (1, [.ref (u2 1)])), ((u2 1), .inr (2, [.ref (u2 2)])), ((u2 2), .inl (c3.1, 54, .inl (fun _ => 0))), (x3, .inr (0, [.int 0, .int 0, .int (-1)])), (x5, .inr (5, [.ref (u6 1), .int 0, .int 0])), ((u6 1), .inr (2, [.ref (u6 2)])), ((u6 2), .inl (c3.1, 4, .inl (fun _ => 0))), (x7, .inr (4, [.null, .null, .int 0]))] := hD
  refine lv_dup hx hb dX6_init_41 rfl ?_
  refine tk_cvR (a := [(h0, .inr (6, [.ref x1, .ref x3, .ref x5, .null, .null, .null, .int 0, .int 0, .int 0, .int 0, .int 0, .int 0, .int 0, .int 0, .long 0, .long 0, .int 0, .int 0])), (x1, .inr (1, [.ref (u2 1)])), ((u2 1), .inr (2, [.ref (u2 2)])), ((u2 2), .inl (c3.1, 54, .inl (fun _ => 0))), (x3, .inr (0, [.int 0, .int 0, .int (-1)])), (x5, .inr (5, [.ref (u6 1), .int 0, .int 0])), ((u6 1), .inr (2, [.ref (u6 2)])), ((u6 2), .inl (c3.1, 4, .inl (fun _ => 0)))]) (b := [(x7, .inr (4, [.null, .null, .int 0]))]) (wf := p_X4_init c3) (va_runI (As := []) (rest := [.ref x7, .ref h0]) ⟨hx, hb, hml, hown, hts⟩ (c_X4_init l G c3 x7 H.size) (cwI 0 hts gX6_init_X4_init rfl rfl rfl (hts _ m_X6_init_iX4) (hts _ m_X6_init_m32) (hts _ m_X6_init_im_X4_init) rfl hs_X4_init ⟨Nat.le_of_ble_eq_true rfl, Nat.le_of_ble_eq_true rfl⟩) (tk_pI hE (tk_Pr (a := [(h0, .inr (6, [.ref x1, .ref x3, .ref x5, .null, .null, .null, .int 0, .int 0, .int 0, .int 0, .int 0, .int 0, .int 0, .int 0, .long 0, .long 0, .int 0, .int 0])), (x1, .inr (1, [.ref (u2 1)])), ((u2 1), .inr (2, [.ref (u2 2)])), ((u2 2), .inl (c3.1, 54, .inl (fun _ => 0))), (x3, .inr (0, [.int 0, .int 0, .int (-1)])), (x5, .inr (5, [.ref (u6 1), .int 0, .int 0])), ((u6 1), .inr (2, [.ref (u6 2)])), ((u6 2), .inl (c3.1, 4, .inl (fun _ => 0)))]) hP) (tk_Dr (a := [(h0, .inr (6, [.ref x1, .ref x3, .ref x5, .null, .null, .null, .int 0, .int 0, .int 0, .int 0, .int 0, .int 0, .int 0, .int 0, .long 0, .long 0, .int 0, .int 0])), (x1, .inr (1, [.ref (u2 1)])), ((u2 1), .inr (2, [.ref (u2 2)])), ((u2 2), .inl (c3.1, 54, .inl (fun _ => 0))), (x3, .inr (0, [.int 0, .int 0, .int (-1)])), (x5, .inr (5, [.ref (u6 1), .int 0, .int 0])), ((u6 1), .inr (2, [.ref (u6 2)])), ((u6 2), .inl (c3.1, 4, .inl (fun _ => 0)))]) hD)) rfl rfl hl.1 rfl (lv_room (Nat.le_of_ble_eq_true rfl)) dX6_init_42 ⟨Nat.le_of_ble_eq_true rfl, Nat.le_of_ble_eq_true rfl⟩) hP hD hS hA (fun u8 H locs eu8 hP hD hS => ?_)
  have hP : va_P G vwCl [(h0, .inr (6, [.ref x1, .ref x3, .ref x5, .null, .null, .null, .int 0, .int 0, .int 0, .int 0, .int 0, .int 0, .int 0, .int 0, .long 0, .long 0, .int 0, .int 0])), (x1, .inr (1, [.ref (u2 1)])), ((u2 1), .inr (2, [.ref (u2 2)])), ((u2 2), .inl (c3.1, 54, .inl (fun _ => 0))), (x3, .inr (0, [.int 0, .int 0, .int (-1)])), (x5, .inr (5, [.ref (u6 1), .int 0, .int 0])), ((u6 1), .inr (2, [.ref (u6 2)])), ((u6 2), .inl (c3.1, 4, .inl (fun _ => 0))), ((u8 0), .inr (4, [.ref (u8 1), .ref (u8 3), .int 0])), ((u8 1), .inr (2, [.ref (u8 2)])), ((u8 2), .inl (c3.1, 4, .inl (fun _ => 0))), ((u8 3), .inr (2, [.ref (u8 4)])), ((u8 4), .inl (c3.1, 4, .inl (fun _ => 0)))] H := hP
  have hD : va_D A [(h0, .inr (6, [.ref x1, .ref x3, .ref x5, .null, .null, .null, .int 0, .int 0, .int 0, .int 0, .int 0, .int 0, .int 0, .int 0, .long 0, .long 0, .int 0, .int 0])), (x1, .inr (1, [.ref (u2 1)])), ((u2 1), .inr (2, [.ref (u2 2)])), ((u2 2), .inl (c3.1, 54, .inl (fun _ => 0))), (x3, .inr (0, [.int 0, .int 0, .int (-1)])), (x5, .inr (5, [.ref (u6 1), .int 0, .int 0])), ((u6 1), .inr (2, [.ref (u6 2)])), ((u6 2), .inl (c3.1, 4, .inl (fun _ => 0))), ((u8 0), .inr (4, [.ref (u8 1), .ref (u8 3), .int 0])), ((u8 1), .inr (2, [.ref (u8 2)])), ((u8 2), .inl (c3.1, 4, .inl (fun _ => 0))), ((u8 3), .inr (2, [.ref (u8 4)])), ((u8 4), .inl (c3.1, 4, .inl (fun _ => 0)))] := hD
  rw [eu8] at hP hD
  have hP : va_P G vwCl [(h0, .inr (6, [.ref x1, .ref x3, .ref x5, .null, .null, .null, .int 0, .int 0, .int 0, .int 0, .int 0, .int 0, .int 0, .int 0, .long 0, .long 0, .int 0, .int 0])), (x1, .inr (1, [.ref (u2 1)])), ((u2 1), .inr (2, [.ref (u2 2)])), ((u2 2), .inl (c3.1, 54, .inl (fun _ => 0))), (x3, .inr (0, [.int 0, .int 0, .int (-1)])), (x5, .inr (5, [.ref (u6 1), .int 0, .int 0])), ((u6 1), .inr (2, [.ref (u6 2)])), ((u6 2), .inl (c3.1, 4, .inl (fun _ => 0))), (x7, .inr (4, [.ref (u8 1), .ref (u8 3), .int 0])), ((u8 1), .inr (2, [.ref (u8 2)])), ((u8 2), .inl (c3.1, 4, .inl (fun _ => 0))), ((u8 3), .inr (2, [.ref (u8 4)])), ((u8 4), .inl (c3.1, 4, .inl (fun _ => 0)))] H := hP
  have hD : va_D A [(h0, .inr (6, [.ref x1, .ref x3, .ref x5, .null, .null, .null, .int 0, .int 0, .int 0, .int 0, .int 0, .int 0, .int 0, .int 0, .long 0, .long 0, .int 0, .int 0])), (x1, .inr (1, [.ref (u2 1)])), ((u2 1), .inr (2, [.ref (u2 2)])), ((u2 2), .inl (c3.1, 54, .inl (fun _ => 0))), (x3, .inr (0, [.int 0, .int 0, .int (-1)])), (x5, .inr (5, [.ref (u6 1), .int 0, .int 0])), ((u6 1), .inr (2, [.ref (u6 2)])), ((u6 2), .inl (c3.1, 4, .inl (fun _ => 0))), (x7, .inr (4, [.ref (u8 1), .ref (u8 3), .int 0])), ((u8 1), .inr (2, [.ref (u8 2)])), ((u8 2), .inl (c3.1, 4, .inl (fun _ => 0))), ((u8 3), .inr (2, [.ref (u8 4)])), ((u8 4), .inl (c3.1, 4, .inl (fun _ => 0)))] := hD
  refine va_putF (D := G) (ci := 6) (v := .ref x7) (ty := .object "TarockHall$Sheet") (C := RX6) (T := TX6) (N := 18) hx hb hts i_X6_init_X6 tyX6 tyX6_ok nmX6 hown hE.1 hP hD hS 0 rfl rfl 3 (by decide) (hts _ m_X6_init_f33) (fun _ h9 => h9) rfl hin rfl (by decide +kernel) rfl rfl (Nat.le_of_ble_eq_true rfl) dX6_init_45 (fun H locs hP hD hS => ?_)
  have hP : va_P G vwCl [(h0, .inr (6, [.ref x1, .ref x3, .ref x5, .ref x7, .null, .null, .int 0, .int 0, .int 0, .int 0, .int 0, .int 0, .int 0, .int 0, .long 0, .long 0, .int 0, .int 0])), (x1, .inr (1, [.ref (u2 1)])), ((u2 1), .inr (2, [.ref (u2 2)])), ((u2 2), .inl (c3.1, 54, .inl (fun _ => 0))), (x3, .inr (0, [.int 0, .int 0, .int (-1)])), (x5, .inr (5, [.ref (u6 1), .int 0, .int 0])), ((u6 1), .inr (2, [.ref (u6 2)])), ((u6 2), .inl (c3.1, 4, .inl (fun _ => 0))), (x7, .inr (4, [.ref (u8 1), .ref (u8 3), .int 0])), ((u8 1), .inr (2, [.ref (u8 2)])), ((u8 2), .inl (c3.1, 4, .inl (fun _ => 0))), ((u8 3), .inr (2, [.ref (u8 4)])), ((u8 4), .inl (c3.1, 4, .inl (fun _ => 0)))] H := hP
  have hD : va_D A [(h0, .inr (6, [.ref x1, .ref x3, .ref x5, .ref x7, .null, .null, .int 0, .int 0, .int 0, .int 0, .int 0, .int 0, .int 0, .int 0, .long 0, .long 0, .int 0, .int 0])), (x1, .inr (1, [.ref (u2 1)])), ((u2 1), .inr (2, [.ref (u2 2)])), ((u2 2), .inl (c3.1, 54, .inl (fun _ => 0))), (x3, .inr (0, [.int 0, .int 0, .int (-1)])), (x5, .inr (5, [.ref (u6 1), .int 0, .int 0])), ((u6 1), .inr (2, [.ref (u6 2)])), ((u6 2), .inl (c3.1, 4, .inl (fun _ => 0))), (x7, .inr (4, [.ref (u8 1), .ref (u8 3), .int 0])), ((u8 1), .inr (2, [.ref (u8 2)])), ((u8 2), .inl (c3.1, 4, .inl (fun _ => 0))), ((u8 3), .inr (2, [.ref (u8 4)])), ((u8 4), .inl (c3.1, 4, .inl (fun _ => 0)))] := hD
  refine lv_aload_n hx hb dX6_init_48 rfl (lv_at hl 0 rfl) ?_
  refine va_new (ci := 3) (fs := [.null]) (C := RX3) (T := TX3) (N := 1) hx hb hts i_X6_init_X3 tyX3 tyX3_ok hown (hts _ m_X6_init_n37) (hts _ m_X6_init_inX3) (hts _ m_X6_init_iX3) hE.1 hP hD hS hA rfl (fun j hj => by rcases (show j = 0 by omega) with rfl <;> rfl) (Nat.le_of_ble_eq_true rfl) (Nat.le_of_ble_eq_true rfl) dX6_init_49 (fun x9 H hP hD hS => ?_)
  have hP : va_P G vwCl [(h0, .inr (6, [.ref x1, .ref x3, .ref x5, .ref x7, .null, .null, .int 0, .int 0, .int 0, .int 0, .int 0, .int 0, .int 0, .int 0, .long 0, .long 0, .int 0, .int 0])), (x1, .inr (1, [.ref (u2 1)])), ((u2 1), .inr (2, [.ref (u2 2)])), ((u2 2), .inl (c3.1, 54, .inl (fun _ => 0))), (x3, .inr (0, [.int 0, .int 0, .int (-1)])), (x5, .inr (5, [.ref (u6 1), .int 0, .int 0])), ((u6 1), .inr (2, [.ref (u6 2)])), ((u6 2), .inl (c3.1, 4, .inl (fun _ => 0))), (x7, .inr (4, [.ref (u8 1), .ref (u8 3), .int 0])), ((u8 1), .inr (2, [.ref (u8 2)])), ((u8 2), .inl (c3.1, 4, .inl (fun _ => 0))), ((u8 3), .inr (2, [.ref (u8 4)])), ((u8 4), .inl (c3.1, 4, .inl (fun _ => 0))), (x9, .inr (3, [.null]))] H := hP
  have hD : va_D A [(h0, .inr (6, [.ref x1, .ref x3, .ref x5, .ref x7, .null, .null, .int 0, .int 0, .int 0, .int 0, .int 0, .int 0, .int 0, .int 0, .long 0, .long 0, .int 0, .int 0])), (x1, .inr (1, [.ref (u2 1)])), ((u2 1), .inr (2, [.ref (u2 2)])), ((u2 2), .inl (c3.1, 54, .inl (fun _ => 0))), (x3, .inr (0, [.int 0, .int 0, .int (-1)])), (x5, .inr (5, [.ref (u6 1), .int 0, .int 0])), ((u6 1), .inr (2, [.ref (u6 2)])), ((u6 2), .inl (c3.1, 4, .inl (fun _ => 0))), (x7, .inr (4, [.ref (u8 1), .ref (u8 3), .int 0])), ((u8 1), .inr (2, [.ref (u8 2)])), ((u8 2), .inl (c3.1, 4, .inl (fun _ => 0))), ((u8 3), .inr (2, [.ref (u8 4)])), ((u8 4), .inl (c3.1, 4, .inl (fun _ => 0))), (x9, .inr (3, [.null]))] := hD
  refine lv_dup hx hb dX6_init_52 rfl ?_
  refine lv_iconst (v := 4) hx hb dX6_init_53 (by decide) ?_
  refine tk_cvR (a := [(h0, .inr (6, [.ref x1, .ref x3, .ref x5, .ref x7, .null, .null, .int 0, .int 0, .int 0, .int 0, .int 0, .int 0, .int 0, .int 0, .long 0, .long 0, .int 0, .int 0])), (x1, .inr (1, [.ref (u2 1)])), ((u2 1), .inr (2, [.ref (u2 2)])), ((u2 2), .inl (c3.1, 54, .inl (fun _ => 0))), (x3, .inr (0, [.int 0, .int 0, .int (-1)])), (x5, .inr (5, [.ref (u6 1), .int 0, .int 0])), ((u6 1), .inr (2, [.ref (u6 2)])), ((u6 2), .inl (c3.1, 4, .inl (fun _ => 0))), (x7, .inr (4, [.ref (u8 1), .ref (u8 3), .int 0])), ((u8 1), .inr (2, [.ref (u8 2)])), ((u8 2), .inl (c3.1, 4, .inl (fun _ => 0))), ((u8 3), .inr (2, [.ref (u8 4)])), ((u8 4), .inl (c3.1, 4, .inl (fun _ => 0)))]) (b := [(x9, .inr (3, [.null]))]) (wf := p_X3_init_4 c3) (va_runI (As := [.int 4]) (rest := [.ref x9, .ref h0]) ⟨hx, hb, hml, hown, hts⟩ (c_X3_init_4 l G c3 x9 H.size) (cwI 1 hts gX6_init_X3_init rfl rfl rfl (hts _ m_X6_init_iX3) (hts _ m_X6_init_m39) (hts _ m_X6_init_im_X3_init) rfl hs_X3_init ⟨Nat.le_of_ble_eq_true rfl, Nat.le_of_ble_eq_true rfl⟩) (tk_pI hE (tk_Pr (a := [(h0, .inr (6, [.ref x1, .ref x3, .ref x5, .ref x7, .null, .null, .int 0, .int 0, .int 0, .int 0, .int 0, .int 0, .int 0, .int 0, .long 0, .long 0, .int 0, .int 0])), (x1, .inr (1, [.ref (u2 1)])), ((u2 1), .inr (2, [.ref (u2 2)])), ((u2 2), .inl (c3.1, 54, .inl (fun _ => 0))), (x3, .inr (0, [.int 0, .int 0, .int (-1)])), (x5, .inr (5, [.ref (u6 1), .int 0, .int 0])), ((u6 1), .inr (2, [.ref (u6 2)])), ((u6 2), .inl (c3.1, 4, .inl (fun _ => 0))), (x7, .inr (4, [.ref (u8 1), .ref (u8 3), .int 0])), ((u8 1), .inr (2, [.ref (u8 2)])), ((u8 2), .inl (c3.1, 4, .inl (fun _ => 0))), ((u8 3), .inr (2, [.ref (u8 4)])), ((u8 4), .inl (c3.1, 4, .inl (fun _ => 0)))]) hP) (tk_Dr (a := [(h0, .inr (6, [.ref x1, .ref x3, .ref x5, .ref x7, .null, .null, .int 0, .int 0, .int 0, .int 0, .int 0, .int 0, .int 0, .int 0, .long 0, .long 0, .int 0, .int 0])), (x1, .inr (1, [.ref (u2 1)])), ((u2 1), .inr (2, [.ref (u2 2)])), ((u2 2), .inl (c3.1, 54, .inl (fun _ => 0))), (x3, .inr (0, [.int 0, .int 0, .int (-1)])), (x5, .inr (5, [.ref (u6 1), .int 0, .int 0])), ((u6 1), .inr (2, [.ref (u6 2)])), ((u6 2), .inl (c3.1, 4, .inl (fun _ => 0))), (x7, .inr (4, [.ref (u8 1), .ref (u8 3), .int 0])), ((u8 1), .inr (2, [.ref (u8 2)])), ((u8 2), .inl (c3.1, 4, .inl (fun _ => 0))), ((u8 3), .inr (2, [.ref (u8 4)])), ((u8 4), .inl (c3.1, 4, .inl (fun _ => 0)))]) hD)) rfl rfl hl.1 rfl (lv_room (Nat.le_of_ble_eq_true rfl)) dX6_init_54 ⟨Nat.le_of_ble_eq_true rfl, Nat.le_of_ble_eq_true rfl⟩) hP hD hS hA (fun u10 H locs eu10 hP hD hS => ?_)
  have hP : va_P G vwCl [(h0, .inr (6, [.ref x1, .ref x3, .ref x5, .ref x7, .null, .null, .int 0, .int 0, .int 0, .int 0, .int 0, .int 0, .int 0, .int 0, .long 0, .long 0, .int 0, .int 0])), (x1, .inr (1, [.ref (u2 1)])), ((u2 1), .inr (2, [.ref (u2 2)])), ((u2 2), .inl (c3.1, 54, .inl (fun _ => 0))), (x3, .inr (0, [.int 0, .int 0, .int (-1)])), (x5, .inr (5, [.ref (u6 1), .int 0, .int 0])), ((u6 1), .inr (2, [.ref (u6 2)])), ((u6 2), .inl (c3.1, 4, .inl (fun _ => 0))), (x7, .inr (4, [.ref (u8 1), .ref (u8 3), .int 0])), ((u8 1), .inr (2, [.ref (u8 2)])), ((u8 2), .inl (c3.1, 4, .inl (fun _ => 0))), ((u8 3), .inr (2, [.ref (u8 4)])), ((u8 4), .inl (c3.1, 4, .inl (fun _ => 0))), ((u10 0), .inr (3, [.ref (u10 1)])), ((u10 1), .inl (c3.2.1, 4, .inr (.inl (fun _ => 0))))] H := hP
  have hD : va_D A [(h0, .inr (6, [.ref x1, .ref x3, .ref x5, .ref x7, .null, .null, .int 0, .int 0, .int 0, .int 0, .int 0, .int 0, .int 0, .int 0, .long 0, .long 0, .int 0, .int 0])), (x1, .inr (1, [.ref (u2 1)])), ((u2 1), .inr (2, [.ref (u2 2)])), ((u2 2), .inl (c3.1, 54, .inl (fun _ => 0))), (x3, .inr (0, [.int 0, .int 0, .int (-1)])), (x5, .inr (5, [.ref (u6 1), .int 0, .int 0])), ((u6 1), .inr (2, [.ref (u6 2)])), ((u6 2), .inl (c3.1, 4, .inl (fun _ => 0))), (x7, .inr (4, [.ref (u8 1), .ref (u8 3), .int 0])), ((u8 1), .inr (2, [.ref (u8 2)])), ((u8 2), .inl (c3.1, 4, .inl (fun _ => 0))), ((u8 3), .inr (2, [.ref (u8 4)])), ((u8 4), .inl (c3.1, 4, .inl (fun _ => 0))), ((u10 0), .inr (3, [.ref (u10 1)])), ((u10 1), .inl (c3.2.1, 4, .inr (.inl (fun _ => 0))))] := hD
  rw [eu10] at hP hD
  have hP : va_P G vwCl [(h0, .inr (6, [.ref x1, .ref x3, .ref x5, .ref x7, .null, .null, .int 0, .int 0, .int 0, .int 0, .int 0, .int 0, .int 0, .int 0, .long 0, .long 0, .int 0, .int 0])), (x1, .inr (1, [.ref (u2 1)])), ((u2 1), .inr (2, [.ref (u2 2)])), ((u2 2), .inl (c3.1, 54, .inl (fun _ => 0))), (x3, .inr (0, [.int 0, .int 0, .int (-1)])), (x5, .inr (5, [.ref (u6 1), .int 0, .int 0])), ((u6 1), .inr (2, [.ref (u6 2)])), ((u6 2), .inl (c3.1, 4, .inl (fun _ => 0))), (x7, .inr (4, [.ref (u8 1), .ref (u8 3), .int 0])), ((u8 1), .inr (2, [.ref (u8 2)])), ((u8 2), .inl (c3.1, 4, .inl (fun _ => 0))), ((u8 3), .inr (2, [.ref (u8 4)])), ((u8 4), .inl (c3.1, 4, .inl (fun _ => 0))), (x9, .inr (3, [.ref (u10 1)])), ((u10 1), .inl (c3.2.1, 4, .inr (.inl (fun _ => 0))))] H := hP
  have hD : va_D A [(h0, .inr (6, [.ref x1, .ref x3, .ref x5, .ref x7, .null, .null, .int 0, .int 0, .int 0, .int 0, .int 0, .int 0, .int 0, .int 0, .long 0, .long 0, .int 0, .int 0])), (x1, .inr (1, [.ref (u2 1)])), ((u2 1), .inr (2, [.ref (u2 2)])), ((u2 2), .inl (c3.1, 54, .inl (fun _ => 0))), (x3, .inr (0, [.int 0, .int 0, .int (-1)])), (x5, .inr (5, [.ref (u6 1), .int 0, .int 0])), ((u6 1), .inr (2, [.ref (u6 2)])), ((u6 2), .inl (c3.1, 4, .inl (fun _ => 0))), (x7, .inr (4, [.ref (u8 1), .ref (u8 3), .int 0])), ((u8 1), .inr (2, [.ref (u8 2)])), ((u8 2), .inl (c3.1, 4, .inl (fun _ => 0))), ((u8 3), .inr (2, [.ref (u8 4)])), ((u8 4), .inl (c3.1, 4, .inl (fun _ => 0))), (x9, .inr (3, [.ref (u10 1)])), ((u10 1), .inl (c3.2.1, 4, .inr (.inl (fun _ => 0))))] := hD
  refine va_putF (D := G) (ci := 6) (v := .ref x9) (ty := .object "TarockHall$Sets") (C := RX6) (T := TX6) (N := 18) hx hb hts i_X6_init_X6 tyX6 tyX6_ok nmX6 hown hE.1 hP hD hS 0 rfl rfl 4 (by decide) (hts _ m_X6_init_f42) (fun _ h9 => h9) rfl hin rfl (by decide +kernel) rfl rfl (Nat.le_of_ble_eq_true rfl) dX6_init_57 (fun H locs hP hD hS => ?_)
  have hP : va_P G vwCl [(h0, .inr (6, [.ref x1, .ref x3, .ref x5, .ref x7, .ref x9, .null, .int 0, .int 0, .int 0, .int 0, .int 0, .int 0, .int 0, .int 0, .long 0, .long 0, .int 0, .int 0])), (x1, .inr (1, [.ref (u2 1)])), ((u2 1), .inr (2, [.ref (u2 2)])), ((u2 2), .inl (c3.1, 54, .inl (fun _ => 0))), (x3, .inr (0, [.int 0, .int 0, .int (-1)])), (x5, .inr (5, [.ref (u6 1), .int 0, .int 0])), ((u6 1), .inr (2, [.ref (u6 2)])), ((u6 2), .inl (c3.1, 4, .inl (fun _ => 0))), (x7, .inr (4, [.ref (u8 1), .ref (u8 3), .int 0])), ((u8 1), .inr (2, [.ref (u8 2)])), ((u8 2), .inl (c3.1, 4, .inl (fun _ => 0))), ((u8 3), .inr (2, [.ref (u8 4)])), ((u8 4), .inl (c3.1, 4, .inl (fun _ => 0))), (x9, .inr (3, [.ref (u10 1)])), ((u10 1), .inl (c3.2.1, 4, .inr (.inl (fun _ => 0))))] H := hP
  have hD : va_D A [(h0, .inr (6, [.ref x1, .ref x3, .ref x5, .ref x7, .ref x9, .null, .int 0, .int 0, .int 0, .int 0, .int 0, .int 0, .int 0, .int 0, .long 0, .long 0, .int 0, .int 0])), (x1, .inr (1, [.ref (u2 1)])), ((u2 1), .inr (2, [.ref (u2 2)])), ((u2 2), .inl (c3.1, 54, .inl (fun _ => 0))), (x3, .inr (0, [.int 0, .int 0, .int (-1)])), (x5, .inr (5, [.ref (u6 1), .int 0, .int 0])), ((u6 1), .inr (2, [.ref (u6 2)])), ((u6 2), .inl (c3.1, 4, .inl (fun _ => 0))), (x7, .inr (4, [.ref (u8 1), .ref (u8 3), .int 0])), ((u8 1), .inr (2, [.ref (u8 2)])), ((u8 2), .inl (c3.1, 4, .inl (fun _ => 0))), ((u8 3), .inr (2, [.ref (u8 4)])), ((u8 4), .inl (c3.1, 4, .inl (fun _ => 0))), (x9, .inr (3, [.ref (u10 1)])), ((u10 1), .inl (c3.2.1, 4, .inr (.inl (fun _ => 0))))] := hD
  refine lv_aload_n hx hb dX6_init_60 rfl (lv_at hl 0 rfl) ?_
  refine va_new (ci := 3) (fs := [.null]) (C := RX3) (T := TX3) (N := 1) hx hb hts i_X6_init_X3 tyX3 tyX3_ok hown (hts _ m_X6_init_n37) (hts _ m_X6_init_inX3) (hts _ m_X6_init_iX3) hE.1 hP hD hS hA rfl (fun j hj => by rcases (show j = 0 by omega) with rfl <;> rfl) (Nat.le_of_ble_eq_true rfl) (Nat.le_of_ble_eq_true rfl) dX6_init_61 (fun x11 H hP hD hS => ?_)
  have hP : va_P G vwCl [(h0, .inr (6, [.ref x1, .ref x3, .ref x5, .ref x7, .ref x9, .null, .int 0, .int 0, .int 0, .int 0, .int 0, .int 0, .int 0, .int 0, .long 0, .long 0, .int 0, .int 0])), (x1, .inr (1, [.ref (u2 1)])), ((u2 1), .inr (2, [.ref (u2 2)])), ((u2 2), .inl (c3.1, 54, .inl (fun _ => 0))), (x3, .inr (0, [.int 0, .int 0, .int (-1)])), (x5, .inr (5, [.ref (u6 1), .int 0, .int 0])), ((u6 1), .inr (2, [.ref (u6 2)])), ((u6 2), .inl (c3.1, 4, .inl (fun _ => 0))), (x7, .inr (4, [.ref (u8 1), .ref (u8 3), .int 0])), ((u8 1), .inr (2, [.ref (u8 2)])), ((u8 2), .inl (c3.1, 4, .inl (fun _ => 0))), ((u8 3), .inr (2, [.ref (u8 4)])), ((u8 4), .inl (c3.1, 4, .inl (fun _ => 0))), (x9, .inr (3, [.ref (u10 1)])), ((u10 1), .inl (c3.2.1, 4, .inr (.inl (fun _ => 0)))), (x11, .inr (3, [.null]))] H := hP
  have hD : va_D A [(h0, .inr (6, [.ref x1, .ref x3, .ref x5, .ref x7, .ref x9, .null, .int 0, .int 0, .int 0, .int 0, .int 0, .int 0, .int 0, .int 0, .long 0, .long 0, .int 0, .int 0])), (x1, .inr (1, [.ref (u2 1)])), ((u2 1), .inr (2, [.ref (u2 2)])), ((u2 2), .inl (c3.1, 54, .inl (fun _ => 0))), (x3, .inr (0, [.int 0, .int 0, .int (-1)])), (x5, .inr (5, [.ref (u6 1), .int 0, .int 0])), ((u6 1), .inr (2, [.ref (u6 2)])), ((u6 2), .inl (c3.1, 4, .inl (fun _ => 0))), (x7, .inr (4, [.ref (u8 1), .ref (u8 3), .int 0])), ((u8 1), .inr (2, [.ref (u8 2)])), ((u8 2), .inl (c3.1, 4, .inl (fun _ => 0))), ((u8 3), .inr (2, [.ref (u8 4)])), ((u8 4), .inl (c3.1, 4, .inl (fun _ => 0))), (x9, .inr (3, [.ref (u10 1)])), ((u10 1), .inl (c3.2.1, 4, .inr (.inl (fun _ => 0)))), (x11, .inr (3, [.null]))] := hD
  refine lv_dup hx hb dX6_init_64 rfl ?_
  refine lv_iconst (v := 2) hx hb dX6_init_65 (by decide) ?_
  refine tk_cvR (a := [(h0, .inr (6, [.ref x1, .ref x3, .ref x5, .ref x7, .ref x9, .null, .int 0, .int 0, .int 0, .int 0, .int 0, .int 0, .int 0, .int 0, .long 0, .long 0, .int 0, .int 0])), (x1, .inr (1, [.ref (u2 1)])), ((u2 1), .inr (2, [.ref (u2 2)])), ((u2 2), .inl (c3.1, 54, .inl (fun _ => 0))), (x3, .inr (0, [.int 0, .int 0, .int (-1)])), (x5, .inr (5, [.ref (u6 1), .int 0, .int 0])), ((u6 1), .inr (2, [.ref (u6 2)])), ((u6 2), .inl (c3.1, 4, .inl (fun _ => 0))), (x7, .inr (4, [.ref (u8 1), .ref (u8 3), .int 0])), ((u8 1), .inr (2, [.ref (u8 2)])), ((u8 2), .inl (c3.1, 4, .inl (fun _ => 0))), ((u8 3), .inr (2, [.ref (u8 4)])), ((u8 4), .inl (c3.1, 4, .inl (fun _ => 0))), (x9, .inr (3, [.ref (u10 1)])), ((u10 1), .inl (c3.2.1, 4, .inr (.inl (fun _ => 0))))]) (b := [(x11, .inr (3, [.null]))]) (wf := p_X3_init_2 c3) (va_runI (As := [.int 2]) (rest := [.ref x11, .ref h0]) ⟨hx, hb, hml, hown, hts⟩ (c_X3_init_2 l G c3 x11 H.size) (cwI 1 hts gX6_init_X3_init rfl rfl rfl (hts _ m_X6_init_iX3) (hts _ m_X6_init_m39) (hts _ m_X6_init_im_X3_init) rfl hs_X3_init ⟨Nat.le_of_ble_eq_true rfl, Nat.le_of_ble_eq_true rfl⟩) (tk_pI hE (tk_Pr (a := [(h0, .inr (6, [.ref x1, .ref x3, .ref x5, .ref x7, .ref x9, .null, .int 0, .int 0, .int 0, .int 0, .int 0, .int 0, .int 0, .int 0, .long 0, .long 0, .int 0, .int 0])), (x1, .inr (1, [.ref (u2 1)])), ((u2 1), .inr (2, [.ref (u2 2)])), ((u2 2), .inl (c3.1, 54, .inl (fun _ => 0))), (x3, .inr (0, [.int 0, .int 0, .int (-1)])), (x5, .inr (5, [.ref (u6 1), .int 0, .int 0])), ((u6 1), .inr (2, [.ref (u6 2)])), ((u6 2), .inl (c3.1, 4, .inl (fun _ => 0))), (x7, .inr (4, [.ref (u8 1), .ref (u8 3), .int 0])), ((u8 1), .inr (2, [.ref (u8 2)])), ((u8 2), .inl (c3.1, 4, .inl (fun _ => 0))), ((u8 3), .inr (2, [.ref (u8 4)])), ((u8 4), .inl (c3.1, 4, .inl (fun _ => 0))), (x9, .inr (3, [.ref (u10 1)])), ((u10 1), .inl (c3.2.1, 4, .inr (.inl (fun _ => 0))))]) hP) (tk_Dr (a := [(h0, .inr (6, [.ref x1, .ref x3, .ref x5, .ref x7, .ref x9, .null, .int 0, .int 0, .int 0, .int 0, .int 0, .int 0, .int 0, .int 0, .long 0, .long 0, .int 0, .int 0])), (x1, .inr (1, [.ref (u2 1)])), ((u2 1), .inr (2, [.ref (u2 2)])), ((u2 2), .inl (c3.1, 54, .inl (fun _ => 0))), (x3, .inr (0, [.int 0, .int 0, .int (-1)])), (x5, .inr (5, [.ref (u6 1), .int 0, .int 0])), ((u6 1), .inr (2, [.ref (u6 2)])), ((u6 2), .inl (c3.1, 4, .inl (fun _ => 0))), (x7, .inr (4, [.ref (u8 1), .ref (u8 3), .int 0])), ((u8 1), .inr (2, [.ref (u8 2)])), ((u8 2), .inl (c3.1, 4, .inl (fun _ => 0))), ((u8 3), .inr (2, [.ref (u8 4)])), ((u8 4), .inl (c3.1, 4, .inl (fun _ => 0))), (x9, .inr (3, [.ref (u10 1)])), ((u10 1), .inl (c3.2.1, 4, .inr (.inl (fun _ => 0))))]) hD)) rfl rfl hl.1 rfl (lv_room (Nat.le_of_ble_eq_true rfl)) dX6_init_66 ⟨Nat.le_of_ble_eq_true rfl, Nat.le_of_ble_eq_true rfl⟩) hP hD hS hA (fun u12 H locs eu12 hP hD hS => ?_)
  have hP : va_P G vwCl [(h0, .inr (6, [.ref x1, .ref x3, .ref x5, .ref x7, .ref x9, .null, .int 0, .int 0, .int 0, .int 0, .int 0, .int 0, .int 0, .int 0, .long 0, .long 0, .int 0, .int 0])), (x1, .inr (1, [.ref (u2 1)])), ((u2 1), .inr (2, [.ref (u2 2)])), ((u2 2), .inl (c3.1, 54, .inl (fun _ => 0))), (x3, .inr (0, [.int 0, .int 0, .int (-1)])), (x5, .inr (5, [.ref (u6 1), .int 0, .int 0])), ((u6 1), .inr (2, [.ref (u6 2)])), ((u6 2), .inl (c3.1, 4, .inl (fun _ => 0))), (x7, .inr (4, [.ref (u8 1), .ref (u8 3), .int 0])), ((u8 1), .inr (2, [.ref (u8 2)])), ((u8 2), .inl (c3.1, 4, .inl (fun _ => 0))), ((u8 3), .inr (2, [.ref (u8 4)])), ((u8 4), .inl (c3.1, 4, .inl (fun _ => 0))), (x9, .inr (3, [.ref (u10 1)])), ((u10 1), .inl (c3.2.1, 4, .inr (.inl (fun _ => 0)))), ((u12 0), .inr (3, [.ref (u12 1)])), ((u12 1), .inl (c3.2.1, 2, .inr (.inl (fun _ => 0))))] H := hP
  have hD : va_D A [(h0, .inr (6, [.ref x1, .ref x3, .ref x5, .ref x7, .ref x9, .null, .int 0, .int 0, .int 0, .int 0, .int 0, .int 0, .int 0, .int 0, .long 0, .long 0, .int 0, .int 0])), (x1, .inr (1, [.ref (u2 1)])), ((u2 1), .inr (2, [.ref (u2 2)])), ((u2 2), .inl (c3.1, 54, .inl (fun _ => 0))), (x3, .inr (0, [.int 0, .int 0, .int (-1)])), (x5, .inr (5, [.ref (u6 1), .int 0, .int 0])), ((u6 1), .inr (2, [.ref (u6 2)])), ((u6 2), .inl (c3.1, 4, .inl (fun _ => 0))), (x7, .inr (4, [.ref (u8 1), .ref (u8 3), .int 0])), ((u8 1), .inr (2, [.ref (u8 2)])), ((u8 2), .inl (c3.1, 4, .inl (fun _ => 0))), ((u8 3), .inr (2, [.ref (u8 4)])), ((u8 4), .inl (c3.1, 4, .inl (fun _ => 0))), (x9, .inr (3, [.ref (u10 1)])), ((u10 1), .inl (c3.2.1, 4, .inr (.inl (fun _ => 0)))), ((u12 0), .inr (3, [.ref (u12 1)])), ((u12 1), .inl (c3.2.1, 2, .inr (.inl (fun _ => 0))))] := hD
  rw [eu12] at hP hD
  have hP : va_P G vwCl [(h0, .inr (6, [.ref x1, .ref x3, .ref x5, .ref x7, .ref x9, .null, .int 0, .int 0, .int 0, .int 0, .int 0, .int 0, .int 0, .int 0, .long 0, .long 0, .int 0, .int 0])), (x1, .inr (1, [.ref (u2 1)])), ((u2 1), .inr (2, [.ref (u2 2)])), ((u2 2), .inl (c3.1, 54, .inl (fun _ => 0))), (x3, .inr (0, [.int 0, .int 0, .int (-1)])), (x5, .inr (5, [.ref (u6 1), .int 0, .int 0])), ((u6 1), .inr (2, [.ref (u6 2)])), ((u6 2), .inl (c3.1, 4, .inl (fun _ => 0))), (x7, .inr (4, [.ref (u8 1), .ref (u8 3), .int 0])), ((u8 1), .inr (2, [.ref (u8 2)])), ((u8 2), .inl (c3.1, 4, .inl (fun _ => 0))), ((u8 3), .inr (2, [.ref (u8 4)])), ((u8 4), .inl (c3.1, 4, .inl (fun _ => 0))), (x9, .inr (3, [.ref (u10 1)])), ((u10 1), .inl (c3.2.1, 4, .inr (.inl (fun _ => 0)))), (x11, .inr (3, [.ref (u12 1)])), ((u12 1), .inl (c3.2.1, 2, .inr (.inl (fun _ => 0))))] H := hP
  have hD : va_D A [(h0, .inr (6, [.ref x1, .ref x3, .ref x5, .ref x7, .ref x9, .null, .int 0, .int 0, .int 0, .int 0, .int 0, .int 0, .int 0, .int 0, .long 0, .long 0, .int 0, .int 0])), (x1, .inr (1, [.ref (u2 1)])), ((u2 1), .inr (2, [.ref (u2 2)])), ((u2 2), .inl (c3.1, 54, .inl (fun _ => 0))), (x3, .inr (0, [.int 0, .int 0, .int (-1)])), (x5, .inr (5, [.ref (u6 1), .int 0, .int 0])), ((u6 1), .inr (2, [.ref (u6 2)])), ((u6 2), .inl (c3.1, 4, .inl (fun _ => 0))), (x7, .inr (4, [.ref (u8 1), .ref (u8 3), .int 0])), ((u8 1), .inr (2, [.ref (u8 2)])), ((u8 2), .inl (c3.1, 4, .inl (fun _ => 0))), ((u8 3), .inr (2, [.ref (u8 4)])), ((u8 4), .inl (c3.1, 4, .inl (fun _ => 0))), (x9, .inr (3, [.ref (u10 1)])), ((u10 1), .inl (c3.2.1, 4, .inr (.inl (fun _ => 0)))), (x11, .inr (3, [.ref (u12 1)])), ((u12 1), .inl (c3.2.1, 2, .inr (.inl (fun _ => 0))))] := hD
  refine va_putF (D := G) (ci := 6) (v := .ref x11) (ty := .object "TarockHall$Sets") (C := RX6) (T := TX6) (N := 18) hx hb hts i_X6_init_X6 tyX6 tyX6_ok nmX6 hown hE.1 hP hD hS 0 rfl rfl 5 (by decide) (hts _ m_X6_init_f46) (fun _ h9 => h9) rfl hin rfl (by decide +kernel) rfl rfl (Nat.le_of_ble_eq_true rfl) dX6_init_69 (fun H locs hP hD hS => ?_)
  have hP : va_P G vwCl [(h0, .inr (6, [.ref x1, .ref x3, .ref x5, .ref x7, .ref x9, .ref x11, .int 0, .int 0, .int 0, .int 0, .int 0, .int 0, .int 0, .int 0, .long 0, .long 0, .int 0, .int 0])), (x1, .inr (1, [.ref (u2 1)])), ((u2 1), .inr (2, [.ref (u2 2)])), ((u2 2), .inl (c3.1, 54, .inl (fun _ => 0))), (x3, .inr (0, [.int 0, .int 0, .int (-1)])), (x5, .inr (5, [.ref (u6 1), .int 0, .int 0])), ((u6 1), .inr (2, [.ref (u6 2)])), ((u6 2), .inl (c3.1, 4, .inl (fun _ => 0))), (x7, .inr (4, [.ref (u8 1), .ref (u8 3), .int 0])), ((u8 1), .inr (2, [.ref (u8 2)])), ((u8 2), .inl (c3.1, 4, .inl (fun _ => 0))), ((u8 3), .inr (2, [.ref (u8 4)])), ((u8 4), .inl (c3.1, 4, .inl (fun _ => 0))), (x9, .inr (3, [.ref (u10 1)])), ((u10 1), .inl (c3.2.1, 4, .inr (.inl (fun _ => 0)))), (x11, .inr (3, [.ref (u12 1)])), ((u12 1), .inl (c3.2.1, 2, .inr (.inl (fun _ => 0))))] H := hP
  have hD : va_D A [(h0, .inr (6, [.ref x1, .ref x3, .ref x5, .ref x7, .ref x9, .ref x11, .int 0, .int 0, .int 0, .int 0, .int 0, .int 0, .int 0, .int 0, .long 0, .long 0, .int 0, .int 0])), (x1, .inr (1, [.ref (u2 1)])), ((u2 1), .inr (2, [.ref (u2 2)])), ((u2 2), .inl (c3.1, 54, .inl (fun _ => 0))), (x3, .inr (0, [.int 0, .int 0, .int (-1)])), (x5, .inr (5, [.ref (u6 1), .int 0, .int 0])), ((u6 1), .inr (2, [.ref (u6 2)])), ((u6 2), .inl (c3.1, 4, .inl (fun _ => 0))), (x7, .inr (4, [.ref (u8 1), .ref (u8 3), .int 0])), ((u8 1), .inr (2, [.ref (u8 2)])), ((u8 2), .inl (c3.1, 4, .inl (fun _ => 0))), ((u8 3), .inr (2, [.ref (u8 4)])), ((u8 4), .inl (c3.1, 4, .inl (fun _ => 0))), (x9, .inr (3, [.ref (u10 1)])), ((u10 1), .inl (c3.2.1, 4, .inr (.inl (fun _ => 0)))), (x11, .inr (3, [.ref (u12 1)])), ((u12 1), .inl (c3.2.1, 2, .inr (.inl (fun _ => 0))))] := hD
  refine lv_aload_n hx hb dX6_init_72 rfl (lv_at hl 0 rfl) ?_
  refine lv_iconst (v := -1) hx hb dX6_init_73 (by decide) ?_
  refine va_put (D := G) (ci := 6) (v := .int (-1)) (ty := .int) (C := RX6) (T := TX6) (N := 18) hx hb hts i_X6_init_X6 tyX6 tyX6_ok nmX6 hown hE.1 hP hD hS 0 rfl rfl 6 (by decide) (hts _ m_X6_init_f49) (fun _ h9 => h9) rfl (by decide +kernel) rfl rfl (Nat.le_of_ble_eq_true rfl) dX6_init_74 (fun H locs hP hD hS => ?_)
  have hP : va_P G vwCl [(h0, .inr (6, [.ref x1, .ref x3, .ref x5, .ref x7, .ref x9, .ref x11, .int (-1), .int 0, .int 0, .int 0, .int 0, .int 0, .int 0, .int 0, .long 0, .long 0, .int 0, .int 0])), (x1, .inr (1, [.ref (u2 1)])), ((u2 1), .inr (2, [.ref (u2 2)])), ((u2 2), .inl (c3.1, 54, .inl (fun _ => 0))), (x3, .inr (0, [.int 0, .int 0, .int (-1)])), (x5, .inr (5, [.ref (u6 1), .int 0, .int 0])), ((u6 1), .inr (2, [.ref (u6 2)])), ((u6 2), .inl (c3.1, 4, .inl (fun _ => 0))), (x7, .inr (4, [.ref (u8 1), .ref (u8 3), .int 0])), ((u8 1), .inr (2, [.ref (u8 2)])), ((u8 2), .inl (c3.1, 4, .inl (fun _ => 0))), ((u8 3), .inr (2, [.ref (u8 4)])), ((u8 4), .inl (c3.1, 4, .inl (fun _ => 0))), (x9, .inr (3, [.ref (u10 1)])), ((u10 1), .inl (c3.2.1, 4, .inr (.inl (fun _ => 0)))), (x11, .inr (3, [.ref (u12 1)])), ((u12 1), .inl (c3.2.1, 2, .inr (.inl (fun _ => 0))))] H := hP
  have hD : va_D A [(h0, .inr (6, [.ref x1, .ref x3, .ref x5, .ref x7, .ref x9, .ref x11, .int (-1), .int 0, .int 0, .int 0, .int 0, .int 0, .int 0, .int 0, .long 0, .long 0, .int 0, .int 0])), (x1, .inr (1, [.ref (u2 1)])), ((u2 1), .inr (2, [.ref (u2 2)])), ((u2 2), .inl (c3.1, 54, .inl (fun _ => 0))), (x3, .inr (0, [.int 0, .int 0, .int (-1)])), (x5, .inr (5, [.ref (u6 1), .int 0, .int 0])), ((u6 1), .inr (2, [.ref (u6 2)])), ((u6 2), .inl (c3.1, 4, .inl (fun _ => 0))), (x7, .inr (4, [.ref (u8 1), .ref (u8 3), .int 0])), ((u8 1), .inr (2, [.ref (u8 2)])), ((u8 2), .inl (c3.1, 4, .inl (fun _ => 0))), ((u8 3), .inr (2, [.ref (u8 4)])), ((u8 4), .inl (c3.1, 4, .inl (fun _ => 0))), (x9, .inr (3, [.ref (u10 1)])), ((u10 1), .inl (c3.2.1, 4, .inr (.inl (fun _ => 0)))), (x11, .inr (3, [.ref (u12 1)])), ((u12 1), .inl (c3.2.1, 2, .inr (.inl (fun _ => 0))))] := hD
  refine lv_aload_n hx hb dX6_init_77 rfl (lv_at hl 0 rfl) ?_
  refine lv_iconst (v := 0) hx hb dX6_init_78 (by decide) ?_
  refine va_put (D := G) (ci := 6) (v := .int 0) (ty := .int) (C := RX6) (T := TX6) (N := 18) hx hb hts i_X6_init_X6 tyX6 tyX6_ok nmX6 hown hE.1 hP hD hS 0 rfl rfl 7 (by decide) (hts _ m_X6_init_f53) (fun _ h9 => h9) rfl (by decide +kernel) rfl rfl (Nat.le_of_ble_eq_true rfl) dX6_init_79 (fun H locs hP hD hS => ?_)
  have hP : va_P G vwCl [(h0, .inr (6, [.ref x1, .ref x3, .ref x5, .ref x7, .ref x9, .ref x11, .int (-1), .int 0, .int 0, .int 0, .int 0, .int 0, .int 0, .int 0, .long 0, .long 0, .int 0, .int 0])), (x1, .inr (1, [.ref (u2 1)])), ((u2 1), .inr (2, [.ref (u2 2)])), ((u2 2), .inl (c3.1, 54, .inl (fun _ => 0))), (x3, .inr (0, [.int 0, .int 0, .int (-1)])), (x5, .inr (5, [.ref (u6 1), .int 0, .int 0])), ((u6 1), .inr (2, [.ref (u6 2)])), ((u6 2), .inl (c3.1, 4, .inl (fun _ => 0))), (x7, .inr (4, [.ref (u8 1), .ref (u8 3), .int 0])), ((u8 1), .inr (2, [.ref (u8 2)])), ((u8 2), .inl (c3.1, 4, .inl (fun _ => 0))), ((u8 3), .inr (2, [.ref (u8 4)])), ((u8 4), .inl (c3.1, 4, .inl (fun _ => 0))), (x9, .inr (3, [.ref (u10 1)])), ((u10 1), .inl (c3.2.1, 4, .inr (.inl (fun _ => 0)))), (x11, .inr (3, [.ref (u12 1)])), ((u12 1), .inl (c3.2.1, 2, .inr (.inl (fun _ => 0))))] H := hP
  have hD : va_D A [(h0, .inr (6, [.ref x1, .ref x3, .ref x5, .ref x7, .ref x9, .ref x11, .int (-1), .int 0, .int 0, .int 0, .int 0, .int 0, .int 0, .int 0, .long 0, .long 0, .int 0, .int 0])), (x1, .inr (1, [.ref (u2 1)])), ((u2 1), .inr (2, [.ref (u2 2)])), ((u2 2), .inl (c3.1, 54, .inl (fun _ => 0))), (x3, .inr (0, [.int 0, .int 0, .int (-1)])), (x5, .inr (5, [.ref (u6 1), .int 0, .int 0])), ((u6 1), .inr (2, [.ref (u6 2)])), ((u6 2), .inl (c3.1, 4, .inl (fun _ => 0))), (x7, .inr (4, [.ref (u8 1), .ref (u8 3), .int 0])), ((u8 1), .inr (2, [.ref (u8 2)])), ((u8 2), .inl (c3.1, 4, .inl (fun _ => 0))), ((u8 3), .inr (2, [.ref (u8 4)])), ((u8 4), .inl (c3.1, 4, .inl (fun _ => 0))), (x9, .inr (3, [.ref (u10 1)])), ((u10 1), .inl (c3.2.1, 4, .inr (.inl (fun _ => 0)))), (x11, .inr (3, [.ref (u12 1)])), ((u12 1), .inl (c3.2.1, 2, .inr (.inl (fun _ => 0))))] := hD
  refine lv_aload_n hx hb dX6_init_82 rfl (lv_at hl 0 rfl) ?_
  refine lv_iconst (v := -1) hx hb dX6_init_83 (by decide) ?_
  refine va_put (D := G) (ci := 6) (v := .int (-1)) (ty := .int) (C := RX6) (T := TX6) (N := 18) hx hb hts i_X6_init_X6 tyX6 tyX6_ok nmX6 hown hE.1 hP hD hS 0 rfl rfl 8 (by decide) (hts _ m_X6_init_f56) (fun _ h9 => h9) rfl (by decide +kernel) rfl rfl (Nat.le_of_ble_eq_true rfl) dX6_init_84 (fun H locs hP hD hS => ?_)
  have hP : va_P G vwCl [(h0, .inr (6, [.ref x1, .ref x3, .ref x5, .ref x7, .ref x9, .ref x11, .int (-1), .int 0, .int (-1), .int 0, .int 0, .int 0, .int 0, .int 0, .long 0, .long 0, .int 0, .int 0])), (x1, .inr (1, [.ref (u2 1)])), ((u2 1), .inr (2, [.ref (u2 2)])), ((u2 2), .inl (c3.1, 54, .inl (fun _ => 0))), (x3, .inr (0, [.int 0, .int 0, .int (-1)])), (x5, .inr (5, [.ref (u6 1), .int 0, .int 0])), ((u6 1), .inr (2, [.ref (u6 2)])), ((u6 2), .inl (c3.1, 4, .inl (fun _ => 0))), (x7, .inr (4, [.ref (u8 1), .ref (u8 3), .int 0])), ((u8 1), .inr (2, [.ref (u8 2)])), ((u8 2), .inl (c3.1, 4, .inl (fun _ => 0))), ((u8 3), .inr (2, [.ref (u8 4)])), ((u8 4), .inl (c3.1, 4, .inl (fun _ => 0))), (x9, .inr (3, [.ref (u10 1)])), ((u10 1), .inl (c3.2.1, 4, .inr (.inl (fun _ => 0)))), (x11, .inr (3, [.ref (u12 1)])), ((u12 1), .inl (c3.2.1, 2, .inr (.inl (fun _ => 0))))] H := hP
  have hD : va_D A [(h0, .inr (6, [.ref x1, .ref x3, .ref x5, .ref x7, .ref x9, .ref x11, .int (-1), .int 0, .int (-1), .int 0, .int 0, .int 0, .int 0, .int 0, .long 0, .long 0, .int 0, .int 0])), (x1, .inr (1, [.ref (u2 1)])), ((u2 1), .inr (2, [.ref (u2 2)])), ((u2 2), .inl (c3.1, 54, .inl (fun _ => 0))), (x3, .inr (0, [.int 0, .int 0, .int (-1)])), (x5, .inr (5, [.ref (u6 1), .int 0, .int 0])), ((u6 1), .inr (2, [.ref (u6 2)])), ((u6 2), .inl (c3.1, 4, .inl (fun _ => 0))), (x7, .inr (4, [.ref (u8 1), .ref (u8 3), .int 0])), ((u8 1), .inr (2, [.ref (u8 2)])), ((u8 2), .inl (c3.1, 4, .inl (fun _ => 0))), ((u8 3), .inr (2, [.ref (u8 4)])), ((u8 4), .inl (c3.1, 4, .inl (fun _ => 0))), (x9, .inr (3, [.ref (u10 1)])), ((u10 1), .inl (c3.2.1, 4, .inr (.inl (fun _ => 0)))), (x11, .inr (3, [.ref (u12 1)])), ((u12 1), .inl (c3.2.1, 2, .inr (.inl (fun _ => 0))))] := hD
  refine lv_aload_n hx hb dX6_init_87 rfl (lv_at hl 0 rfl) ?_
  refine lv_iconst (v := -1) hx hb dX6_init_88 (by decide) ?_
  refine va_put (D := G) (ci := 6) (v := .int (-1)) (ty := .int) (C := RX6) (T := TX6) (N := 18) hx hb hts i_X6_init_X6 tyX6 tyX6_ok nmX6 hown hE.1 hP hD hS 0 rfl rfl 9 (by decide) (hts _ m_X6_init_f59) (fun _ h9 => h9) rfl (by decide +kernel) rfl rfl (Nat.le_of_ble_eq_true rfl) dX6_init_89 (fun H locs hP hD hS => ?_)
  have hP : va_P G vwCl [(h0, .inr (6, [.ref x1, .ref x3, .ref x5, .ref x7, .ref x9, .ref x11, .int (-1), .int 0, .int (-1), .int (-1), .int 0, .int 0, .int 0, .int 0, .long 0, .long 0, .int 0, .int 0])), (x1, .inr (1, [.ref (u2 1)])), ((u2 1), .inr (2, [.ref (u2 2)])), ((u2 2), .inl (c3.1, 54, .inl (fun _ => 0))), (x3, .inr (0, [.int 0, .int 0, .int (-1)])), (x5, .inr (5, [.ref (u6 1), .int 0, .int 0])), ((u6 1), .inr (2, [.ref (u6 2)])), ((u6 2), .inl (c3.1, 4, .inl (fun _ => 0))), (x7, .inr (4, [.ref (u8 1), .ref (u8 3), .int 0])), ((u8 1), .inr (2, [.ref (u8 2)])), ((u8 2), .inl (c3.1, 4, .inl (fun _ => 0))), ((u8 3), .inr (2, [.ref (u8 4)])), ((u8 4), .inl (c3.1, 4, .inl (fun _ => 0))), (x9, .inr (3, [.ref (u10 1)])), ((u10 1), .inl (c3.2.1, 4, .inr (.inl (fun _ => 0)))), (x11, .inr (3, [.ref (u12 1)])), ((u12 1), .inl (c3.2.1, 2, .inr (.inl (fun _ => 0))))] H := hP
  have hD : va_D A [(h0, .inr (6, [.ref x1, .ref x3, .ref x5, .ref x7, .ref x9, .ref x11, .int (-1), .int 0, .int (-1), .int (-1), .int 0, .int 0, .int 0, .int 0, .long 0, .long 0, .int 0, .int 0])), (x1, .inr (1, [.ref (u2 1)])), ((u2 1), .inr (2, [.ref (u2 2)])), ((u2 2), .inl (c3.1, 54, .inl (fun _ => 0))), (x3, .inr (0, [.int 0, .int 0, .int (-1)])), (x5, .inr (5, [.ref (u6 1), .int 0, .int 0])), ((u6 1), .inr (2, [.ref (u6 2)])), ((u6 2), .inl (c3.1, 4, .inl (fun _ => 0))), (x7, .inr (4, [.ref (u8 1), .ref (u8 3), .int 0])), ((u8 1), .inr (2, [.ref (u8 2)])), ((u8 2), .inl (c3.1, 4, .inl (fun _ => 0))), ((u8 3), .inr (2, [.ref (u8 4)])), ((u8 4), .inl (c3.1, 4, .inl (fun _ => 0))), (x9, .inr (3, [.ref (u10 1)])), ((u10 1), .inl (c3.2.1, 4, .inr (.inl (fun _ => 0)))), (x11, .inr (3, [.ref (u12 1)])), ((u12 1), .inl (c3.2.1, 2, .inr (.inl (fun _ => 0))))] := hD
  refine lv_aload_n hx hb dX6_init_92 rfl (lv_at hl 0 rfl) ?_
  refine lv_iconst (v := -1) hx hb dX6_init_93 (by decide) ?_
  refine va_put (D := G) (ci := 6) (v := .int (-1)) (ty := .int) (C := RX6) (T := TX6) (N := 18) hx hb hts i_X6_init_X6 tyX6 tyX6_ok nmX6 hown hE.1 hP hD hS 0 rfl rfl 10 (by decide) (hts _ m_X6_init_f62) (fun _ h9 => h9) rfl (by decide +kernel) rfl rfl (Nat.le_of_ble_eq_true rfl) dX6_init_94 (fun H locs hP hD hS => ?_)
  have hP : va_P G vwCl [(h0, .inr (6, [.ref x1, .ref x3, .ref x5, .ref x7, .ref x9, .ref x11, .int (-1), .int 0, .int (-1), .int (-1), .int (-1), .int 0, .int 0, .int 0, .long 0, .long 0, .int 0, .int 0])), (x1, .inr (1, [.ref (u2 1)])), ((u2 1), .inr (2, [.ref (u2 2)])), ((u2 2), .inl (c3.1, 54, .inl (fun _ => 0))), (x3, .inr (0, [.int 0, .int 0, .int (-1)])), (x5, .inr (5, [.ref (u6 1), .int 0, .int 0])), ((u6 1), .inr (2, [.ref (u6 2)])), ((u6 2), .inl (c3.1, 4, .inl (fun _ => 0))), (x7, .inr (4, [.ref (u8 1), .ref (u8 3), .int 0])), ((u8 1), .inr (2, [.ref (u8 2)])), ((u8 2), .inl (c3.1, 4, .inl (fun _ => 0))), ((u8 3), .inr (2, [.ref (u8 4)])), ((u8 4), .inl (c3.1, 4, .inl (fun _ => 0))), (x9, .inr (3, [.ref (u10 1)])), ((u10 1), .inl (c3.2.1, 4, .inr (.inl (fun _ => 0)))), (x11, .inr (3, [.ref (u12 1)])), ((u12 1), .inl (c3.2.1, 2, .inr (.inl (fun _ => 0))))] H := hP
  have hD : va_D A [(h0, .inr (6, [.ref x1, .ref x3, .ref x5, .ref x7, .ref x9, .ref x11, .int (-1), .int 0, .int (-1), .int (-1), .int (-1), .int 0, .int 0, .int 0, .long 0, .long 0, .int 0, .int 0])), (x1, .inr (1, [.ref (u2 1)])), ((u2 1), .inr (2, [.ref (u2 2)])), ((u2 2), .inl (c3.1, 54, .inl (fun _ => 0))), (x3, .inr (0, [.int 0, .int 0, .int (-1)])), (x5, .inr (5, [.ref (u6 1), .int 0, .int 0])), ((u6 1), .inr (2, [.ref (u6 2)])), ((u6 2), .inl (c3.1, 4, .inl (fun _ => 0))), (x7, .inr (4, [.ref (u8 1), .ref (u8 3), .int 0])), ((u8 1), .inr (2, [.ref (u8 2)])), ((u8 2), .inl (c3.1, 4, .inl (fun _ => 0))), ((u8 3), .inr (2, [.ref (u8 4)])), ((u8 4), .inl (c3.1, 4, .inl (fun _ => 0))), (x9, .inr (3, [.ref (u10 1)])), ((u10 1), .inl (c3.2.1, 4, .inr (.inl (fun _ => 0)))), (x11, .inr (3, [.ref (u12 1)])), ((u12 1), .inl (c3.2.1, 2, .inr (.inl (fun _ => 0))))] := hD
  refine lv_aload_n hx hb dX6_init_97 rfl (lv_at hl 0 rfl) ?_
  refine lv_iconst (v := -1) hx hb dX6_init_98 (by decide) ?_
  refine va_put (D := G) (ci := 6) (v := .int (-1)) (ty := .int) (C := RX6) (T := TX6) (N := 18) hx hb hts i_X6_init_X6 tyX6 tyX6_ok nmX6 hown hE.1 hP hD hS 0 rfl rfl 11 (by decide) (hts _ m_X6_init_f65) (fun _ h9 => h9) rfl (by decide +kernel) rfl rfl (Nat.le_of_ble_eq_true rfl) dX6_init_99 (fun H locs hP hD hS => ?_)
  have hP : va_P G vwCl [(h0, .inr (6, [.ref x1, .ref x3, .ref x5, .ref x7, .ref x9, .ref x11, .int (-1), .int 0, .int (-1), .int (-1), .int (-1), .int (-1), .int 0, .int 0, .long 0, .long 0, .int 0, .int 0])), (x1, .inr (1, [.ref (u2 1)])), ((u2 1), .inr (2, [.ref (u2 2)])), ((u2 2), .inl (c3.1, 54, .inl (fun _ => 0))), (x3, .inr (0, [.int 0, .int 0, .int (-1)])), (x5, .inr (5, [.ref (u6 1), .int 0, .int 0])), ((u6 1), .inr (2, [.ref (u6 2)])), ((u6 2), .inl (c3.1, 4, .inl (fun _ => 0))), (x7, .inr (4, [.ref (u8 1), .ref (u8 3), .int 0])), ((u8 1), .inr (2, [.ref (u8 2)])), ((u8 2), .inl (c3.1, 4, .inl (fun _ => 0))), ((u8 3), .inr (2, [.ref (u8 4)])), ((u8 4), .inl (c3.1, 4, .inl (fun _ => 0))), (x9, .inr (3, [.ref (u10 1)])), ((u10 1), .inl (c3.2.1, 4, .inr (.inl (fun _ => 0)))), (x11, .inr (3, [.ref (u12 1)])), ((u12 1), .inl (c3.2.1, 2, .inr (.inl (fun _ => 0))))] H := hP
  have hD : va_D A [(h0, .inr (6, [.ref x1, .ref x3, .ref x5, .ref x7, .ref x9, .ref x11, .int (-1), .int 0, .int (-1), .int (-1), .int (-1), .int (-1), .int 0, .int 0, .long 0, .long 0, .int 0, .int 0])), (x1, .inr (1, [.ref (u2 1)])), ((u2 1), .inr (2, [.ref (u2 2)])), ((u2 2), .inl (c3.1, 54, .inl (fun _ => 0))), (x3, .inr (0, [.int 0, .int 0, .int (-1)])), (x5, .inr (5, [.ref (u6 1), .int 0, .int 0])), ((u6 1), .inr (2, [.ref (u6 2)])), ((u6 2), .inl (c3.1, 4, .inl (fun _ => 0))), (x7, .inr (4, [.ref (u8 1), .ref (u8 3), .int 0])), ((u8 1), .inr (2, [.ref (u8 2)])), ((u8 2), .inl (c3.1, 4, .inl (fun _ => 0))), ((u8 3), .inr (2, [.ref (u8 4)])), ((u8 4), .inl (c3.1, 4, .inl (fun _ => 0))), (x9, .inr (3, [.ref (u10 1)])), ((u10 1), .inl (c3.2.1, 4, .inr (.inl (fun _ => 0)))), (x11, .inr (3, [.ref (u12 1)])), ((u12 1), .inl (c3.2.1, 2, .inr (.inl (fun _ => 0))))] := hD
  refine lv_aload_n hx hb dX6_init_102 rfl (lv_at hl 0 rfl) ?_
  refine lv_iconst (v := -1) hx hb dX6_init_103 (by decide) ?_
  refine va_put (D := G) (ci := 6) (v := .int (-1)) (ty := .int) (C := RX6) (T := TX6) (N := 18) hx hb hts i_X6_init_X6 tyX6 tyX6_ok nmX6 hown hE.1 hP hD hS 0 rfl rfl 12 (by decide) (hts _ m_X6_init_f68) (fun _ h9 => h9) rfl (by decide +kernel) rfl rfl (Nat.le_of_ble_eq_true rfl) dX6_init_104 (fun H locs hP hD hS => ?_)
  have hP : va_P G vwCl [(h0, .inr (6, [.ref x1, .ref x3, .ref x5, .ref x7, .ref x9, .ref x11, .int (-1), .int 0, .int (-1), .int (-1), .int (-1), .int (-1), .int (-1), .int 0, .long 0, .long 0, .int 0, .int 0])), (x1, .inr (1, [.ref (u2 1)])), ((u2 1), .inr (2, [.ref (u2 2)])), ((u2 2), .inl (c3.1, 54, .inl (fun _ => 0))), (x3, .inr (0, [.int 0, .int 0, .int (-1)])), (x5, .inr (5, [.ref (u6 1), .int 0, .int 0])), ((u6 1), .inr (2, [.ref (u6 2)])), ((u6 2), .inl (c3.1, 4, .inl (fun _ => 0))), (x7, .inr (4, [.ref (u8 1), .ref (u8 3), .int 0])), ((u8 1), .inr (2, [.ref (u8 2)])), ((u8 2), .inl (c3.1, 4, .inl (fun _ => 0))), ((u8 3), .inr (2, [.ref (u8 4)])), ((u8 4), .inl (c3.1, 4, .inl (fun _ => 0))), (x9, .inr (3, [.ref (u10 1)])), ((u10 1), .inl (c3.2.1, 4, .inr (.inl (fun _ => 0)))), (x11, .inr (3, [.ref (u12 1)])), ((u12 1), .inl (c3.2.1, 2, .inr (.inl (fun _ => 0))))] H := hP
  have hD : va_D A [(h0, .inr (6, [.ref x1, .ref x3, .ref x5, .ref x7, .ref x9, .ref x11, .int (-1), .int 0, .int (-1), .int (-1), .int (-1), .int (-1), .int (-1), .int 0, .long 0, .long 0, .int 0, .int 0])), (x1, .inr (1, [.ref (u2 1)])), ((u2 1), .inr (2, [.ref (u2 2)])), ((u2 2), .inl (c3.1, 54, .inl (fun _ => 0))), (x3, .inr (0, [.int 0, .int 0, .int (-1)])), (x5, .inr (5, [.ref (u6 1), .int 0, .int 0])), ((u6 1), .inr (2, [.ref (u6 2)])), ((u6 2), .inl (c3.1, 4, .inl (fun _ => 0))), (x7, .inr (4, [.ref (u8 1), .ref (u8 3), .int 0])), ((u8 1), .inr (2, [.ref (u8 2)])), ((u8 2), .inl (c3.1, 4, .inl (fun _ => 0))), ((u8 3), .inr (2, [.ref (u8 4)])), ((u8 4), .inl (c3.1, 4, .inl (fun _ => 0))), (x9, .inr (3, [.ref (u10 1)])), ((u10 1), .inl (c3.2.1, 4, .inr (.inl (fun _ => 0)))), (x11, .inr (3, [.ref (u12 1)])), ((u12 1), .inl (c3.2.1, 2, .inr (.inl (fun _ => 0))))] := hD
  exact tk_rK hQ (fun k => ([h0, x1, (u2 1), (u2 2), x3, x5, (u6 1), (u6 2), x7, (u8 1), (u8 2), (u8 3), (u8 4), x9, (u10 1), x11, (u12 1)] : List Nat).getD k 0) rfl rfl hx hb hr hlocks hP hD hS (Nat.le_of_ble_eq_true rfl) (Nat.le_of_ble_eq_true rfl) dX6_init_107
