/-! worlds of two parts, of which a call changes one -/
section TKL
variable {p : Program} {l : Launch} {e : Env} {R : Room} {s : State} {m : MethodId} {args : Array Value} {below : List Frame} {meth : Method} {c : Code} {H H1 : Heap} {locs : List Loc} {cells slots mc ms : Nat} {Q : State → Prop}
variable {cc : ByteArray} {pc : Nat} {ls : Array Slot} {rest st0 : List Value} {ar : Array Value} {A : Nat → Prop} {H0 : Heap} {G : va_G} {c3 : ClassId × ClassId × ClassId} {a b a' b' : va_W}
theorem tk_gl {k : Nat} {q : Nat × va_E} (h : a[k]? = some q) : (a ++ b)[k]? = some q := by
  have h1 : k < a.length := (List.getElem?_eq_some_iff.mp h).1
  rw [List.getElem?_append_left h1]; exact h
theorem tk_gr {k : Nat} {q : Nat × va_E} (h : b[k]? = some q) : (a ++ b)[a.length + k]? = some q := by
  rw [List.getElem?_append_right (by omega)]
  have e1 : a.length + k - a.length = k := by omega
  rw [e1]; exact h
theorem tk_Pl (h : va_P G vwCl (a ++ b) H) : va_P G vwCl a H := fun k q hk => h k q (tk_gl hk)
theorem tk_Pr (h : va_P G vwCl (a ++ b) H) : va_P G vwCl b H := fun k q hk => h (a.length + k) q (tk_gr hk)
theorem tk_Dl (h : va_D A (a ++ b)) : va_D A a := ⟨fun i j p q hi hj e => h.1 i j p q (tk_gl hi) (tk_gl hj) e, fun k q hk => h.2 k q (tk_gl hk)⟩
theorem tk_Dr (h : va_D A (a ++ b)) : va_D A b := ⟨fun i j p q hi hj e => by
  have h1 := h.1 (a.length + i) (a.length + j) p q (tk_gr hi) (tk_gr hj) e
  omega, fun k q hk => h.2 (a.length + k) q (tk_gr hk)⟩
theorem tk_Dx (h : va_D A (a ++ b)) : ∀ (i j : Nat) (p q : Nat × va_E), a[i]? = some p → b[j]? = some q → p.1 ≠ q.1 := fun i j p q hi hj e => by
  have h1 := h.1 i (a.length + j) p q (tk_gl hi) (tk_gr hj) e
  have h2 : i < a.length := (List.getElem?_eq_some_iff.mp hi).1
  omega
theorem tk_jL (hP : va_P G vwCl (a ++ b) H) (hD : va_D A (a ++ b)) (hF : ∀ q, va_A a H.size q → A q) (hk : ∀ q : Nat, q < H.size → ¬ va_A a H.size q → H1[q]? = H[q]?) (hP1 : va_P G vwCl a' H1) (hD1 : va_D (va_A a H.size) a') : va_P G vwCl (a' ++ b) H1 ∧ va_D A (a' ++ b) := by
  have hPb := tk_Pr hP
  have hn : ∀ (k : Nat) (q : Nat × va_E), b[k]? = some q → ¬ va_A a H.size q.1 := by
    intro k q hq h
    rcases h with ⟨i, e9, h⟩ | h
    · exact tk_Dx hD i k (q.1, e9) q h hq rfl
    · exact absurd (hPb k q hq).lt (Nat.not_lt.mpr h)
  refine ⟨va_P.app hP1 (hPb.kept fun k q hq => hk q.1 (hPb k q hq).lt (hn k q hq)), va_D.app (hD1.weaken fun _ q _ h => hF q.1 h) (tk_Dr hD) fun i j p q hi hj e => ?_⟩
  exact hn j q hj (e ▸ hD1.2 i p hi)
theorem tk_jR (hP : va_P G vwCl (a ++ b) H) (hD : va_D A (a ++ b)) (hF : ∀ q, va_A b H.size q → A q) (hk : ∀ q : Nat, q < H.size → ¬ va_A b H.size q → H1[q]? = H[q]?) (hP1 : va_P G vwCl b' H1) (hD1 : va_D (va_A b H.size) b') : va_P G vwCl (a ++ b') H1 ∧ va_D A (a ++ b') := by
  have hPa := tk_Pl hP
  have hn : ∀ (k : Nat) (q : Nat × va_E), a[k]? = some q → ¬ va_A b H.size q.1 := by
    intro k q hq h
    rcases h with ⟨i, e9, h⟩ | h
    · exact tk_Dx hD k i q (q.1, e9) hq h rfl
    · exact absurd (hPa k q hq).lt (Nat.not_lt.mpr h)
  refine ⟨va_P.app (hPa.kept fun k q hq => hk q.1 (hPa k q hq).lt (hn k q hq)) hP1, va_D.app (tk_Dl hD) (hD1.weaken fun _ q _ h => hF q.1 h) fun i j p q hi hj e => ?_⟩
  exact hn i p hi (e ▸ hD1.2 j q hj)
/-! calls on one part of the world -/
theorem tk_ciL {r : Int32} (hr : va_Run p l e R s m args below meth c H locs cells slots mc ms (F0 m pc ls st0) rest (va_Qi (fun (r1 : Int32) (_ : Unit) => r1 = r) (tk_post G (va_A a H.size) a') (va_A a H.size) ar) (va_A a H.size))
    (hP : va_P G vwCl (a ++ b) H) (hD : va_D A (a ++ b)) (hS : va_S A H0 H locs) (hA : ∀ q, H0.size ≤ q → A q)
    (kk : ∀ (H1 : Heap) (locs1 : List Loc), va_P G vwCl (a' ++ b) H1 → va_D A (a' ++ b) → va_S A H0 H1 locs1 → W p l e R s m args below meth c H1 locs1 (cells + mc) (slots + ms) Q (F0 m (pc + 3) ls (.int r :: rest))) : W p l e R s m args below meth c H locs cells slots Q (F0 m pc ls st0) := by
  have hF := tk_free (tk_Dl hD) hS hA
  refine va_calli hr hS (fun q _ h => hF q h) hF (fun r1 u t H1 locs1 ht hvm hw hB hz1 hk1 hS1 => ?_)
  subst hw
  obtain ⟨hP1, hD1⟩ := hB
  rw [ht] at hP1
  obtain ⟨hP2, hD2⟩ := tk_jL hP hD hF hk1 hP1 hD1
  exact kk H1 locs1 hP2 hD2 hS1
theorem tk_ciR {r : Int32} (hr : va_Run p l e R s m args below meth c H locs cells slots mc ms (F0 m pc ls st0) rest (va_Qi (fun (r1 : Int32) (_ : Unit) => r1 = r) (tk_post G (va_A b H.size) b') (va_A b H.size) ar) (va_A b H.size))
    (hP : va_P G vwCl (a ++ b) H) (hD : va_D A (a ++ b)) (hS : va_S A H0 H locs) (hA : ∀ q, H0.size ≤ q → A q)
    (kk : ∀ (H1 : Heap) (locs1 : List Loc), va_P G vwCl (a ++ b') H1 → va_D A (a ++ b') → va_S A H0 H1 locs1 → W p l e R s m args below meth c H1 locs1 (cells + mc) (slots + ms) Q (F0 m (pc + 3) ls (.int r :: rest))) : W p l e R s m args below meth c H locs cells slots Q (F0 m pc ls st0) := by
  have hF := tk_free (tk_Dr hD) hS hA
  refine va_calli hr hS (fun q _ h => hF q h) hF (fun r1 u t H1 locs1 ht hvm hw hB hz1 hk1 hS1 => ?_)
  subst hw
  obtain ⟨hP1, hD1⟩ := hB
  rw [ht] at hP1
  obtain ⟨hP2, hD2⟩ := tk_jR hP hD hF hk1 hP1 hD1
  exact kk H1 locs1 hP2 hD2 hS1
theorem tk_clR {r : Int64} (hr : va_Run p l e R s m args below meth c H locs cells slots mc ms (F0 m pc ls st0) rest (va_Ql (fun (r1 : Int64) (_ : Unit) => r1 = r) (tk_post G (va_A b H.size) b') (va_A b H.size) ar) (va_A b H.size))
    (hP : va_P G vwCl (a ++ b) H) (hD : va_D A (a ++ b)) (hS : va_S A H0 H locs) (hA : ∀ q, H0.size ≤ q → A q)
    (kk : ∀ (H1 : Heap) (locs1 : List Loc), va_P G vwCl (a ++ b') H1 → va_D A (a ++ b') → va_S A H0 H1 locs1 → W p l e R s m args below meth c H1 locs1 (cells + mc) (slots + ms) Q (F0 m (pc + 3) ls (.long r :: rest))) : W p l e R s m args below meth c H locs cells slots Q (F0 m pc ls st0) := by
  have hF := tk_free (tk_Dr hD) hS hA
  refine va_calll hr hS (fun q _ h => hF q h) hF (fun r1 u t H1 locs1 ht hvm hw hB hz1 hk1 hS1 => ?_)
  subst hw
  obtain ⟨hP1, hD1⟩ := hB
  rw [ht] at hP1
  obtain ⟨hP2, hD2⟩ := tk_jR hP hD hF hk1 hP1 hD1
  exact kk H1 locs1 hP2 hD2 hS1
theorem tk_xiL {k r : Int32} (hr : vx_Run p l e R s m args below meth c H locs cells slots mc ms (F0 m pc ls st0) rest (va_Qi (fun (r1 : Int32) (_ : Unit) => k = 0 ∧ r1 = r) (tk_post G (va_A a H.size) a') (va_A a H.size) ar) (tk_XC G (va_A a H.size) a' k) (va_A a H.size))
    (hP : va_P G vwCl (a ++ b) H) (hD : va_D A (a ++ b)) (hS : va_S A H0 H locs) (hA : ∀ q, H0.size ≤ q → A q)
    (kx : k ≠ 0 → ∀ (ce : Cell) (q9 : Addr) (H1 : Heap) (locs1 : List Loc), va_P G vwCl (a' ++ b) H1 → va_D A (a' ++ b) → va_S A H0 H1 locs1 → H1[q9]? = some ce → ce.vm = .none → s.vm.findClass (tk_ex k) = some ce.cls → vx_W p l e R s m args below meth c H1 locs1 (cells + mc) (slots + ms) Q (F0 m pc ls rest) q9)
    (kk : k = 0 → ∀ (H1 : Heap) (locs1 : List Loc), va_P G vwCl (a' ++ b) H1 → va_D A (a' ++ b) → va_S A H0 H1 locs1 → W p l e R s m args below meth c H1 locs1 (cells + mc) (slots + ms) Q (F0 m (pc + 3) ls (.int r :: rest))) : W p l e R s m args below meth c H locs cells slots Q (F0 m pc ls st0) := by
  have hF := tk_free (tk_Dl hD) hS hA
  refine vx_calli hr hS (fun q _ h => hF q h) hF (fun q _ h => hF q h) (fun E ce q9 u t H1 locs1 ht hvm hw hB hz1 hk1 hS1 h1 h2 h3 => ?_) (fun r1 u t H1 locs1 ht hvm hw hB hz1 hk1 hS1 => ?_)
  · obtain ⟨rfl, hP1, hD1⟩ := hB
    rw [ht] at hP1
    obtain ⟨hP2, hD2⟩ := tk_jL hP hD hF hk1 hP1 hD1
    exact kx hw ce q9 H1 locs1 hP2 hD2 hS1 h1 h2 h3
  · obtain ⟨hk0, hw⟩ := hw
    subst hw
    obtain ⟨hP1, hD1⟩ := hB
    rw [ht] at hP1
    obtain ⟨hP2, hD2⟩ := tk_jL hP hD hF hk1 hP1 hD1
    exact kk hk0 H1 locs1 hP2 hD2 hS1
theorem tk_xlL {k : Int32} {r : Int64} (hr : vx_Run p l e R s m args below meth c H locs cells slots mc ms (F0 m pc ls st0) rest (va_Ql (fun (r1 : Int64) (_ : Unit) => k = 0 ∧ r1 = r) (tk_post G (va_A a H.size) a') (va_A a H.size) ar) (tk_XC G (va_A a H.size) a' k) (va_A a H.size))
    (hP : va_P G vwCl (a ++ b) H) (hD : va_D A (a ++ b)) (hS : va_S A H0 H locs) (hA : ∀ q, H0.size ≤ q → A q)
    (kx : k ≠ 0 → ∀ (ce : Cell) (q9 : Addr) (H1 : Heap) (locs1 : List Loc), va_P G vwCl (a' ++ b) H1 → va_D A (a' ++ b) → va_S A H0 H1 locs1 → H1[q9]? = some ce → ce.vm = .none → s.vm.findClass (tk_ex k) = some ce.cls → vx_W p l e R s m args below meth c H1 locs1 (cells + mc) (slots + ms) Q (F0 m pc ls rest) q9)
    (kk : k = 0 → ∀ (H1 : Heap) (locs1 : List Loc), va_P G vwCl (a' ++ b) H1 → va_D A (a' ++ b) → va_S A H0 H1 locs1 → W p l e R s m args below meth c H1 locs1 (cells + mc) (slots + ms) Q (F0 m (pc + 3) ls (.long r :: rest))) : W p l e R s m args below meth c H locs cells slots Q (F0 m pc ls st0) := by
  have hF := tk_free (tk_Dl hD) hS hA
  refine vx_calll hr hS (fun q _ h => hF q h) hF (fun q _ h => hF q h) (fun E ce q9 u t H1 locs1 ht hvm hw hB hz1 hk1 hS1 h1 h2 h3 => ?_) (fun r1 u t H1 locs1 ht hvm hw hB hz1 hk1 hS1 => ?_)
  · obtain ⟨rfl, hP1, hD1⟩ := hB
    rw [ht] at hP1
    obtain ⟨hP2, hD2⟩ := tk_jL hP hD hF hk1 hP1 hD1
    exact kx hw ce q9 H1 locs1 hP2 hD2 hS1 h1 h2 h3
  · obtain ⟨hk0, hw⟩ := hw
    subst hw
    obtain ⟨hP1, hD1⟩ := hB
    rw [ht] at hP1
    obtain ⟨hP2, hD2⟩ := tk_jL hP hD hF hk1 hP1 hD1
    exact kk hk0 H1 locs1 hP2 hD2 hS1
/-! what is asked of a start: of a method that may throw, on the first part; of the law's own methods -/
def tk_C (_ : State) : Prop := True
def tk_preL (G : va_G) (c : ClassId × ClassId × ClassId) (ws : va_W) (sz : Nat) (U : State) : Prop := tk_preX G c ws sz U ∧ tk_C U
def tk_Li (l : Launch) (y : MethodName) (w : List Cond) (rm : Room) (G : va_G) (c : ClassId × ClassId × ClassId) (av : List Value) (ws ws' : va_W) (r : Int32) : Prop :=
  ∀ sz : Nat, Met l y w rm (va_Pc av (tk_preL G c ws sz)) (va_Qi (fun (r1 : Int32) (_ : Unit) => r1 = r) (tk_post G (va_A ws sz) ws') (va_A ws sz)) 1 6 (va_A ws sz)
theorem tk_Zat {U : State} (hZ : tk_Z A s s.heap) (hS : va_S A s.heap H locs) (hF : ∀ q, va_A a H.size q → A q) (hU : U.heap = H) (hW : s.WarmedH U.vm) : tk_Z (va_A a H.size) U U.heap := by
  rw [hU]
  exact ((hZ.kept (H1 := H) hS.2.1).narrow hF).moved hW.alike
theorem tk_pVX {ci : Nat} {fs : List Value} {r : vw_C} {x : Nat} {As : List Value} (hE : tk_E G c3 s) (hZ : tk_Z A s s.heap) (hP : va_P G vwCl a H) (hD : va_D A a) (hS : va_S A s.heap H locs) (hA : ∀ q, s.heap.size ≤ q → A q) (q0 : Nat) (he : a[q0]? = some (x, .inr (ci, fs))) (hc : vwCl[ci]? = some r) :
    PreV s H r.1 x (va_Pc (.ref x :: As) (tk_preX G c3 a H.size)) As := by
  refine ⟨fun ar U g mk q => ?_, va_recv hE.1 hP hc he, fun U hU hW => ⟨rfl, ⟨by rw [hU], by rw [hU]; exact hP, hE.warm hW, hD.weaken (fun _ _ _ _ => trivial)⟩, tk_Zat hZ hS (tk_free hD hS hA) hU hW⟩⟩
  obtain ⟨q0, ⟨q1, qP, qE, qD⟩, qZ⟩ := q
  exact ⟨q0, ⟨q1, qP, qE.calling, qD⟩, tk_Z.moved (u := U) (U := U.calling g mk ar) (Vm.Alike.refl U.vm) qZ⟩
theorem tk_C.moved {u U : State} (_ : u.vm.Alike U.vm) (_ : tk_C u) : tk_C U := trivial
theorem tk_pSL {As : List Value} (hE : tk_E G c3 s) (hZ : tk_Z A s s.heap) (hC : tk_C s) (hP : va_P G vwCl a H) (hD : va_D A a) (hS : va_S A s.heap H locs) (hA : ∀ q, s.heap.size ≤ q → A q) : PreS s H (va_Pc As (tk_preL G c3 a H.size)) As := by
  refine ⟨fun ar U g mk q => ?_, fun U hU hW => ⟨rfl, ⟨⟨by rw [hU], by rw [hU]; exact hP, hE.warm hW, hD.weaken (fun _ _ _ _ => trivial)⟩, tk_Zat hZ hS (tk_free hD hS hA) hU hW⟩, hC.moved hW.alike⟩⟩
  obtain ⟨q0, ⟨⟨q1, qP, qE, qD⟩, qZ⟩, qC⟩ := q
  exact ⟨q0, ⟨⟨q1, qP, qE.calling, qD⟩, tk_Z.moved (u := U) (U := U.calling g mk ar) (Vm.Alike.refl U.vm) qZ⟩, tk_C.moved (u := U) (U := U.calling g mk ar) (Vm.Alike.refl U.vm) qC⟩
end TKL
section TKL2
variable {l : Launch} {y : MethodName} {ws ws' : List Cond} {rm : Room} {G : va_G} {c3 : ClassId × ClassId × ClassId} {av : List Value} {w0 w1 : va_W} {cc : ByteArray} {maxL : Nat} {ret : Option FieldType} {hh : List (Nat × Nat × Nat × Nat)}
abbrev tk_EL (hh : List (Nat × Nat × Nat × Nat)) (c : Code) (A : Nat → Prop) (s : State) : Prop := tk_Z A s s.heap ∧ tk_C s ∧ c.exceptionTable.toList = tableOf hh
theorem tk_ofLi {r0 : Int32} (hy : plainName y.cls = true) (hw : ws = Cond.codeWith y cc maxL ret hh :: ws') (hn : (lg_sl av).length ≤ maxL)
    (body : tk_B0 l ws rm y G c3 av w0 cc maxL ret (tk_EL hh) (fun below s A => MQ below (va_Qi (fun (r1 : Int32) (_ : Unit) => r1 = r0) (tk_post G A w1) A) av.toArray s 1 6 A)) : tk_Li l y ws rm G c3 av w0 w1 r0 := by
  intro sz
  refine va_MetW (cc := cc) (maxL := maxL) (ret := ret) (hh := hh) hy hw ?_
  intro p e s m args below meth c s₁ B hml hv
  obtain ⟨rfl, ⟨⟨hsz, hP, hE, hD0⟩, hZ⟩, hC⟩ := hv
  subst hsz
  have hD := hD0.self (sz := s.heap.size)
  have hl := lv_entry av (n := maxL) hn
  rw [lg_entry_eq]
  have hts := atoms_spec (ws := ws) B.pre
  exact body p e s m below meth c _ _ _ _ _ B.exec B.bytes hml B.returns hts (findClass_of_methodNamed B.named) B.notSynchronized hE (fun q h => Or.inr h) hP hD va_S.rf ⟨hZ, hC, vx_table (x := y) B (hts _ (by rw [hw]; exact List.mem_cons_self))⟩ rfl hl
end TKL2
section TKL3
variable {p : Program} {l : Launch} {e : Env} {R : Room} {s : State} {m : MethodId} {args : Array Value} {below : List Frame} {meth : Method} {c : Code} {H : Heap} {locs : List Loc} {cells slots : Nat} {Q : State → Prop}
variable {cc : ByteArray} {pc : Nat} {ls : Array Slot} {A : Nat → Prop} {G : va_G} {ws' : va_W}
theorem tk_rL {r r0 : Int32} {wr : va_W} (hQ : Q = MQ below (va_Qi (fun (r1 : Int32) (_ : Unit) => r1 = r0) (tk_post G A ws') A) args s 1 6 A) (e1 : r = r0) (e2 : wr = ws') (hc : cells ≤ 1) (hs : slots ≤ 6)
    (hx : p.tables.exec = Jvm.exec) (hb : c.code = cc) (hr : meth.sig.returnType = some .int) (hlocks : meth.locks = false) (hP : va_P G vwCl wr H) (hD : va_D A wr) (hS : va_S A s.heap H locs) (d : decode cc pc = .ok (.ireturn, 1)) :
    W p l e R s m args below meth c H locs cells slots Q (F0 m pc ls [.int r]) := by
  subst hQ; subst e1; subst e2
  refine W.widen (k := 1) (n := 6) hc hs ?_
  exact W.iret (v := r) hx hb hr (fun t ht hW => ⟨⟨r, (), rfl, rfl, by rw [ht]; exact hP, hD⟩, hS.F ht⟩) hS.2.2 d
end TKL3
/-- the law's row of one long -/
def tk_O (c : ClassId × ClassId × ClassId) (q : Nat → Nat) (o : Nat → Int64) : va_W := [(q 26, .inl (c.2.1, 1, .inr (.inl o)))]
