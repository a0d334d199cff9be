set_option maxRecDepth 20000 in
theorem tw_78 : Cond.fieldLinkNest RX6 101 "TarockHall$Bidding" "highest" "I" "TarockHall" ∈ lw_tbl := List.mem_of_getElem? (i := 78) rfl
set_option maxRecDepth 20000 in
theorem tw_99 : Cond.fieldLinkNest RX6 202 "TarockHall$Trick" "size" "I" "TarockHall" ∈ lw_tbl := List.mem_of_getElem? (i := 99) rfl
set_option maxRecDepth 20000 in
theorem tw_116 : Cond.fieldLinkNest RX6 268 "TarockHall$Sheet" "scores" "LTarockHall$Row;" "TarockHall" ∈ lw_tbl := List.mem_of_getElem? (i := 116) rfl
set_option maxRecDepth 20000 in
theorem tw_118 : Cond.fieldLinkNest RX6 276 "TarockHall$Sheet" "radli" "LTarockHall$Row;" "TarockHall" ∈ lw_tbl := List.mem_of_getElem? (i := 118) rfl
set_option maxRecDepth 20000 in
theorem tw_120 : Cond.fieldLinkNest RX6 279 "TarockHall$Sheet" "latest" "I" "TarockHall" ∈ lw_tbl := List.mem_of_getElem? (i := 120) rfl
set_option maxRecDepth 20000 in
theorem tw_80 : Cond.fieldLinkNest RX6 294 "TarockHall$Bidding" "bidder" "I" "TarockHall" ∈ lw_tbl := List.mem_of_getElem? (i := 80) rfl
set_option maxRecDepth 20000 in
theorem tw_620 : Cond.methodLinkNest RX0 27 yX6_behind "TarockHall" ∈ lw_tbl := List.mem_of_getElem? (i := 620) rfl
set_option maxRecDepth 20000 in
theorem tw_328 : Cond.methodLinkNest RX1 32 yX6_only "TarockHall" ∈ lw_tbl := List.mem_of_getElem? (i := 328) rfl
set_option maxRecDepth 20000 in
theorem tw_399 : Cond.methodLinkNest RX5 35 yX6_suitOf "TarockHall" ∈ lw_tbl := List.mem_of_getElem? (i := 399) rfl
set_option maxRecDepth 20000 in
theorem tw_446 : Cond.methodLinkNest RX5 38 yX6_only "TarockHall" ∈ lw_tbl := List.mem_of_getElem? (i := 446) rfl
set_option maxRecDepth 20000 in
theorem tw_202 : Cond.castable "java/lang/IllegalArgumentException" "java/lang/IllegalArgumentException" ∈ lw_tbl := List.mem_of_getElem? (i := 202) rfl
set_option maxRecDepth 20000 in
theorem tw_270 : Cond.castable "java/lang/IllegalStateException" "java/lang/IllegalStateException" ∈ lw_tbl := List.mem_of_getElem? (i := 270) rfl
set_option maxRecDepth 20000 in
theorem tw_337 : Cond.castable "java/lang/IndexOutOfBoundsException" "java/lang/IndexOutOfBoundsException" ∈ lw_tbl := List.mem_of_getElem? (i := 337) rfl
set_option maxRecDepth 20000 in
theorem tw_204 : tk_n14 ∈ lw_tbl := List.mem_of_getElem? (i := 204) rfl
set_option maxRecDepth 20000 in
theorem tw_206 : tk_n15 ∈ lw_tbl := List.mem_of_getElem? (i := 206) rfl
set_option maxRecDepth 20000 in
theorem tw_208 : tk_n16 ∈ lw_tbl := List.mem_of_getElem? (i := 208) rfl
set_option maxRecDepth 20000 in
theorem tw_241 : Cond.stringRef RX6 74 "no such number of a deal" ∈ lw_tbl := List.mem_of_getElem? (i := 241) rfl
set_option maxRecDepth 20000 in
theorem tw_277 : Cond.stringRef RX6 81 "the latest deal is not over" ∈ lw_tbl := List.mem_of_getElem? (i := 277) rfl
set_option maxRecDepth 20000 in
theorem tw_587 : Cond.stringRef RX6 97 "no such level" ∈ lw_tbl := List.mem_of_getElem? (i := 587) rfl
set_option maxRecDepth 20000 in
theorem tw_588 : Cond.stringRef RX6 99 "nobody bids now" ∈ lw_tbl := List.mem_of_getElem? (i := 588) rfl
set_option maxRecDepth 20000 in
theorem tw_589 : Cond.stringRef RX6 104 "the level is not above the highest one" ∈ lw_tbl := List.mem_of_getElem? (i := 589) rfl
set_option maxRecDepth 20000 in
theorem tw_344 : Cond.stringRef RX6 128 "no such suit" ∈ lw_tbl := List.mem_of_getElem? (i := 344) rfl
set_option maxRecDepth 20000 in
theorem tw_351 : Cond.stringRef RX6 131 "no king is called now" ∈ lw_tbl := List.mem_of_getElem? (i := 351) rfl
set_option maxRecDepth 20000 in
theorem tw_378 : Cond.stringRef RX6 143 "no such group" ∈ lw_tbl := List.mem_of_getElem? (i := 378) rfl
set_option maxRecDepth 20000 in
theorem tw_379 : Cond.stringRef RX6 145 "nothing is taken of the talon now" ∈ lw_tbl := List.mem_of_getElem? (i := 379) rfl
set_option maxRecDepth 20000 in
theorem tw_561 : Cond.stringRef RX6 175 "no such card" ∈ lw_tbl := List.mem_of_getElem? (i := 561) rfl
set_option maxRecDepth 20000 in
theorem tw_632 : Cond.stringRef RX6 177 "nothing is laid away now" ∈ lw_tbl := List.mem_of_getElem? (i := 632) rfl
set_option maxRecDepth 20000 in
theorem tw_636 : Cond.stringRef RX6 186 "the declarer cannot lay the card away" ∈ lw_tbl := List.mem_of_getElem? (i := 636) rfl
set_option maxRecDepth 20000 in
theorem tw_644 : Cond.stringRef RX6 197 "no such bird" ∈ lw_tbl := List.mem_of_getElem? (i := 644) rfl
set_option maxRecDepth 20000 in
theorem tw_645 : Cond.stringRef RX6 205 "birds are announced ahead of the first trick" ∈ lw_tbl := List.mem_of_getElem? (i := 645) rfl
set_option maxRecDepth 20000 in
theorem tw_646 : Cond.stringRef RX6 210 "the bird is announced" ∈ lw_tbl := List.mem_of_getElem? (i := 646) rfl
set_option maxRecDepth 20000 in
theorem tw_647 : Cond.stringRef RX6 212 "no king is called at this level" ∈ lw_tbl := List.mem_of_getElem? (i := 647) rfl
set_option maxRecDepth 20000 in
theorem tw_705 : Cond.stringRef RX6 226 "the card cannot be played now" ∈ lw_tbl := List.mem_of_getElem? (i := 705) rfl
set_option maxRecDepth 20000 in
theorem tw_388 : Cond.stringRef RX6 231 "no such number of cards" ∈ lw_tbl := List.mem_of_getElem? (i := 388) rfl
set_option maxRecDepth 20000 in
theorem tw_389 : Cond.stringRef RX6 233 "nobody plays now" ∈ lw_tbl := List.mem_of_getElem? (i := 389) rfl
set_option maxRecDepth 20000 in
theorem tw_535 : Cond.stringRef RX6 242 "no such player" ∈ lw_tbl := List.mem_of_getElem? (i := 535) rfl
set_option maxRecDepth 20000 in
theorem tw_540 : Cond.stringRef RX6 244 "no such place in the talon" ∈ lw_tbl := List.mem_of_getElem? (i := 540) rfl
set_option maxRecDepth 20000 in
theorem tw_541 : Cond.stringRef RX6 246 "there was no deal" ∈ lw_tbl := List.mem_of_getElem? (i := 541) rfl
set_option maxRecDepth 20000 in
theorem tw_666 : Cond.stringRef RX6 251 "no such card in the trick" ∈ lw_tbl := List.mem_of_getElem? (i := 666) rfl
set_option maxRecDepth 20000 in
theorem tw_569 : Cond.stringRef RX6 260 "no such side" ∈ lw_tbl := List.mem_of_getElem? (i := 569) rfl
set_option maxRecDepth 20000 in
theorem tw_227 : Cond.laysStatic "java/lang/Throwable" "UNASSIGNED_STACK" "[Ljava/lang/StackTraceElement;" ∈ lw_tbl := List.mem_of_getElem? (i := 227) rfl
set_option maxRecDepth 20000 in
theorem tw_229 : Cond.laysStatic "java/lang/Throwable" "SUPPRESSED_SENTINEL" "Ljava/util/List;" ∈ lw_tbl := List.mem_of_getElem? (i := 229) rfl
set_option maxRecDepth 20000 in
theorem tw_31 : Cond.initialized "java/lang/Throwable" ∈ lw_tbl := List.mem_of_getElem? (i := 31) rfl
set_option maxRecDepth 20000 in
theorem tw_65 : Cond.arrayClass .int ∈ lw_tbl := List.mem_of_getElem? (i := 65) rfl
set_option maxRecDepth 20000 in
theorem tw_139 : Cond.arrayClass .long ∈ lw_tbl := List.mem_of_getElem? (i := 139) rfl
set_option maxRecDepth 20000 in
theorem tw_71 : Cond.instantiable RX0 3 ∈ lw_tbl := List.mem_of_getElem? (i := 71) rfl
set_option maxRecDepth 20000 in
theorem tw_47 : Cond.instantiable RX1 1 ∈ lw_tbl := List.mem_of_getElem? (i := 47) rfl
set_option maxRecDepth 20000 in
theorem tw_53 : Cond.instantiable RX2 1 ∈ lw_tbl := List.mem_of_getElem? (i := 53) rfl
set_option maxRecDepth 20000 in
theorem tw_129 : Cond.instantiable RX3 1 ∈ lw_tbl := List.mem_of_getElem? (i := 129) rfl
set_option maxRecDepth 20000 in
theorem tw_108 : Cond.instantiable RX4 3 ∈ lw_tbl := List.mem_of_getElem? (i := 108) rfl
set_option maxRecDepth 20000 in
theorem tw_89 : Cond.instantiable RX5 3 ∈ lw_tbl := List.mem_of_getElem? (i := 89) rfl
set_option maxRecDepth 20000 in
theorem tw_39 : Cond.instantiable RX6 18 ∈ lw_tbl := List.mem_of_getElem? (i := 39) rfl
set_option maxRecDepth 20000 in
theorem tw_38 : Cond.classLink RL 8 RX6 ∈ lw_tbl := List.mem_of_getElem? (i := 38) rfl
set_option maxRecDepth 20000 in
theorem tw_23 : Cond.initialized RX6 ∈ lw_tbl := List.mem_of_getElem? (i := 23) rfl
set_option maxRecDepth 20000 in
theorem tw_40 : Cond.methodLink RL 107 yX6_init ∈ lw_tbl := List.mem_of_getElem? (i := 40) rfl
set_option maxRecDepth 20000 in
theorem tw_41 : Cond.instanceMethod yX6_init ∈ lw_tbl := List.mem_of_getElem? (i := 41) rfl
set_option maxRecDepth 20000 in
theorem hs_X6_init : yX6_init.cls ≠ "java/lang/invoke/MethodHandle" ∧ yX6_init.cls ≠ "java/lang/invoke/VarHandle" ∧ (parseMethodDescriptor yX6_init.desc).map (fun d => d.parameters.length) = some 0 := by decide +kernel
/-- the environment, out of what the Statement gives of the start -/
theorem tk_flat_str : ∀ q ∈ tk_strs, Cond.exactly (.string RX6 q.1) "java/lang/String" ∈ flatC (Jvm.Cond.and given_1 narrow_1) := by decide +kernel
theorem tk_flat_u : Cond.isRef (.static Bundle.tN "UNASSIGNED_STACK" Bundle.steD) ∈ flatC (Jvm.Cond.and given_1 narrow_1) := by decide +kernel
theorem tk_flat_n : Cond.isRef (.static Bundle.tN "SUPPRESSED_SENTINEL" Bundle.listD) ∈ flatC (Jvm.Cond.and given_1 narrow_1) := by decide +kernel
theorem tk_tblstr : ∀ q ∈ tk_strs, Cond.stringRef RX6 q.1 q.2 ∈ lw_tbl := by
  intro q hq
  simp only [tk_strs, List.mem_cons, List.not_mem_nil, or_false] at hq
  rcases hq with rfl | rfl | rfl | rfl | rfl | rfl | rfl | rfl | rfl | rfl | rfl | rfl | rfl | rfl | rfl | rfl | rfl | rfl | rfl | rfl | rfl | rfl | rfl | rfl
  · exact tw_241
  · exact tw_277
  · exact tw_587
  · exact tw_588
  · exact tw_589
  · exact tw_344
  · exact tw_351
  · exact tw_378
  · exact tw_379
  · exact tw_561
  · exact tw_632
  · exact tw_636
  · exact tw_644
  · exact tw_645
  · exact tw_646
  · exact tw_647
  · exact tw_705
  · exact tw_388
  · exact tw_389
  · exact tw_535
  · exact tw_540
  · exact tw_541
  · exact tw_666
  · exact tw_569
theorem tk_arr {s : State} {args : Array Value} {ty : FieldType} (hne : ∀ C, ty ≠ .object C) (h : (Cond.arrayClass ty).before args s = true) : ∃ cA : ClassId, ArrOfT s cA ty ∧ va_RA s cA ty := by
  obtain ⟨cA, k, comp, h1, h2, h3⟩ := Cond.arrayClass_spec (args := args) (first := s) (o := none) (s := s) (idx := []) h
  refine ⟨cA, fun n z => ⟨fun k h => (by cases h), k, h2, comp, h3⟩, ?_⟩
  cases ty with
  | object C => exact absurd rfl (hne C)
  | _ => exact h1
theorem tk_start {p : Program} {s : State} {m : MethodId} {meth : Method} {c : Code} {b L : Nat} {xs : Nat → Int32} (C0 : lw_At p s m meth c b L xs) : ∃ (G : va_G) (c3 : ClassId × ClassId × ClassId), tk_E G c3 s ∧ tk_C s ∧ tk_Z (fun x : Nat => s.heap.size ≤ x) s s.heap := by
  obtain ⟨hx, hb, hr, hml, hown, hts, hX, hbl, hlocks, hgv⟩ := id C0
  have hs := flat_of_before _ hgv
  obtain ⟨c0, iS0, hKn0⟩ := u_known (C := RX0) (T := TX0) (N := 3) (n := 3) hts inX0 (hts _ tw_71)
  obtain ⟨c1, iS1, hKn1⟩ := u_known (C := RX1) (T := TX1) (N := 1) (n := 1) hts inX1 (hts _ tw_47)
  obtain ⟨c2, iS2, hKn2⟩ := u_known (C := RX2) (T := TX2) (N := 1) (n := 1) hts inX2 (hts _ tw_53)
  obtain ⟨c3, iS3, hKn3⟩ := u_known (C := RX3) (T := TX3) (N := 1) (n := 1) hts inX3 (hts _ tw_129)
  obtain ⟨c4, iS4, hKn4⟩ := u_known (C := RX4) (T := TX4) (N := 3) (n := 3) hts inX4 (hts _ tw_108)
  obtain ⟨c5, iS5, hKn5⟩ := u_known (C := RX5) (T := TX5) (N := 3) (n := 3) hts inX5 (hts _ tw_89)
  obtain ⟨c6, iS6, hKn6⟩ := u_known (C := RX6) (T := TX6) (N := 18) (n := 18) hts inX6 (hts _ tw_39)
  obtain ⟨dC, dI, hKc⟩ : ∃ (dC : Nat → ClassId) (dI : Nat → Nat → Nat), ∀ (k : Nat) (q : vw_C), vwCl[k]? = some q → u_Kn s q.1 q.2.1 q.2.2 (dC k) (dI k) := by
    refine ⟨fun k => if k = 0 then c0 else if k = 1 then c1 else if k = 2 then c2 else if k = 3 then c3 else if k = 4 then c4 else if k = 5 then c5 else c6, fun k => if k = 0 then iS0 else if k = 1 then iS1 else if k = 2 then iS2 else if k = 3 then iS3 else if k = 4 then iS4 else if k = 5 then iS5 else iS6, ?_⟩
    intro k q hq
    match k, hq with
    | 0, hq => cases hq; exact hKn0
    | 1, hq => cases hq; exact hKn1
    | 2, hq => cases hq; exact hKn2
    | 3, hq => cases hq; exact hKn3
    | 4, hq => cases hq; exact hKn4
    | 5, hq => cases hq; exact hKn5
    | 6, hq => cases hq; exact hKn6
    | k + 7, hq => simp [vwCl] at hq
  obtain ⟨cI, hI⟩ := tk_arr (ty := .int) (fun _ h => nomatch h) (hts _ tw_65)
  obtain ⟨cJ, hJ⟩ := tk_arr (ty := .long) (fun _ h => nomatch h) (hts _ tw_139)
  refine ⟨(dC, dI), (cI, cJ, cI), ⟨⟨hKc, fun k q h => ?_⟩, ⟨va_Nw.of rfl (hts _ tw_78), va_Nw.of rfl (hts _ tw_99), va_Nw.of rfl (hts _ tw_116), va_Nw.of rfl (hts _ tw_118), va_Nw.of rfl (hts _ tw_120), va_Nw.of rfl (hts _ tw_80), va_Nw.of rfl (hts _ tw_620), va_Nw.of rfl (hts _ tw_328), va_Nw.of rfl (hts _ tw_399), va_Nw.of rfl (hts _ tw_446), va_Nw.of rfl (hts _ tw_202), va_Nw.of rfl (hts _ tw_270), va_Nw.of rfl (hts _ tw_337), va_Nw.of rfl (hts _ tw_204), va_Nw.of rfl (hts _ tw_206), va_Nw.of rfl (hts _ tw_208)⟩, fun q hq => ?_⟩, trivial, vx_Zqof (hts _ tw_227) (hts _ tw_31) (hs _ tk_flat_u) (fun a h => Nat.not_le.mpr h), vx_Zqof (hts _ tw_229) (hts _ tw_31) (hs _ tk_flat_n) (fun a h => Nat.not_le.mpr h)⟩
  · match k, h with
    | 0, h => cases h; exact hI
    | 1, h => cases h; exact hJ
    | k + 2, h => simp [tk_tys] at h
  · obtain ⟨a, c9, cA, kA, q1, -⟩ := Cond.exactly_spec (args := #[Value.ref b]) (first := s) (o := none) (s := s) (idx := []) (hs _ (tk_flat_str q hq))
    exact ⟨a, vk_R.of (hts _ (tk_tblstr q hq)) q1⟩
def tk_S0 : tk_ST := (fun k => ([-1, 0, -1, -1, -1, -1, -1, 0, 0, 0, 0, 0, -1, 0, 0, 0] : List Int32).getD k 0, fun _ => 0, fun _ _ => 0, fun _ _ => 0)
