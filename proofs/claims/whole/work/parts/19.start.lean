set_option maxRecDepth 20000 in
theorem tw_95 : Cond.fieldLinkNest RX6 101 "TarockHall$Bidding" "highest" "I" "TarockHall" ∈ lw_tbl := List.mem_of_getElem? (i := 95) rfl
set_option maxRecDepth 20000 in
theorem tw_116 : Cond.fieldLinkNest RX6 202 "TarockHall$Trick" "size" "I" "TarockHall" ∈ lw_tbl := List.mem_of_getElem? (i := 116) rfl
set_option maxRecDepth 20000 in
theorem tw_133 : Cond.fieldLinkNest RX6 268 "TarockHall$Sheet" "scores" "LTarockHall$Row;" "TarockHall" ∈ lw_tbl := List.mem_of_getElem? (i := 133) rfl
set_option maxRecDepth 20000 in
theorem tw_135 : Cond.fieldLinkNest RX6 276 "TarockHall$Sheet" "radli" "LTarockHall$Row;" "TarockHall" ∈ lw_tbl := List.mem_of_getElem? (i := 135) rfl
set_option maxRecDepth 20000 in
theorem tw_137 : Cond.fieldLinkNest RX6 279 "TarockHall$Sheet" "latest" "I" "TarockHall" ∈ lw_tbl := List.mem_of_getElem? (i := 137) rfl
set_option maxRecDepth 20000 in
theorem tw_97 : Cond.fieldLinkNest RX6 294 "TarockHall$Bidding" "bidder" "I" "TarockHall" ∈ lw_tbl := List.mem_of_getElem? (i := 97) rfl
set_option maxRecDepth 20000 in
theorem tw_433 : Cond.methodLinkNest RX0 27 yX6_behind "TarockHall" ∈ lw_tbl := List.mem_of_getElem? (i := 433) rfl
set_option maxRecDepth 20000 in
theorem tw_386 : Cond.methodLinkNest RX1 32 yX6_only "TarockHall" ∈ lw_tbl := List.mem_of_getElem? (i := 386) rfl
set_option maxRecDepth 20000 in
theorem tw_553 : Cond.methodLinkNest RX5 35 yX6_suitOf "TarockHall" ∈ lw_tbl := List.mem_of_getElem? (i := 553) rfl
set_option maxRecDepth 20000 in
theorem tw_595 : Cond.methodLinkNest RX5 38 yX6_only "TarockHall" ∈ lw_tbl := List.mem_of_getElem? (i := 595) rfl
set_option maxRecDepth 20000 in
theorem tw_260 : Cond.castable "java/lang/IllegalArgumentException" "java/lang/IllegalArgumentException" ∈ lw_tbl := List.mem_of_getElem? (i := 260) rfl
set_option maxRecDepth 20000 in
theorem tw_328 : Cond.castable "java/lang/IllegalStateException" "java/lang/IllegalStateException" ∈ lw_tbl := List.mem_of_getElem? (i := 328) rfl
set_option maxRecDepth 20000 in
theorem tw_448 : Cond.castable "java/lang/IndexOutOfBoundsException" "java/lang/IndexOutOfBoundsException" ∈ lw_tbl := List.mem_of_getElem? (i := 448) rfl
set_option maxRecDepth 20000 in
theorem tw_262 : tk_n14 ∈ lw_tbl := List.mem_of_getElem? (i := 262) rfl
set_option maxRecDepth 20000 in
theorem tw_264 : tk_n15 ∈ lw_tbl := List.mem_of_getElem? (i := 264) rfl
set_option maxRecDepth 20000 in
theorem tw_266 : tk_n16 ∈ lw_tbl := List.mem_of_getElem? (i := 266) rfl
set_option maxRecDepth 20000 in
theorem tw_299 : Cond.stringRef RX6 74 "no such number of a deal" ∈ lw_tbl := List.mem_of_getElem? (i := 299) rfl
set_option maxRecDepth 20000 in
theorem tw_335 : Cond.stringRef RX6 81 "the latest deal is not over" ∈ lw_tbl := List.mem_of_getElem? (i := 335) rfl
set_option maxRecDepth 20000 in
theorem tw_396 : Cond.stringRef RX6 97 "no such level" ∈ lw_tbl := List.mem_of_getElem? (i := 396) rfl
set_option maxRecDepth 20000 in
theorem tw_397 : Cond.stringRef RX6 99 "nobody bids now" ∈ lw_tbl := List.mem_of_getElem? (i := 397) rfl
set_option maxRecDepth 20000 in
theorem tw_398 : Cond.stringRef RX6 104 "the level is not above the highest one" ∈ lw_tbl := List.mem_of_getElem? (i := 398) rfl
set_option maxRecDepth 20000 in
theorem tw_455 : Cond.stringRef RX6 128 "no such suit" ∈ lw_tbl := List.mem_of_getElem? (i := 455) rfl
set_option maxRecDepth 20000 in
theorem tw_462 : Cond.stringRef RX6 131 "no king is called now" ∈ lw_tbl := List.mem_of_getElem? (i := 462) rfl
set_option maxRecDepth 20000 in
theorem tw_492 : Cond.stringRef RX6 143 "no such group" ∈ lw_tbl := List.mem_of_getElem? (i := 492) rfl
set_option maxRecDepth 20000 in
theorem tw_493 : Cond.stringRef RX6 145 "nothing is taken of the talon now" ∈ lw_tbl := List.mem_of_getElem? (i := 493) rfl
set_option maxRecDepth 20000 in
theorem tw_508 : Cond.stringRef RX6 175 "no such card" ∈ lw_tbl := List.mem_of_getElem? (i := 508) rfl
set_option maxRecDepth 20000 in
theorem tw_509 : Cond.stringRef RX6 177 "nothing is laid away now" ∈ lw_tbl := List.mem_of_getElem? (i := 509) rfl
set_option maxRecDepth 20000 in
theorem tw_519 : Cond.stringRef RX6 186 "the declarer cannot lay the card away" ∈ lw_tbl := List.mem_of_getElem? (i := 519) rfl
set_option maxRecDepth 20000 in
theorem tw_528 : Cond.stringRef RX6 197 "no such bird" ∈ lw_tbl := List.mem_of_getElem? (i := 528) rfl
set_option maxRecDepth 20000 in
theorem tw_529 : Cond.stringRef RX6 205 "birds are announced ahead of the first trick" ∈ lw_tbl := List.mem_of_getElem? (i := 529) rfl
set_option maxRecDepth 20000 in
theorem tw_534 : Cond.stringRef RX6 210 "the bird is announced" ∈ lw_tbl := List.mem_of_getElem? (i := 534) rfl
set_option maxRecDepth 20000 in
theorem tw_535 : Cond.stringRef RX6 212 "no king is called at this level" ∈ lw_tbl := List.mem_of_getElem? (i := 535) rfl
set_option maxRecDepth 20000 in
theorem tw_562 : Cond.stringRef RX6 226 "the card cannot be played now" ∈ lw_tbl := List.mem_of_getElem? (i := 562) rfl
set_option maxRecDepth 20000 in
theorem tw_648 : Cond.stringRef RX6 231 "no such number of cards" ∈ lw_tbl := List.mem_of_getElem? (i := 648) rfl
set_option maxRecDepth 20000 in
theorem tw_649 : Cond.stringRef RX6 233 "nobody plays now" ∈ lw_tbl := List.mem_of_getElem? (i := 649) rfl
set_option maxRecDepth 20000 in
theorem tw_663 : Cond.stringRef RX6 242 "no such player" ∈ lw_tbl := List.mem_of_getElem? (i := 663) rfl
set_option maxRecDepth 20000 in
theorem tw_671 : Cond.stringRef RX6 244 "no such place in the talon" ∈ lw_tbl := List.mem_of_getElem? (i := 671) rfl
set_option maxRecDepth 20000 in
theorem tw_672 : Cond.stringRef RX6 246 "there was no deal" ∈ lw_tbl := List.mem_of_getElem? (i := 672) rfl
set_option maxRecDepth 20000 in
theorem tw_684 : Cond.stringRef RX6 251 "no such card in the trick" ∈ lw_tbl := List.mem_of_getElem? (i := 684) rfl
set_option maxRecDepth 20000 in
theorem tw_713 : Cond.stringRef RX6 260 "no such side" ∈ lw_tbl := List.mem_of_getElem? (i := 713) rfl
set_option maxRecDepth 20000 in
theorem tw_285 : Cond.laysStatic "java/lang/Throwable" "UNASSIGNED_STACK" "[Ljava/lang/StackTraceElement;" ∈ lw_tbl := List.mem_of_getElem? (i := 285) rfl
set_option maxRecDepth 20000 in
theorem tw_287 : Cond.laysStatic "java/lang/Throwable" "SUPPRESSED_SENTINEL" "Ljava/util/List;" ∈ lw_tbl := List.mem_of_getElem? (i := 287) rfl
set_option maxRecDepth 20000 in
theorem tw_48 : Cond.initialized "java/lang/Throwable" ∈ lw_tbl := List.mem_of_getElem? (i := 48) rfl
set_option maxRecDepth 20000 in
theorem tw_82 : Cond.arrayClass .int ∈ lw_tbl := List.mem_of_getElem? (i := 82) rfl
set_option maxRecDepth 20000 in
theorem tw_156 : Cond.arrayClass .long ∈ lw_tbl := List.mem_of_getElem? (i := 156) rfl
set_option maxRecDepth 20000 in
theorem tw_844 : Cond.arrayClass .boolean ∈ lw_tbl := List.mem_of_getElem? (i := 844) rfl
set_option maxRecDepth 20000 in
theorem tw_88 : Cond.instantiable RX0 3 ∈ lw_tbl := List.mem_of_getElem? (i := 88) rfl
set_option maxRecDepth 20000 in
theorem tw_64 : Cond.instantiable RX1 1 ∈ lw_tbl := List.mem_of_getElem? (i := 64) rfl
set_option maxRecDepth 20000 in
theorem tw_70 : Cond.instantiable RX2 1 ∈ lw_tbl := List.mem_of_getElem? (i := 70) rfl
set_option maxRecDepth 20000 in
theorem tw_146 : Cond.instantiable RX3 1 ∈ lw_tbl := List.mem_of_getElem? (i := 146) rfl
set_option maxRecDepth 20000 in
theorem tw_125 : Cond.instantiable RX4 3 ∈ lw_tbl := List.mem_of_getElem? (i := 125) rfl
set_option maxRecDepth 20000 in
theorem tw_106 : Cond.instantiable RX5 3 ∈ lw_tbl := List.mem_of_getElem? (i := 106) rfl
set_option maxRecDepth 20000 in
theorem tw_56 : Cond.instantiable RX6 18 ∈ lw_tbl := List.mem_of_getElem? (i := 56) rfl
set_option maxRecDepth 20000 in
theorem tw_751 : Cond.instantiable RX7 29 ∈ lw_tbl := List.mem_of_getElem? (i := 751) rfl
set_option maxRecDepth 20000 in
theorem tw_55 : Cond.classLink RL 8 RX6 ∈ lw_tbl := List.mem_of_getElem? (i := 55) rfl
set_option maxRecDepth 20000 in
theorem tw_39 : Cond.initialized RX6 ∈ lw_tbl := List.mem_of_getElem? (i := 39) rfl
set_option maxRecDepth 20000 in
theorem tw_57 : Cond.methodLink RL 73 yX6_init ∈ lw_tbl := List.mem_of_getElem? (i := 57) rfl
set_option maxRecDepth 20000 in
theorem tw_58 : Cond.instanceMethod yX6_init ∈ lw_tbl := List.mem_of_getElem? (i := 58) rfl
set_option maxRecDepth 20000 in
theorem tw_750 : Cond.classLink RL 74 RX7 ∈ lw_tbl := List.mem_of_getElem? (i := 750) rfl
set_option maxRecDepth 20000 in
theorem tw_47 : Cond.initialized RX7 ∈ lw_tbl := List.mem_of_getElem? (i := 47) rfl
set_option maxRecDepth 20000 in
theorem tw_752 : Cond.methodLink RL 76 yX7_init ∈ lw_tbl := List.mem_of_getElem? (i := 752) rfl
set_option maxRecDepth 20000 in
theorem tw_753 : Cond.instanceMethod yX7_init ∈ lw_tbl := List.mem_of_getElem? (i := 753) rfl
set_option maxRecDepth 20000 in
theorem hs_X6_init : yX6_init.cls ≠ "java/lang/invoke/MethodHandle" ∧ yX6_init.cls ≠ "java/lang/invoke/VarHandle" ∧ (parseMethodDescriptor yX6_init.desc).map (fun d => d.parameters.length) = some 0 := by decide +kernel
set_option maxRecDepth 20000 in
theorem hs_X7_init : yX7_init.cls ≠ "java/lang/invoke/MethodHandle" ∧ yX7_init.cls ≠ "java/lang/invoke/VarHandle" ∧ (parseMethodDescriptor yX7_init.desc).map (fun d => d.parameters.length) = some 0 := by decide +kernel
/-- the environment, out of what the Statement gives of the start -/
theorem tk_flat_str : ∀ q ∈ tk_strs, Cond.exactly (.string RX6 q.1) "java/lang/String" ∈ flatC (Jvm.Cond.and given_1 narrow_1) := by decide +kernel
theorem tk_flat_c1 : Cond.not (.castable "java/lang/IllegalStateException" "java/lang/IllegalArgumentException") ∈ flatC (Jvm.Cond.and given_1 narrow_1) := by decide +kernel
theorem tk_flat_c2 : Cond.not (.castable "java/lang/IllegalStateException" "java/lang/IndexOutOfBoundsException") ∈ flatC (Jvm.Cond.and given_1 narrow_1) := by decide +kernel
theorem tk_flat_u : Cond.isRef (.static Bundle.tN "UNASSIGNED_STACK" Bundle.steD) ∈ flatC (Jvm.Cond.and given_1 narrow_1) := by decide +kernel
theorem tk_flat_n : Cond.isRef (.static Bundle.tN "SUPPRESSED_SENTINEL" Bundle.listD) ∈ flatC (Jvm.Cond.and given_1 narrow_1) := by decide +kernel
theorem tk_tblstr : ∀ q ∈ tk_strs, Cond.stringRef RX6 q.1 q.2 ∈ lw_tbl := by
  intro q hq
  simp only [tk_strs, List.mem_cons, List.not_mem_nil, or_false] at hq
  rcases hq with rfl | rfl | rfl | rfl | rfl | rfl | rfl | rfl | rfl | rfl | rfl | rfl | rfl | rfl | rfl | rfl | rfl | rfl | rfl | rfl | rfl | rfl | rfl | rfl
  · exact tw_299
  · exact tw_335
  · exact tw_396
  · exact tw_397
  · exact tw_398
  · exact tw_455
  · exact tw_462
  · exact tw_492
  · exact tw_493
  · exact tw_508
  · exact tw_509
  · exact tw_519
  · exact tw_528
  · exact tw_529
  · exact tw_534
  · exact tw_535
  · exact tw_562
  · exact tw_648
  · exact tw_649
  · exact tw_663
  · exact tw_671
  · exact tw_672
  · exact tw_684
  · exact tw_713
theorem tk_arr {s : State} {args : Array Value} {ty : FieldType} (hne : ∀ C, ty ≠ .object C) (h : (Cond.arrayClass ty).before args s = true) : ∃ cA : ClassId, ArrOfT s cA ty ∧ va_RA s cA ty := by
  obtain ⟨cA, k, comp, h1, h2, h3⟩ := Cond.arrayClass_spec (args := args) (first := s) (o := none) (s := s) (idx := []) h
  refine ⟨cA, fun n z => ⟨fun k h => (by cases h), k, h2, comp, h3⟩, ?_⟩
  cases ty with
  | object C => exact absurd rfl (hne C)
  | _ => exact h1
theorem tk_start {p : Program} {s : State} {m : MethodId} {meth : Method} {c : Code} {b L : Nat} {xs : Nat → Int32} (C0 : lw_At p s m meth c b L xs) : ∃ (G : va_G) (c3 : ClassId × ClassId × ClassId), tk_E G c3 s ∧ tk_C s ∧ tk_Z (fun x : Nat => s.heap.size ≤ x) s s.heap := by
  obtain ⟨hx, hb, hr, hml, hown, hts, hX, hbl, hlocks, hgv⟩ := id C0
  have hs := flat_of_before _ hgv
  obtain ⟨c0, iS0, hKn0⟩ := u_known (C := RX0) (T := TX0) (N := 3) (n := 3) hts inX0 (hts _ tw_88)
  obtain ⟨c1, iS1, hKn1⟩ := u_known (C := RX1) (T := TX1) (N := 1) (n := 1) hts inX1 (hts _ tw_64)
  obtain ⟨c2, iS2, hKn2⟩ := u_known (C := RX2) (T := TX2) (N := 1) (n := 1) hts inX2 (hts _ tw_70)
  obtain ⟨c3, iS3, hKn3⟩ := u_known (C := RX3) (T := TX3) (N := 1) (n := 1) hts inX3 (hts _ tw_146)
  obtain ⟨c4, iS4, hKn4⟩ := u_known (C := RX4) (T := TX4) (N := 3) (n := 3) hts inX4 (hts _ tw_125)
  obtain ⟨c5, iS5, hKn5⟩ := u_known (C := RX5) (T := TX5) (N := 3) (n := 3) hts inX5 (hts _ tw_106)
  obtain ⟨c6, iS6, hKn6⟩ := u_known (C := RX6) (T := TX6) (N := 18) (n := 18) hts inX6 (hts _ tw_56)
  obtain ⟨c7, iS7, hKn7⟩ := u_known (C := RX7) (T := TX7) (N := 29) (n := 29) hts inX7 (hts _ tw_751)
  obtain ⟨dC, dI, hKc⟩ : ∃ (dC : Nat → ClassId) (dI : Nat → Nat → Nat), ∀ (k : Nat) (q : vw_C), vwCl[k]? = some q → u_Kn s q.1 q.2.1 q.2.2 (dC k) (dI k) := by
    refine ⟨fun k => if k = 0 then c0 else if k = 1 then c1 else if k = 2 then c2 else if k = 3 then c3 else if k = 4 then c4 else if k = 5 then c5 else if k = 6 then c6 else c7, fun k => if k = 0 then iS0 else if k = 1 then iS1 else if k = 2 then iS2 else if k = 3 then iS3 else if k = 4 then iS4 else if k = 5 then iS5 else if k = 6 then iS6 else iS7, ?_⟩
    intro k q hq
    match k, hq with
    | 0, hq => cases hq; exact hKn0
    | 1, hq => cases hq; exact hKn1
    | 2, hq => cases hq; exact hKn2
    | 3, hq => cases hq; exact hKn3
    | 4, hq => cases hq; exact hKn4
    | 5, hq => cases hq; exact hKn5
    | 6, hq => cases hq; exact hKn6
    | 7, hq => cases hq; exact hKn7
    | k + 8, hq => simp [vwCl] at hq
  obtain ⟨cI, hI⟩ := tk_arr (ty := .int) (fun _ h => nomatch h) (hts _ tw_82)
  obtain ⟨cJ, hJ⟩ := tk_arr (ty := .long) (fun _ h => nomatch h) (hts _ tw_156)
  obtain ⟨cZ, hZ⟩ := tk_arr (ty := .boolean) (fun _ h => nomatch h) (hts _ tw_844)
  refine ⟨(dC, dI), (cI, cJ, cZ), ⟨⟨hKc, fun k q h => ?_⟩, ⟨va_Nw.of rfl (hts _ tw_95), va_Nw.of rfl (hts _ tw_116), va_Nw.of rfl (hts _ tw_133), va_Nw.of rfl (hts _ tw_135), va_Nw.of rfl (hts _ tw_137), va_Nw.of rfl (hts _ tw_97), va_Nw.of rfl (hts _ tw_433), va_Nw.of rfl (hts _ tw_386), va_Nw.of rfl (hts _ tw_553), va_Nw.of rfl (hts _ tw_595), va_Nw.of rfl (hts _ tw_260), va_Nw.of rfl (hts _ tw_328), va_Nw.of rfl (hts _ tw_448), va_Nw.of rfl (hts _ tw_262), va_Nw.of rfl (hts _ tw_264), va_Nw.of rfl (hts _ tw_266)⟩, fun q hq => ?_⟩, ⟨va_Nc.of (hs _ tk_flat_c1), va_Nc.of (hs _ tk_flat_c2)⟩, vx_Zqof (hts _ tw_285) (hts _ tw_48) (hs _ tk_flat_u) (fun a h => Nat.not_le.mpr h), vx_Zqof (hts _ tw_287) (hts _ tw_48) (hs _ tk_flat_n) (fun a h => Nat.not_le.mpr h)⟩
  · match k, h with
    | 0, h => cases h; exact hI
    | 1, h => cases h; exact hJ
    | 2, h => cases h; exact hZ
    | k + 3, h => simp [tk_tys] at h
  · obtain ⟨a, c9, cA, kA, q1, -⟩ := Cond.exactly_spec (args := #[Value.ref b]) (first := s) (o := none) (s := s) (idx := []) (hs _ (tk_flat_str q hq))
    exact ⟨a, vk_R.of (hts _ (tk_tblstr q hq)) q1⟩
def tk_S0 : tk_ST := (fun k => ([-1, 0, -1, -1, -1, -1, -1, 0, 0, 0, 0, 0, -1, 0, 0, 0] : List Int32).getD k 0, fun _ => 0, fun _ _ => 0, fun _ _ => 0)
def tk_M0 : tk_ST := (fun k => ([0, 0, 0, 0, -1, 0, 0, -1, -1, -1, -1, -1, 0, 0, 0, 0, 0, 0, 0] : List Int32).getD k 0, fun _ => 0, fun _ _ => 0, fun _ _ => 0)
