section
-- ===== PART A: goes FIRST, ahead of the names: the tables' words, and 'selects' of the private methods out of them =====
/-- a private method of a class that the tables say can be made, by its rows of tables_1 -/
def lw_okq (q : MethodName × Nat) : Prop := (q.1.cls ≠ "java/lang/invoke/MethodHandle" ∧ q.1.cls ≠ "java/lang/invoke/VarHandle") ∧ Cond.instantiable q.1.cls q.2 ∈ tables_1 ∧ Cond.privateMethod q.1 ∈ tables_1 ∧ Cond.instanceMethod q.1 ∈ tables_1
theorem lw_p0 : lw_okq (⟨"java/lang/Throwable", "fillInStackTrace", "(I)Ljava/lang/Throwable;"⟩, 6) := ⟨⟨by decide +kernel, by decide +kernel⟩, List.mem_of_getElem? (i := 259) (by decide +kernel), List.mem_of_getElem? (i := 257) (by decide +kernel), List.mem_of_getElem? (i := 258) (by decide +kernel)⟩
theorem lw_p1 : lw_okq (⟨"TarockHall", "clearDeal", "()V"⟩, 18) := ⟨⟨by decide +kernel, by decide +kernel⟩, List.mem_of_getElem? (i := 18) (by decide +kernel), List.mem_of_getElem? (i := 308) (by decide +kernel), List.mem_of_getElem? (i := 309) (by decide +kernel)⟩
theorem lw_p2 : lw_okq (⟨"TarockHall$Deck", "swap", "(II)V"⟩, 1) := ⟨⟨by decide +kernel, by decide +kernel⟩, List.mem_of_getElem? (i := 26) (by decide +kernel), List.mem_of_getElem? (i := 333) (by decide +kernel), List.mem_of_getElem? (i := 334) (by decide +kernel)⟩
theorem lw_p3 : lw_okq (⟨"TarockHall", "handOut", "()V"⟩, 18) := ⟨⟨by decide +kernel, by decide +kernel⟩, List.mem_of_getElem? (i := 18) (by decide +kernel), List.mem_of_getElem? (i := 341) (by decide +kernel), List.mem_of_getElem? (i := 342) (by decide +kernel)⟩
theorem lw_p4 : lw_okq (⟨"TarockHall", "endDeal", "()V"⟩, 18) := ⟨⟨by decide +kernel, by decide +kernel⟩, List.mem_of_getElem? (i := 18) (by decide +kernel), List.mem_of_getElem? (i := 376) (by decide +kernel), List.mem_of_getElem? (i := 377) (by decide +kernel)⟩
theorem lw_p5 : lw_okq (⟨"TarockHall", "beginGame", "()V"⟩, 18) := ⟨⟨by decide +kernel, by decide +kernel⟩, List.mem_of_getElem? (i := 18) (by decide +kernel), List.mem_of_getElem? (i := 384) (by decide +kernel), List.mem_of_getElem? (i := 385) (by decide +kernel)⟩
theorem lw_p6 : lw_okq (⟨"TarockHall", "beginPlay", "()V"⟩, 18) := ⟨⟨by decide +kernel, by decide +kernel⟩, List.mem_of_getElem? (i := 18) (by decide +kernel), List.mem_of_getElem? (i := 388) (by decide +kernel), List.mem_of_getElem? (i := 389) (by decide +kernel)⟩
theorem lw_p7 : lw_okq (⟨"TarockHall$Bidding", "hasPassed", "(I)Z"⟩, 3) := ⟨⟨by decide +kernel, by decide +kernel⟩, List.mem_of_getElem? (i := 50) (by decide +kernel), List.mem_of_getElem? (i := 397) (by decide +kernel), List.mem_of_getElem? (i := 398) (by decide +kernel)⟩
theorem lw_p8 : lw_okq (⟨"TarockHall", "calledKing", "()I"⟩, 18) := ⟨⟨by decide +kernel, by decide +kernel⟩, List.mem_of_getElem? (i := 18) (by decide +kernel), List.mem_of_getElem? (i := 426) (by decide +kernel), List.mem_of_getElem? (i := 427) (by decide +kernel)⟩
theorem lw_p9 : lw_okq (⟨"TarockHall", "ownerOf", "(I)I"⟩, 18) := ⟨⟨by decide +kernel, by decide +kernel⟩, List.mem_of_getElem? (i := 18) (by decide +kernel), List.mem_of_getElem? (i := 430) (by decide +kernel), List.mem_of_getElem? (i := 431) (by decide +kernel)⟩
theorem lw_p10 : lw_okq (⟨"TarockHall", "groupsNow", "()I"⟩, 18) := ⟨⟨by decide +kernel, by decide +kernel⟩, List.mem_of_getElem? (i := 18) (by decide +kernel), List.mem_of_getElem? (i := 448) (by decide +kernel), List.mem_of_getElem? (i := 449) (by decide +kernel)⟩
theorem lw_p11 : lw_okq (⟨"TarockHall", "isAnnounced", "(I)Z"⟩, 18) := ⟨⟨by decide +kernel, by decide +kernel⟩, List.mem_of_getElem? (i := 18) (by decide +kernel), List.mem_of_getElem? (i := 493) (by decide +kernel), List.mem_of_getElem? (i := 494) (by decide +kernel)⟩
theorem lw_p12 : lw_okq (⟨"TarockHall", "playableNow", "()J"⟩, 18) := ⟨⟨by decide +kernel, by decide +kernel⟩, List.mem_of_getElem? (i := 18) (by decide +kernel), List.mem_of_getElem? (i := 507) (by decide +kernel), List.mem_of_getElem? (i := 508) (by decide +kernel)⟩
theorem lw_p13 : lw_okq (⟨"TarockHall", "addToTrick", "(I)I"⟩, 18) := ⟨⟨by decide +kernel, by decide +kernel⟩, List.mem_of_getElem? (i := 18) (by decide +kernel), List.mem_of_getElem? (i := 526) (by decide +kernel), List.mem_of_getElem? (i := 527) (by decide +kernel)⟩
theorem lw_p14 : lw_okq (⟨"TarockHall$Trick", "playerAt", "(I)I"⟩, 3) := ⟨⟨by decide +kernel, by decide +kernel⟩, List.mem_of_getElem? (i := 68) (by decide +kernel), List.mem_of_getElem? (i := 542) (by decide +kernel), List.mem_of_getElem? (i := 543) (by decide +kernel)⟩
theorem lw_p15 : lw_okq (⟨"TarockHall", "endTrick", "(I)V"⟩, 18) := ⟨⟨by decide +kernel, by decide +kernel⟩, List.mem_of_getElem? (i := 18) (by decide +kernel), List.mem_of_getElem? (i := 546) (by decide +kernel), List.mem_of_getElem? (i := 547) (by decide +kernel)⟩
def lw_privs_1 : List (MethodName × Nat) := [(⟨"java/lang/Throwable", "fillInStackTrace", "(I)Ljava/lang/Throwable;"⟩, 6), (⟨"TarockHall", "clearDeal", "()V"⟩, 18), (⟨"TarockHall$Deck", "swap", "(II)V"⟩, 1), (⟨"TarockHall", "handOut", "()V"⟩, 18), (⟨"TarockHall", "endDeal", "()V"⟩, 18), (⟨"TarockHall", "beginGame", "()V"⟩, 18), (⟨"TarockHall", "beginPlay", "()V"⟩, 18), (⟨"TarockHall$Bidding", "hasPassed", "(I)Z"⟩, 3), (⟨"TarockHall", "calledKing", "()I"⟩, 18), (⟨"TarockHall", "ownerOf", "(I)I"⟩, 18), (⟨"TarockHall", "groupsNow", "()I"⟩, 18), (⟨"TarockHall", "isAnnounced", "(I)Z"⟩, 18), (⟨"TarockHall", "playableNow", "()J"⟩, 18), (⟨"TarockHall", "addToTrick", "(I)I"⟩, 18), (⟨"TarockHall$Trick", "playerAt", "(I)I"⟩, 3), (⟨"TarockHall", "endTrick", "(I)V"⟩, 18)]
theorem lw_r1 : ∀ q ∈ lw_privs_1, lw_okq q := List.forall_mem_cons.mpr ⟨lw_p0, List.forall_mem_cons.mpr ⟨lw_p1, List.forall_mem_cons.mpr ⟨lw_p2, List.forall_mem_cons.mpr ⟨lw_p3, List.forall_mem_cons.mpr ⟨lw_p4, List.forall_mem_cons.mpr ⟨lw_p5, List.forall_mem_cons.mpr ⟨lw_p6, List.forall_mem_cons.mpr ⟨lw_p7, List.forall_mem_cons.mpr ⟨lw_p8, List.forall_mem_cons.mpr ⟨lw_p9, List.forall_mem_cons.mpr ⟨lw_p10, List.forall_mem_cons.mpr ⟨lw_p11, List.forall_mem_cons.mpr ⟨lw_p12, List.forall_mem_cons.mpr ⟨lw_p13, List.forall_mem_cons.mpr ⟨lw_p14, List.forall_mem_cons.mpr ⟨lw_p15, fun _ h => absurd h List.not_mem_nil⟩⟩⟩⟩⟩⟩⟩⟩⟩⟩⟩⟩⟩⟩⟩⟩
theorem lw_p16 : lw_okq (⟨"TarockHall", "sideOf", "(I)I"⟩, 18) := ⟨⟨by decide +kernel, by decide +kernel⟩, List.mem_of_getElem? (i := 18) (by decide +kernel), List.mem_of_getElem? (i := 550) (by decide +kernel), List.mem_of_getElem? (i := 551) (by decide +kernel)⟩
theorem lw_p17 : lw_okq (⟨"TarockHall", "enterResult", "(I)V"⟩, 18) := ⟨⟨by decide +kernel, by decide +kernel⟩, List.mem_of_getElem? (i := 18) (by decide +kernel), List.mem_of_getElem? (i := 559) (by decide +kernel), List.mem_of_getElem? (i := 560) (by decide +kernel)⟩
theorem lw_p18 : lw_okq (⟨"TarockHall", "pagatPoints", "(I)I"⟩, 18) := ⟨⟨by decide +kernel, by decide +kernel⟩, List.mem_of_getElem? (i := 18) (by decide +kernel), List.mem_of_getElem? (i := 578) (by decide +kernel), List.mem_of_getElem? (i := 579) (by decide +kernel)⟩
theorem lw_p19 : lw_okq (⟨"TarockHall", "kingPoints", "(I)I"⟩, 18) := ⟨⟨by decide +kernel, by decide +kernel⟩, List.mem_of_getElem? (i := 18) (by decide +kernel), List.mem_of_getElem? (i := 586) (by decide +kernel), List.mem_of_getElem? (i := 587) (by decide +kernel)⟩
theorem lw_p20 : lw_okq (⟨"TarockHall$Sheet", "addScore", "(I)V"⟩, 3) := ⟨⟨by decide +kernel, by decide +kernel⟩, List.mem_of_getElem? (i := 87) (by decide +kernel), List.mem_of_getElem? (i := 596) (by decide +kernel), List.mem_of_getElem? (i := 597) (by decide +kernel)⟩
theorem lw_p21 : lw_okq (⟨"TarockHall", "sidesAreOpen", "()Z"⟩, 18) := ⟨⟨by decide +kernel, by decide +kernel⟩, List.mem_of_getElem? (i := 18) (by decide +kernel), List.mem_of_getElem? (i := 709) (by decide +kernel), List.mem_of_getElem? (i := 710) (by decide +kernel)⟩
theorem lw_p22 : lw_okq (⟨"TarockHallModel", "isFine", "(I)Z"⟩, 29) := ⟨⟨by decide +kernel, by decide +kernel⟩, List.mem_of_getElem? (i := 713) (by decide +kernel), List.mem_of_getElem? (i := 820) (by decide +kernel), List.mem_of_getElem? (i := 821) (by decide +kernel)⟩
theorem lw_p23 : lw_okq (⟨"TarockHallModel", "declares", "()V"⟩, 29) := ⟨⟨by decide +kernel, by decide +kernel⟩, List.mem_of_getElem? (i := 713) (by decide +kernel), List.mem_of_getElem? (i := 832) (by decide +kernel), List.mem_of_getElem? (i := 833) (by decide +kernel)⟩
theorem lw_p24 : lw_okq (⟨"TarockHallModel", "talon", "(I)I"⟩, 29) := ⟨⟨by decide +kernel, by decide +kernel⟩, List.mem_of_getElem? (i := 713) (by decide +kernel), List.mem_of_getElem? (i := 836) (by decide +kernel), List.mem_of_getElem? (i := 837) (by decide +kernel)⟩
theorem lw_p25 : lw_okq (⟨"TarockHallModel", "begins", "()V"⟩, 29) := ⟨⟨by decide +kernel, by decide +kernel⟩, List.mem_of_getElem? (i := 713) (by decide +kernel), List.mem_of_getElem? (i := 840) (by decide +kernel), List.mem_of_getElem? (i := 841) (by decide +kernel)⟩
theorem lw_p26 : lw_okq (⟨"TarockHallModel", "king", "()I"⟩, 29) := ⟨⟨by decide +kernel, by decide +kernel⟩, List.mem_of_getElem? (i := 713) (by decide +kernel), List.mem_of_getElem? (i := 848) (by decide +kernel), List.mem_of_getElem? (i := 849) (by decide +kernel)⟩
theorem lw_p27 : lw_okq (⟨"TarockHallModel", "isPlayable", "(I)Z"⟩, 29) := ⟨⟨by decide +kernel, by decide +kernel⟩, List.mem_of_getElem? (i := 713) (by decide +kernel), List.mem_of_getElem? (i := 877) (by decide +kernel), List.mem_of_getElem? (i := 878) (by decide +kernel)⟩
theorem lw_p28 : lw_okq (⟨"TarockHallModel", "plays", "(I)I"⟩, 29) := ⟨⟨by decide +kernel, by decide +kernel⟩, List.mem_of_getElem? (i := 713) (by decide +kernel), List.mem_of_getElem? (i := 887) (by decide +kernel), List.mem_of_getElem? (i := 888) (by decide +kernel)⟩
theorem lw_p29 : lw_okq (⟨"TarockHallModel", "best", "()I"⟩, 29) := ⟨⟨by decide +kernel, by decide +kernel⟩, List.mem_of_getElem? (i := 713) (by decide +kernel), List.mem_of_getElem? (i := 891) (by decide +kernel), List.mem_of_getElem? (i := 892) (by decide +kernel)⟩
theorem lw_p30 : lw_okq (⟨"TarockHallModel", "pagatCount", "()I"⟩, 29) := ⟨⟨by decide +kernel, by decide +kernel⟩, List.mem_of_getElem? (i := 713) (by decide +kernel), List.mem_of_getElem? (i := 895) (by decide +kernel), List.mem_of_getElem? (i := 896) (by decide +kernel)⟩
theorem lw_p31 : lw_okq (⟨"TarockHallModel", "placeOf", "(I)I"⟩, 29) := ⟨⟨by decide +kernel, by decide +kernel⟩, List.mem_of_getElem? (i := 713) (by decide +kernel), List.mem_of_getElem? (i := 899) (by decide +kernel), List.mem_of_getElem? (i := 900) (by decide +kernel)⟩
def lw_privs_2 : List (MethodName × Nat) := [(⟨"TarockHall", "sideOf", "(I)I"⟩, 18), (⟨"TarockHall", "enterResult", "(I)V"⟩, 18), (⟨"TarockHall", "pagatPoints", "(I)I"⟩, 18), (⟨"TarockHall", "kingPoints", "(I)I"⟩, 18), (⟨"TarockHall$Sheet", "addScore", "(I)V"⟩, 3), (⟨"TarockHall", "sidesAreOpen", "()Z"⟩, 18), (⟨"TarockHallModel", "isFine", "(I)Z"⟩, 29), (⟨"TarockHallModel", "declares", "()V"⟩, 29), (⟨"TarockHallModel", "talon", "(I)I"⟩, 29), (⟨"TarockHallModel", "begins", "()V"⟩, 29), (⟨"TarockHallModel", "king", "()I"⟩, 29), (⟨"TarockHallModel", "isPlayable", "(I)Z"⟩, 29), (⟨"TarockHallModel", "plays", "(I)I"⟩, 29), (⟨"TarockHallModel", "best", "()I"⟩, 29), (⟨"TarockHallModel", "pagatCount", "()I"⟩, 29), (⟨"TarockHallModel", "placeOf", "(I)I"⟩, 29)]
theorem lw_r2 : ∀ q ∈ lw_privs_2, lw_okq q := List.forall_mem_cons.mpr ⟨lw_p16, List.forall_mem_cons.mpr ⟨lw_p17, List.forall_mem_cons.mpr ⟨lw_p18, List.forall_mem_cons.mpr ⟨lw_p19, List.forall_mem_cons.mpr ⟨lw_p20, List.forall_mem_cons.mpr ⟨lw_p21, List.forall_mem_cons.mpr ⟨lw_p22, List.forall_mem_cons.mpr ⟨lw_p23, List.forall_mem_cons.mpr ⟨lw_p24, List.forall_mem_cons.mpr ⟨lw_p25, List.forall_mem_cons.mpr ⟨lw_p26, List.forall_mem_cons.mpr ⟨lw_p27, List.forall_mem_cons.mpr ⟨lw_p28, List.forall_mem_cons.mpr ⟨lw_p29, List.forall_mem_cons.mpr ⟨lw_p30, List.forall_mem_cons.mpr ⟨lw_p31, fun _ h => absurd h List.not_mem_nil⟩⟩⟩⟩⟩⟩⟩⟩⟩⟩⟩⟩⟩⟩⟩⟩
theorem lw_p32 : lw_okq (⟨"TarockHallModel", "sideOf", "(I)I"⟩, 29) := ⟨⟨by decide +kernel, by decide +kernel⟩, List.mem_of_getElem? (i := 713) (by decide +kernel), List.mem_of_getElem? (i := 903) (by decide +kernel), List.mem_of_getElem? (i := 904) (by decide +kernel)⟩
theorem lw_p33 : lw_okq (⟨"TarockHallModel", "kingCount", "()I"⟩, 29) := ⟨⟨by decide +kernel, by decide +kernel⟩, List.mem_of_getElem? (i := 713) (by decide +kernel), List.mem_of_getElem? (i := 907) (by decide +kernel), List.mem_of_getElem? (i := 908) (by decide +kernel)⟩
theorem lw_p34 : lw_okq (⟨"TarockHallModel", "scores", "(I)V"⟩, 29) := ⟨⟨by decide +kernel, by decide +kernel⟩, List.mem_of_getElem? (i := 713) (by decide +kernel), List.mem_of_getElem? (i := 911) (by decide +kernel), List.mem_of_getElem? (i := 912) (by decide +kernel)⟩
theorem lw_p35 : lw_okq (⟨"TarockHallModel", "counted", "(I)I"⟩, 29) := ⟨⟨by decide +kernel, by decide +kernel⟩, List.mem_of_getElem? (i := 713) (by decide +kernel), List.mem_of_getElem? (i := 915) (by decide +kernel), List.mem_of_getElem? (i := 916) (by decide +kernel)⟩
theorem lw_p36 : lw_okq (⟨"TarockHallModel", "cardsOf", "(I)J"⟩, 29) := ⟨⟨by decide +kernel, by decide +kernel⟩, List.mem_of_getElem? (i := 713) (by decide +kernel), List.mem_of_getElem? (i := 919) (by decide +kernel), List.mem_of_getElem? (i := 920) (by decide +kernel)⟩
theorem lw_p37 : lw_okq (⟨"TarockHallModel", "gameCount", "(I)I"⟩, 29) := ⟨⟨by decide +kernel, by decide +kernel⟩, List.mem_of_getElem? (i := 713) (by decide +kernel), List.mem_of_getElem? (i := 923) (by decide +kernel), List.mem_of_getElem? (i := 924) (by decide +kernel)⟩
def lw_privs_3 : List (MethodName × Nat) := [(⟨"TarockHallModel", "sideOf", "(I)I"⟩, 29), (⟨"TarockHallModel", "kingCount", "()I"⟩, 29), (⟨"TarockHallModel", "scores", "(I)V"⟩, 29), (⟨"TarockHallModel", "counted", "(I)I"⟩, 29), (⟨"TarockHallModel", "cardsOf", "(I)J"⟩, 29), (⟨"TarockHallModel", "gameCount", "(I)I"⟩, 29)]
theorem lw_r3 : ∀ q ∈ lw_privs_3, lw_okq q := List.forall_mem_cons.mpr ⟨lw_p32, List.forall_mem_cons.mpr ⟨lw_p33, List.forall_mem_cons.mpr ⟨lw_p34, List.forall_mem_cons.mpr ⟨lw_p35, List.forall_mem_cons.mpr ⟨lw_p36, List.forall_mem_cons.mpr ⟨lw_p37, fun _ h => absurd h List.not_mem_nil⟩⟩⟩⟩⟩⟩
def lw_privs : List (MethodName × Nat) := lw_privs_1 ++ (lw_privs_2 ++ (lw_privs_3))
def lw_tbl : List Cond := k2_sels lw_privs ++ tables_1
theorem lw_privs_ok : ∀ q ∈ lw_privs, lw_okq q := by
  show ∀ q ∈ lw_privs_1 ++ (lw_privs_2 ++ (lw_privs_3)), lw_okq q
  exact List.forall_mem_append.mpr ⟨lw_r1, List.forall_mem_append.mpr ⟨lw_r2, lw_r3⟩⟩
-- ===== end of PART A; then your names; then what follows =====
/-! ===== BEGIN words of one list among another's, by their places ===== -/
theorem goodIn_r {big : List Cond} (ws : List Cond) (ps : List Nat) (hp : ws = ps.filterMap (fun i => big[i]?)) (h : ws.all goodWord = true) : GoodIn big ws := by
  intro w hw
  have h1 := List.all_eq_true.mp h w hw
  rw [hp] at hw
  obtain ⟨i, -, hi⟩ := List.mem_filterMap.mp hw
  have hm : w ∈ big := by first | exact List.mem_of_getElem? hi | exact List.getElem?_mem hi
  exact ⟨hm, good_of_word h1⟩
theorem goodIn_app {big a b : List Cond} (ha : GoodIn big a) (hb : GoodIn big b) : GoodIn big (a ++ b) := fun w h => (List.mem_append.mp h).elim (ha w) (hb w)
theorem goodIn_ca {big a b : List Cond} {c : Cond} (ha : GoodIn big (c :: a)) (hb : GoodIn big b) : GoodIn big (c :: (a ++ b)) := fun w h => (List.mem_cons.mp h).elim (fun e => ha w (List.mem_cons.mpr (Or.inl e))) (fun h => (List.mem_append.mp h).elim (fun h => ha w (List.mem_cons.mpr (Or.inr h))) (hb w))
theorem goodIn_sub {big ws : List Cond} (hm : ∀ w ∈ ws, w ∈ big) (h : ws.all goodWord = true) : GoodIn big ws := fun w hw => ⟨hm w hw, good_of_word (List.all_eq_true.mp h w hw)⟩
/-! ===== END ===== -/

/-! ===== BEGIN exceptions that leave a method, and their catching by the caller (launches without stack traces) ===== -/
section VXA
/-! The laws vx_back, vx_callV, vx_callS, vx_callSW, vx_throw0, vx_throwS follow proofs of the library, with one case more: JvmDerived/Free/Laws.lean (Back.of_free), Shelf42/LK1.lean (callV, callS), Shelf/KitTraced.lean (throwNew0V, throwNewS). -/
/-- where a method has thrown q: the class by its name, the cell, what was written, the world -/
def vx_T (XC : String → State → State → Prop) (st : State) (q : Addr) (t : State) (mc ms : Nat) (free : Addr → Prop) : Prop :=
  ∃ (E : String) (ce : Cell) (L : List Loc), XC E st t ∧ t.heap[q]? = some ce ∧ ce.vm = .none ∧ st.vm.findClass E = some ce.cls ∧ st.WarmedH t.vm ∧ st.sameButNew ({ t with vm := st.vm } : State) L mc ms ∧ ∀ z ∈ L, free z.base
def vx_Q (Qc : Array Value → State → Outcome → State → Prop) (XC : String → State → State → Prop) (mc ms : Nat) (free : Addr → Prop) : Array Value → State → Outcome → State → Prop := fun a st o t =>
  (Qc a st o t ∧ ∃ L, FrameEnd st o t L mc ms ∧ ∀ q ∈ L, free q.base) ∨ ∃ q, o = .threw q ∧ vx_T XC st q t mc ms free
/-- a callee that returns or throws -/
def vx_Met (l : Launch) (y : MethodName) (ws : List Cond) (rm : Room) (Pc : Array Value → State → Prop) (Qc : Array Value → State → Outcome → State → Prop) (XC : String → State → State → Prop) (mc ms : Nat) (free : Addr → Prop) : Prop :=
  MetFree l y (headSpec ws rm) Pc (fun _ _ _ _ _ => True) (vx_Q Qc XC mc ms free)
def vx_Post (XC : String → State → State → Prop) (mc ms : Nat) (free : Addr → Prop) : Pt → Array Value → Addr → Pt → Prop := fun A a q B =>
  ∃ (g : JFrame) (mk : MethodId) (t : State) (L : List Loc) (E : String) (ce : Cell), B.U.heap = t.heap ∧ B.U.vm = t.vm ∧ XC E (A.U.calling g mk a) t ∧ t.heap[q]? = some ce ∧ ce.vm = .none ∧ A.U.vm.findClass E = some ce.cls ∧ B.locs = A.locs ++ L ∧ (∀ z ∈ L, free z.base) ∧ B.cells = A.cells + mc ∧ B.slots = A.slots + ms
def vx_Back (l : Launch) (R : Room) (p : Program) (e : Env) (below : List Frame) (s : State) (sargs : Array Value) (y : MethodName) (len W9 : Nat)
    (Pre : Pt → Array Value → Prop) (Post : Pt → Array Value → Option Value → Pt → Prop) (PostX : Pt → Array Value → Addr → Pt → Prop) : Prop :=
  ∀ (m : MethodId) (meth : Method) (c : Code) (A : Pt) (g : JFrame) (ig : Instr) (mk : MethodId) (a : Array Value),
    Stand p l e R s m sargs below meth c A.U A.locs A.cells A.slots → g.method = m → g.locals.size = c.maxLocals → decode c.code g.pc = .ok (ig, len) →
    2 * g.monitorRoom + (g.stack.map fun v => v.category).sum ≤ W9 → A.U.methodNamed? y = some mk → Pre A a →
    (∃ (v : Option Value) (B : Pt), Stand p l e R s m sargs below meth c B.U B.locs B.cells B.slots ∧ Post A a v B ∧
      Steps p.tables e below (doInvoke e (A.U.setTop g) [] mk a).1 (B.U.setTop { g with pc := g.pc + len, stack := v.toList ++ g.stack })) ∨
    (∃ (q : Addr) (B : Pt), Stand p l e R s m sargs below meth c B.U B.locs B.cells B.slots ∧ PostX A a q B ∧
      Steps p.tables e below (doInvoke e (A.U.setTop g) [] mk a).1 ((B.U.setTop g).pushFrame (.throwing q)))
section Payer
variable {l : Launch} {R : Room} {p : Program} {e : Env} {below : List Frame} {s : State} {sargs : Array Value} {y : MethodName} {len W9 : Nat}
theorem vx_back {ws : List Cond} {rm : Room} {Pc : Array Value → State → Prop} {Qc : Array Value → State → Outcome → State → Prop} {XC : String → State → State → Prop} {mc ms : Nat} {free : Addr → Prop} {bytes : ByteArray} {maxL : Nat} {ret : Option FieldType}
    (hM : vx_Met l y ws rm Pc Qc XC mc ms free) (hblind : FrameBlind Pc) (hrc : rm.cells = mc) (hrs : rm.slots = ms)
    (hframes : rm.frames + 1 ≤ R.frames) (hlocals : W9 + (maxL + 11) + rm.locals ≤ R.locals)
    (hws : ∀ w ∈ ws, ∀ a' U, s.WarmedH U.vm → w.before a' U = true) (hcode : Cond.code y bytes maxL ret ∈ ws) (hinit : ∀ a' U, s.WarmedH U.vm → (Cond.initialized y.cls).before a' U = true) :
    vx_Back l R p e below s sargs y len W9 (PreOf R mc ms Pc) (PostOf Qc mc ms free) (vx_Post XC mc ms free) := by
  intro m meth c A g ig mk a X hg hsize hdg hW hn hp
  have h1 : (headSpec ws rm).pre.before a A.U = true := atoms_intro fun w hw => hws w hw _ _ X.warmed
  have h2 : (Cond.code y bytes maxL ret).before a A.U = true := hws _ hcode _ _ X.warmed
  have h3 : (Cond.initialized y.cls).before a A.U = true := hinit _ _ X.warmed
  have h4 : A.cells + (headSpec ws rm).room.cells ≤ R.cells := by rw [show (headSpec ws rm).room.cells = mc from hrc]; exact hp.1
  have h5 : A.slots + (headSpec ws rm).room.slots ≤ R.slots := by rw [show (headSpec ws rm).room.slots = ms from hrs]; exact hp.2.1
  have hPc : Pc a (A.U.calling g mk a) := hblind _ _ _ _ hp.2.2
  obtain ⟨U, Ls, c0, s0⟩ := A
  dsimp only [Pt.U, Pt.locs, Pt.cells, Pt.slots] at h1 h2 h3 h4 h5 X hn hPc ⊢
  obtain ⟨methY, cY, hmY, hcY, -, hlY, -, -, -, -⟩ := Cond.code_spec hn h2
  obtain ⟨kY, hkY, -⟩ := className_of_methodNamed hn
  have hinitY : kY.init = .initialized := Cond.initialized_spec (findClass_of_methodNamed hn) hkY h3
  have h : At U g.method c below := by rw [hg]; exact X.here
  have hlocals9 : W9 + (maxL + 11) + (headSpec ws rm).room.locals ≤ R.locals := hlocals
  have happ : (headSpec ws rm).appliesLoose y e.platform (U.calling g mk a) = true :=
    Spec.appliesLoose_calling (g := g) h hdg hn hkY hinitY
      (X.room_calling (g := g) (R' := (headSpec ws rm).room) hsize hmY hcY hframes (by rw [hlY]; omega) h4 h5) h1
  obtain ⟨mid, hmid⟩ := h.above
  have hfr : (U.setTop g).frames = (.java g :: mid) ++ below := by rw [State.frames_setTop' g h.top, hmid]; rfl
  obtain ⟨o, s₂, hsteps, -, hend, hq⟩ := Steps.callFree hM p X.admits X.cas X.clock (acts := []) hfr happ hPc trivial
  have hq' : vx_Q Qc XC mc ms free a (U.calling g mk a) o s₂ := hq
  rw [State.frames_setTop' g h.top] at hend
  obtain ⟨g₀, hg0⟩ := Option.isSome_iff_exists.mp h.top
  obtain ⟨r, hr⟩ := State.topJava?_eq_some.mp hg0
  have hr' : (({ U with heap := s₂.heap, slotsUsed := s₂.slotsUsed } : State).setVm s₂.vm).frames = .java g₀ :: r := hr
  rcases hq' with ⟨hqc, L, hfe, hL⟩ | ⟨q, rfl, E, ce, L, hx, hce, hcv, hcl, hW₂, hsm, hL⟩
  · obtain ⟨⟨v, rfl⟩, hW₂, e2, q2, q3, q4, q5, q6⟩ := id hfe
    have e3 : s₂ = ({ (U.calling g mk a).setFrames s₂.frames with heap := s₂.heap, slotsUsed := s₂.slotsUsed } : State).setVm s₂.vm := by
      have : s₂ = ({ s₂ with vm := (U.calling g mk a).vm } : State).setVm s₂.vm := rfl
      rw [e2] at this
      exact this
    obtain ⟨c₂, i₂, len₂, hc₂, hd₂, hf₂⟩ := hend
    have hW' : U.WarmedH s₂.vm := hW₂
    have hcc : c₂ = c := by
      have h1 : s₂.code? g.method = U.code? g.method := by
        rw [State.code?_eq, State.code?_eq, hW'.alike.method?]
      exact Option.some.inj (hc₂.symm.trans (h1.trans h.code))
    subst hcc
    have hlen : len₂ = len := by rw [hdg] at hd₂; cases hd₂; rfl
    subst hlen
    have hs₂ : s₂ = (({ U with heap := s₂.heap, slotsUsed := s₂.slotsUsed } : State).setVm s₂.vm).setTop { g with pc := g.pc + len₂, stack := v.toList ++ g.stack } := by
      refine e3.trans ?_
      rw [hf₂, State.calling_eq h.top, State.setFrames_setFrames, State.setTop_of_frames _ hr', hr]
      rfl
    have hsame : U.sameButNew ({ U with heap := s₂.heap, slotsUsed := s₂.slotsUsed } : State) L mc ms := by
      refine ⟨?_, q2, q3, q4, q5, q6⟩
      obtain ⟨t, ht, -⟩ := State.frames_cons hr
      show ({ U with heap := s₂.heap, slotsUsed := s₂.slotsUsed } : State) = { U.setFrames U.frames with heap := s₂.heap, slotsUsed := s₂.slotsUsed }
      rw [State.setFrames_self ht]
    subst hg
    refine Or.inl ⟨v, ⟨(({ U with heap := s₂.heap, slotsUsed := s₂.slotsUsed } : State).setVm s₂.vm), Ls ++ L, c0 + mc, s0 + ms⟩,
      ⟨X.admits, X.cas, X.clock, X.frames, X.room, X.hears, X.method, X.code, (X.here.setHeapUsed s₂.heap s₂.slotsUsed).setVm hW'.alike, X.tail, State.WarmedH.trans X.warmed hW', X.limits, X.bytes, X.same.trans (hsame.setVm s.vm)⟩,
      ⟨g, mk, s₂, L, rfl, rfl, hqc, rfl, hL, rfl, rfl⟩, ?_⟩
    show Steps p.tables e below _ ((({ U with heap := s₂.heap, slotsUsed := s₂.slotsUsed } : State).setVm s₂.vm).setTop { g with pc := g.pc + len₂, stack := v.toList ++ g.stack })
    rw [← hs₂]
    exact hsteps
  · obtain ⟨e2, q2, q3, q4, q5, q6⟩ := id hsm
    have e3 : s₂ = ({ (U.calling g mk a).setFrames s₂.frames with heap := s₂.heap, slotsUsed := s₂.slotsUsed } : State).setVm s₂.vm := by
      have : s₂ = ({ s₂ with vm := (U.calling g mk a).vm } : State).setVm s₂.vm := rfl
      rw [e2] at this
      exact this
    have hf₂ : s₂.frames = .throwing q :: .java g :: U.frames.tail := hend
    have hW' : U.WarmedH s₂.vm := hW₂
    have hs₂ : s₂ = ((({ U with heap := s₂.heap, slotsUsed := s₂.slotsUsed } : State).setVm s₂.vm).setTop g).pushFrame (.throwing q) := by
      refine e3.trans ?_
      rw [hf₂, State.calling_eq h.top, State.setFrames_setFrames, State.pushFrame, State.frames_setTop _ hr', State.setTop_of_frames _ hr', State.setFrames_setFrames, hr]
      rfl
    have hsame : U.sameButNew ({ U with heap := s₂.heap, slotsUsed := s₂.slotsUsed } : State) L mc ms := by
      refine ⟨?_, q2, q3, q4, q5, q6⟩
      obtain ⟨t, ht, -⟩ := State.frames_cons hr
      show ({ U with heap := s₂.heap, slotsUsed := s₂.slotsUsed } : State) = { U.setFrames U.frames with heap := s₂.heap, slotsUsed := s₂.slotsUsed }
      rw [State.setFrames_self ht]
    subst hg
    refine Or.inr ⟨q, ⟨(({ U with heap := s₂.heap, slotsUsed := s₂.slotsUsed } : State).setVm s₂.vm), Ls ++ L, c0 + mc, s0 + ms⟩,
      ⟨X.admits, X.cas, X.clock, X.frames, X.room, X.hears, X.method, X.code, (X.here.setHeapUsed s₂.heap s₂.slotsUsed).setVm hW'.alike, X.tail, State.WarmedH.trans X.warmed hW', X.limits, X.bytes, X.same.trans (hsame.setVm s.vm)⟩,
      ⟨g, mk, s₂, L, E, ce, rfl, rfl, hx, hce, hcv, hcl, rfl, hL, rfl, rfl⟩, ?_⟩
    show Steps p.tables e below _ (((({ U with heap := s₂.heap, slotsUsed := s₂.slotsUsed } : State).setVm s₂.vm).setTop g).pushFrame (.throwing q))
    rw [← hs₂]
    exact hsteps
end Payer
section Calls
variable {p : Program} {l : Launch} {e : Env} {R : Room} {s : State} {m : MethodId} {args : Array Value} {below : List Frame} {meth : Method} {c : Code} {T : State} {locs : List Loc} {cells slots : Nat}
theorem vx_callV (X : Stand p l e R s m args below meth c T locs cells slots) (hexec : p.tables.exec = Jvm.exec) {own C : String} {index : Nat} {y : MethodName} {bytes : ByteArray} {maxL : Nat} {ret : Option FieldType}
    (hown : s.vm.findClass own = some m.cls) (hlink : (Cond.methodLink own index y).before args s = true) (hinst : (Cond.instanceMethod y).before args s = true) (hsel : (Cond.selects C y y).before args s = true)
    (hcode : (Cond.code y bytes maxL ret).before args s = true) (hy : y.cls ≠ "java/lang/invoke/MethodHandle" ∧ y.cls ≠ "java/lang/invoke/VarHandle")
    {W9 : Nat} {Pre : Pt → Array Value → Prop} {Post : Pt → Array Value → Option Value → Pt → Prop} {PostX : Pt → Array Value → Addr → Pt → Prop} (hK : vx_Back l R p e below s args y 3 W9 Pre Post PostX)
    {b : Addr} {cellB : Cell} (hcell : T.heap[b]? = some cellB) (hobj : cellB.vm.isStatics = false) (hcls : s.vm.findClass C = some cellB.cls)
    {g : JFrame} (hg : g.method = m) (hsize : g.locals.size = c.maxLocals) {argsL rest : List Value} (hlen : ∀ sig, parseMethodDescriptor y.desc = some sig → argsL.length = sig.parameters.length)
    (hstack : g.stack = argsL.reverse ++ .ref b :: rest) (hW : 2 * g.monitorRoom + (rest.map fun v => v.category).sum ≤ W9) (hdg : decode c.code g.pc = .ok (.invokevirtual index, 3))
    (hpre : ∀ vm₁, s.WarmedH vm₁ → Pre ⟨T.setVm vm₁, locs, cells, slots⟩ (Value.ref b :: argsL).toArray) :
    (∃ (v : Option Value) (vm₁ : Vm) (B : Pt), s.WarmedH vm₁ ∧ Stand p l e R s m args below meth c B.U B.locs B.cells B.slots ∧ Post ⟨T.setVm vm₁, locs, cells, slots⟩ (Value.ref b :: argsL).toArray v B ∧
      ∀ target, Steps p.tables e below (B.U.setTop { g with pc := g.pc + 3, stack := v.toList ++ rest }) target → Steps p.tables e below (T.setTop g) target) ∨
    (∃ (q : Addr) (vm₁ : Vm) (B : Pt), s.WarmedH vm₁ ∧ Stand p l e R s m args below meth c B.U B.locs B.cells B.slots ∧ PostX ⟨T.setVm vm₁, locs, cells, slots⟩ (Value.ref b :: argsL).toArray q B ∧
      Steps p.tables e below (T.setTop g) ((B.U.setTop { g with stack := rest }).pushFrame (.throwing q))) := by
  obtain ⟨mk, methM, hnamed, hmethM, hstM, habM⟩ := Cond.instanceMethod_spec hinst
  obtain ⟨methM', cM, hmethM', -, -, -, -, -, -, hsigM⟩ := Cond.code_spec hnamed hcode
  cases hmethM.symm.trans hmethM'
  obtain ⟨c2, r2, m2, q1, q2, q3, q4, kP, hkP, hkPi⟩ := Cond.selects_spec hsel
  cases hcls.symm.trans q1
  cases (State.methodFound?_of_named hnamed hy).symm.trans q2
  cases hnamed.symm.trans q3
  have hselP : selectMethod e.platform s.vm cellB.cls mk = .method mk := by rw [Launch.admits_selectMethod X.admits]; exact q4
  obtain ⟨vm₁, X₁, hstep₁⟩ := X.invokevirtual hexec hown hlink hnamed hmethM hstM hkP hkPi hy (a := b) (cell := cellB) hcell
    (fun z h => by rw [h] at hobj; cases hobj) hselP hmethM habM hkP hkPi (g := g) hg (argsL := argsL) (rest := rest) (hlen _ hsigM) hstack hdg
  rcases hK m meth c ⟨T.setVm vm₁, locs, cells, slots⟩ { g with stack := rest } (.invokevirtual index) mk (Value.ref b :: argsL).toArray X₁ hg hsize hdg hW (X₁.named hnamed) (hpre vm₁ X₁.warmed) with ⟨v, B, X', hpost, hsteps⟩ | ⟨q, B, X', hpost, hsteps⟩
  · exact Or.inl ⟨v, vm₁, B, X₁.warmed, X', hpost, fun target h => hstep₁ _ fun acts => by rw [doInvoke_state]; exact hsteps.trans h⟩
  · exact Or.inr ⟨q, vm₁, B, X₁.warmed, X', hpost, hstep₁ _ fun acts => by rw [doInvoke_state]; exact hsteps⟩
theorem vx_callS (X : Stand p l e R s m args below meth c T locs cells slots) (hexec : p.tables.exec = Jvm.exec) {own : String} {index : Nat} {y : MethodName} {bytes : ByteArray} {maxL : Nat} {ret : Option FieldType}
    (hown : s.vm.findClass own = some m.cls) (hlink : (Cond.methodLink own index y).before args s = true) (hstat : (Cond.static y).before args s = true) (hinit : (Cond.initialized y.cls).before args s = true)
    (hcode : (Cond.code y bytes maxL ret).before args s = true) (hy : y.cls ≠ "java/lang/invoke/MethodHandle" ∧ y.cls ≠ "java/lang/invoke/VarHandle")
    {W9 : Nat} {Pre : Pt → Array Value → Prop} {Post : Pt → Array Value → Option Value → Pt → Prop} {PostX : Pt → Array Value → Addr → Pt → Prop} (hK : vx_Back l R p e below s args y 3 W9 Pre Post PostX)
    {g : JFrame} (hg : g.method = m) (hsize : g.locals.size = c.maxLocals) {argsL rest : List Value} (hlen : ∀ sig, parseMethodDescriptor y.desc = some sig → argsL.length = sig.parameters.length)
    (hstack : g.stack = argsL.reverse ++ rest) (hW : 2 * g.monitorRoom + (rest.map fun v => v.category).sum ≤ W9) (hdg : decode c.code g.pc = .ok (.invokestatic index, 3))
    (hpre : ∀ vm₁, s.WarmedH vm₁ → Pre ⟨T.setVm vm₁, locs, cells, slots⟩ argsL.toArray) :
    (∃ (v : Option Value) (vm₁ : Vm) (B : Pt), s.WarmedH vm₁ ∧ Stand p l e R s m args below meth c B.U B.locs B.cells B.slots ∧ Post ⟨T.setVm vm₁, locs, cells, slots⟩ argsL.toArray v B ∧
      ∀ target, Steps p.tables e below (B.U.setTop { g with pc := g.pc + 3, stack := v.toList ++ rest }) target → Steps p.tables e below (T.setTop g) target) ∨
    (∃ (q : Addr) (vm₁ : Vm) (B : Pt), s.WarmedH vm₁ ∧ Stand p l e R s m args below meth c B.U B.locs B.cells B.slots ∧ PostX ⟨T.setVm vm₁, locs, cells, slots⟩ argsL.toArray q B ∧
      Steps p.tables e below (T.setTop g) ((B.U.setTop { g with stack := rest }).pushFrame (.throwing q))) := by
  obtain ⟨mk, hnamed⟩ := Cond.code_named hcode
  obtain ⟨methM, cM, hmethM, -, -, -, -, -, -, hsigM⟩ := Cond.code_spec hnamed hcode
  have hstatic : methM.isStatic = true := Cond.static_spec hnamed hmethM hstat
  obtain ⟨kP, hkP, -⟩ := className_of_methodNamed hnamed
  have hinitP : kP.init = .initialized := Cond.initialized_spec (findClass_of_methodNamed hnamed) hkP hinit
  obtain ⟨vm₁, X₁, hstep₁⟩ := X.invokestatic hexec hown hlink hnamed hmethM hstatic hkP hinitP hy (g := g) hg (argsL := argsL) (rest := rest) (hlen _ hsigM) hstack hdg
  rcases hK m meth c ⟨T.setVm vm₁, locs, cells, slots⟩ { g with stack := rest } (.invokestatic index) mk argsL.toArray X₁ hg hsize hdg hW (X₁.named hnamed) (hpre vm₁ X₁.warmed) with ⟨v, B, X', hpost, hsteps⟩ | ⟨q, B, X', hpost, hsteps⟩
  · exact Or.inl ⟨v, vm₁, B, X₁.warmed, X', hpost, fun target h => hstep₁ _ fun acts => by rw [doInvoke_state]; exact hsteps.trans h⟩
  · exact Or.inr ⟨q, vm₁, B, X₁.warmed, X', hpost, hstep₁ _ fun acts => by rw [doInvoke_state]; exact hsteps⟩
end Calls
theorem vx_cls {s : State} {T : State} {vm₁ : Vm} {E : String} {k : ClassId} (hW : s.WarmedH vm₁) (h : (T.setVm vm₁).vm.findClass E = some k) : s.vm.findClass E = some k := by
  have h1 : vm₁.findClass E = some k := h
  rw [hW.alike.findClass] at h1
  exact h1
/-- the method's frame g, with q thrown over it -/
def vx_W (p : Program) (l : Launch) (e : Env) (R : Room) (s : State) (m : MethodId) (args : Array Value) (below : List Frame) (meth : Method) (c : Code) (H : Heap) (locs : List Loc) (cells slots : Nat) (Q : State → Prop) (g : JFrame) (q : Addr) : Prop :=
  ∀ T : State, T.heap = H → Stand p l e R s m args below meth c T locs cells slots → ∃ t, Steps p.tables e below ((T.setTop g).pushFrame (.throwing q)) t ∧ Q t
def vx_Run (p : Program) (l : Launch) (e : Env) (R : Room) (s : State) (m : MethodId) (args : Array Value) (below : List Frame) (meth : Method) (c : Code) (H : Heap) (locs : List Loc) (cells slots mc ms : Nat) (g : JFrame) (rest : List Value) (Qa : State → Outcome → State → Prop) (XC : String → State → State → Prop) (free : Addr → Prop) : Prop :=
  ∀ T : State, T.heap = H → Stand p l e R s m args below meth c T locs cells slots →
    (∃ (v : Option Value) (st₀ t T' : State) (L : List Loc), st₀.heap = H ∧ Stand p l e R s m args below meth c T' (locs ++ L) (cells + mc) (slots + ms) ∧ (∀ q ∈ L, free q.base) ∧ T'.heap = t.heap ∧ T'.vm = t.vm ∧ Qa st₀ (.returned v) t ∧
      Goes p e below T g T' { g with pc := g.pc + 3, stack := v.toList ++ rest }) ∨
    (∃ (q : Addr) (st₀ t T' : State) (L : List Loc) (E : String) (ce : Cell), st₀.heap = H ∧ Stand p l e R s m args below meth c T' (locs ++ L) (cells + mc) (slots + ms) ∧ (∀ z ∈ L, free z.base) ∧ T'.heap = t.heap ∧ T'.vm = t.vm ∧ XC E st₀ t ∧ t.heap[q]? = some ce ∧ ce.vm = .none ∧ s.vm.findClass E = some ce.cls ∧
      Steps p.tables e below (T.setTop g) ((T'.setTop { g with stack := rest }).pushFrame (.throwing q)))
def vx_X {S : Type} (px : S → Prop) (B : String → S → State → Prop) (A : Nat → Prop) : String → State → State → Prop := fun E st t => ∃ u : S, px u ∧ B E u t ∧ va_F A st t
section Runs
variable {p : Program} {l : Launch} {e : Env} {R : Room} {s : State} {m : MethodId} {args : Array Value} {below : List Frame} {meth : Method} {c : Code} {H : Heap} {locs : List Loc} {cells slots : Nat}
variable {y : MethodName} {bytes cc : ByteArray} {maxL nL mc ms n index : Nat} {ret : Option FieldType} {ws : List Cond} {rm : Room} {Pc : Array Value → State → Prop} {Qc : Array Value → State → Outcome → State → Prop} {XC : String → State → State → Prop} {free : Addr → Prop} {Ts : List Cond} {own C : String} {b : Addr} {As rest : List Value} {g : JFrame}
theorem vx_callBack (cb : CallB R s args own index y bytes maxL ret ws rm mc ms n) (hM : vx_Met l y ws rm Pc Qc XC mc ms free) (hbl : FrameBlind Pc) : vx_Back l R p e below s args y 3 8 (PreOf R mc ms Pc) (PostOf Qc mc ms free) (vx_Post XC mc ms free) := by
  obtain ⟨hrc, hrs, hfr, hlo, hws, hcw, -, hini, -⟩ := cb
  exact vx_back (bytes := bytes) (maxL := maxL) (ret := ret) hM hbl hrc hrs hfr hlo hws hcw (fun a' U hW => word_at hW (Or.inl (by first | rfl | simp [Cond.onTables, Cond.keeps, Cond.steady])) hini)
theorem vx_runV (S : CallFix p m c cc nL s args Ts own) (hM : vx_Met l y ws rm Pc Qc XC mc ms free) (cw : CallW R s args own C index y bytes maxL ret ws rm mc ms n) (hp : PreV s H C b Pc As)
    (hg : g.method = m) (hn : As.length = n) (hsize : g.locals.size = nL) (hstack : g.stack = As.reverse ++ .ref b :: rest) (hW : 2 * g.monitorRoom + (rest.map fun v => v.category).sum ≤ 8) (hdg : decode cc g.pc = .ok (.invokevirtual index, 3)) (hf : cells + mc ≤ R.cells ∧ slots + ms ≤ R.slots) :
    vx_Run p l e R s m args below meth c H locs cells slots mc ms g rest (Qc (Value.ref b :: As).toArray) XC free := by
  have hK : vx_Back l R p e below s args y 3 8 (PreOf R mc ms Pc) (PostOf Qc mc ms free) (vx_Post XC mc ms free) := vx_callBack cw.1 hM hp.1
  obtain ⟨⟨-, -, -, -, -, -, hcode, -, hy, hlen, hl⟩, hin, hse⟩ := cw
  obtain ⟨hx, hb, hml, ho, -⟩ := S
  obtain ⟨-, ⟨cellB, hcB, hoB, hclB⟩, hPc⟩ := hp
  intro T hT X
  rcases vx_callV X hx (C := C) (bytes := bytes) (maxL := maxL) (ret := ret) ho hl hin hse hcode hy hK (by rw [hT]; exact hcB) hoB hclB hg (hsize.trans hml.symm) (argsL := As) (rest := rest) (fun sig h => hn.trans (hlen sig h)) hstack hW (by rw [hb]; exact hdg)
    (fun vm₁ hW₁ => ⟨hf.1, hf.2, hPc (T.setVm vm₁) hT hW₁⟩) with ⟨v, vm₁, ⟨U', l2, c2, s2⟩, hW₁, X', ⟨g', mk, t, L, e1, e2, hq, h1, hL, h2, h3⟩, st⟩ | ⟨q, vm₁, ⟨U', l2, c2, s2⟩, hW₁, X', ⟨g', mk, t, L, E, ce, e1, e2, hq, hce, hcv, hcl, h1, hL, h2, h3⟩, st⟩
  · dsimp only [Pt.U, Pt.locs, Pt.cells, Pt.slots] at X' e1 e2 h1 h2 h3 st
    subst h1; subst h2; subst h3
    exact Or.inl ⟨v, (T.setVm vm₁).calling g' mk (Value.ref b :: As).toArray, t, U', L, hT, X', hL, e1, e2, hq, st⟩
  · dsimp only [Pt.U, Pt.locs, Pt.cells, Pt.slots] at X' e1 e2 h1 h2 h3 st hcl
    subst h1; subst h2; subst h3
    exact Or.inr ⟨q, (T.setVm vm₁).calling g' mk (Value.ref b :: As).toArray, t, U', L, E, ce, hT, X', hL, e1, e2, hq, hce, hcv, vx_cls hW₁ hcl, st⟩
theorem vx_runS (S : CallFix p m c cc nL s args Ts own) (hM : vx_Met l y ws rm Pc Qc XC mc ms free) (cw : CallB R s args own index y bytes maxL ret ws rm mc ms n ∧ (Cond.static y).before args s = true) (hp : PreS s H Pc As)
    (hg : g.method = m) (hn : As.length = n) (hsize : g.locals.size = nL) (hstack : g.stack = As.reverse ++ rest) (hW : 2 * g.monitorRoom + (rest.map fun v => v.category).sum ≤ 8) (hdg : decode cc g.pc = .ok (.invokestatic index, 3)) (hf : cells + mc ≤ R.cells ∧ slots + ms ≤ R.slots) :
    vx_Run p l e R s m args below meth c H locs cells slots mc ms g rest (Qc As.toArray) XC free := by
  have hK : vx_Back l R p e below s args y 3 8 (PreOf R mc ms Pc) (PostOf Qc mc ms free) (vx_Post XC mc ms free) := vx_callBack cw.1 hM hp.1
  obtain ⟨⟨-, -, -, -, -, -, hcode, hini, hy, hlen, hl⟩, hstt⟩ := cw
  obtain ⟨hx, hb, hml, ho, -⟩ := S
  intro T hT X
  rcases vx_callS X hx (bytes := bytes) (maxL := maxL) (ret := ret) ho hl hstt hini hcode hy hK hg (hsize.trans hml.symm) (argsL := As) (rest := rest) (fun sig h => hn.trans (hlen sig h)) hstack hW (by rw [hb]; exact hdg)
    (fun vm₁ hW₁ => ⟨hf.1, hf.2, hp.2 (T.setVm vm₁) hT hW₁⟩) with ⟨v, vm₁, ⟨U', l2, c2, s2⟩, hW₁, X', ⟨g', mk, t, L, e1, e2, hq, h1, hL, h2, h3⟩, st⟩ | ⟨q, vm₁, ⟨U', l2, c2, s2⟩, hW₁, X', ⟨g', mk, t, L, E, ce, e1, e2, hq, hce, hcv, hcl, h1, hL, h2, h3⟩, st⟩
  · dsimp only [Pt.U, Pt.locs, Pt.cells, Pt.slots] at X' e1 e2 h1 h2 h3 st
    subst h1; subst h2; subst h3
    exact Or.inl ⟨v, (T.setVm vm₁).calling g' mk As.toArray, t, U', L, hT, X', hL, e1, e2, hq, st⟩
  · dsimp only [Pt.U, Pt.locs, Pt.cells, Pt.slots] at X' e1 e2 h1 h2 h3 st hcl
    subst h1; subst h2; subst h3
    exact Or.inr ⟨q, (T.setVm vm₁).calling g' mk As.toArray, t, U', L, E, ce, hT, X', hL, e1, e2, hq, hce, hcv, vx_cls hW₁ hcl, st⟩
end Runs
section Rows
variable {p : Program} {l : Launch} {e : Env} {R : Room} {s : State} {m : MethodId} {args : Array Value} {below : List Frame} {meth : Method} {c : Code} {H : Heap} {locs : List Loc} {cells slots : Nat} {Q : State → Prop}
variable {mc ms : Nat} {free : Addr → Prop} {A0 A1 : Nat → Prop} {H0 : Heap} {a : Array Value} {pc : Nat} {ls : Array Slot} {st0 rest : List Value}
theorem vx_keep {st₀ t T' : State} {L : List Loc} (h0 : st₀.heap = H) (e1 : T'.heap = t.heap) (hS : va_S A0 H0 H locs) (hA : ∀ q, q < H.size → A1 q → A0 q) (hf : ∀ q, free q → A0 q) (hL : ∀ q ∈ L, free q.base) (hF : va_F A1 st₀ t) :
    H.size ≤ T'.heap.size ∧ (∀ q : Nat, q < H.size → ¬ A1 q → T'.heap[q]? = H[q]?) ∧ va_S A0 H0 T'.heap (locs ++ L) := by
  obtain ⟨hz, hk⟩ := hF
  rw [h0] at hz hk
  exact ⟨by rw [e1]; exact hz, fun q h1 h2 => by rw [e1]; exact hk q h1 h2,
    ⟨Nat.le_trans hS.1 (by rw [e1]; exact hz), fun q h1 h2 => by rw [e1, hk q (Nat.lt_of_lt_of_le h1 hS.1) (fun z => h2 (hA q (Nat.lt_of_lt_of_le h1 hS.1) z))]; exact hS.2.1 q h1 h2, fun q hq => by
      rcases List.mem_append.mp hq with h | h
      · exact hS.2.2 q h
      · exact hf _ (hL q h)⟩⟩
theorem vx_calli {S SX : Type} {post : Int32 → S → Prop} {px : SX → Prop} {B : S → State → Prop} {BX : String → SX → State → Prop} {AX : Nat → Prop} (hr : vx_Run p l e R s m args below meth c H locs cells slots mc ms (F0 m pc ls st0) rest (va_Qi post B A1 a) (vx_X px BX AX) free) (hS : va_S A0 H0 H locs) (hA : ∀ q, q < H.size → A1 q → A0 q) (hf : ∀ q, free q → A0 q) (hAX : ∀ q, q < H.size → AX q → A0 q)
    (kx : ∀ (E : String) (ce : Cell) (q9 : Addr) (u : SX) (t : State) (H1 : Heap) (locs1 : List Loc), t.heap = H1 → s.vm.Alike t.vm → px u → BX E u t → H.size ≤ H1.size → (∀ q : Nat, q < H.size → ¬ AX q → H1[q]? = H[q]?) → va_S A0 H0 H1 locs1 → H1[q9]? = some ce → ce.vm = .none → s.vm.findClass E = some ce.cls → vx_W p l e R s m args below meth c H1 locs1 (cells + mc) (slots + ms) Q (F0 m pc ls rest) q9)
    (kk : ∀ (r : Int32) (u : S) (t : State) (H1 : Heap) (locs1 : List Loc), t.heap = H1 → s.vm.Alike t.vm → post r u → B u t → H.size ≤ H1.size → (∀ q : Nat, q < H.size → ¬ A1 q → H1[q]? = H[q]?) → va_S A0 H0 H1 locs1 → W p l e R s m args below meth c H1 locs1 (cells + mc) (slots + ms) Q (F0 m (pc + 3) ls (.int r :: rest))) : W p l e R s m args below meth c H locs cells slots Q (F0 m pc ls st0) := by
  intro T hT X
  rcases hr T hT X with ⟨v, st₀, t, T', L, h0, X', hL, e1, e2, ⟨⟨r, u, hv, hp, hb⟩, hF⟩, st⟩ | ⟨q, st₀, t, T', L, E, ce, h0, X', hL, e1, e2, ⟨u, hp, hb, hF⟩, hce, hcv, hcl, st⟩
  · cases hv
    obtain ⟨k1, k2, k3⟩ := vx_keep h0 e1 hS hA hf hL hF
    obtain ⟨t2, a1, b1⟩ := kk r u t T'.heap (locs ++ L) e1.symm (by rw [← e2]; exact X'.warmed.alike) hp hb k1 k2 k3 T' rfl X'
    exact ⟨t2, st t2 a1, b1⟩
  · obtain ⟨k1, k2, k3⟩ := vx_keep h0 e1 hS hAX hf hL hF
    obtain ⟨t2, a1, b1⟩ := kx E ce q u t T'.heap (locs ++ L) e1.symm (by rw [← e2]; exact X'.warmed.alike) hp hb k1 k2 k3 (by rw [e1]; exact hce) hcv hcl T' rfl X'
    exact ⟨t2, st.trans a1, b1⟩
theorem vx_calll {S SX : Type} {post : Int64 → S → Prop} {px : SX → Prop} {B : S → State → Prop} {BX : String → SX → State → Prop} {AX : Nat → Prop} (hr : vx_Run p l e R s m args below meth c H locs cells slots mc ms (F0 m pc ls st0) rest (va_Ql post B A1 a) (vx_X px BX AX) free) (hS : va_S A0 H0 H locs) (hA : ∀ q, q < H.size → A1 q → A0 q) (hf : ∀ q, free q → A0 q) (hAX : ∀ q, q < H.size → AX q → A0 q)
    (kx : ∀ (E : String) (ce : Cell) (q9 : Addr) (u : SX) (t : State) (H1 : Heap) (locs1 : List Loc), t.heap = H1 → s.vm.Alike t.vm → px u → BX E u t → H.size ≤ H1.size → (∀ q : Nat, q < H.size → ¬ AX q → H1[q]? = H[q]?) → va_S A0 H0 H1 locs1 → H1[q9]? = some ce → ce.vm = .none → s.vm.findClass E = some ce.cls → vx_W p l e R s m args below meth c H1 locs1 (cells + mc) (slots + ms) Q (F0 m pc ls rest) q9)
    (kk : ∀ (r : Int64) (u : S) (t : State) (H1 : Heap) (locs1 : List Loc), t.heap = H1 → s.vm.Alike t.vm → post r u → B u t → H.size ≤ H1.size → (∀ q : Nat, q < H.size → ¬ A1 q → H1[q]? = H[q]?) → va_S A0 H0 H1 locs1 → W p l e R s m args below meth c H1 locs1 (cells + mc) (slots + ms) Q (F0 m (pc + 3) ls (.long r :: rest))) : W p l e R s m args below meth c H locs cells slots Q (F0 m pc ls st0) := by
  intro T hT X
  rcases hr T hT X with ⟨v, st₀, t, T', L, h0, X', hL, e1, e2, ⟨⟨r, u, hv, hp, hb⟩, hF⟩, st⟩ | ⟨q, st₀, t, T', L, E, ce, h0, X', hL, e1, e2, ⟨u, hp, hb, hF⟩, hce, hcv, hcl, st⟩
  · cases hv
    obtain ⟨k1, k2, k3⟩ := vx_keep h0 e1 hS hA hf hL hF
    obtain ⟨t2, a1, b1⟩ := kk r u t T'.heap (locs ++ L) e1.symm (by rw [← e2]; exact X'.warmed.alike) hp hb k1 k2 k3 T' rfl X'
    exact ⟨t2, st t2 a1, b1⟩
  · obtain ⟨k1, k2, k3⟩ := vx_keep h0 e1 hS hAX hf hL hF
    obtain ⟨t2, a1, b1⟩ := kx E ce q u t T'.heap (locs ++ L) e1.symm (by rw [← e2]; exact X'.warmed.alike) hp hb k1 k2 k3 (by rw [e1]; exact hce) hcv hcl T' rfl X'
    exact ⟨t2, st.trans a1, b1⟩
theorem vx_callf {S SX : Type} {post : UInt32 → S → Prop} {px : SX → Prop} {B : S → State → Prop} {BX : String → SX → State → Prop} {AX : Nat → Prop} (hr : vx_Run p l e R s m args below meth c H locs cells slots mc ms (F0 m pc ls st0) rest (va_Qf post B A1 a) (vx_X px BX AX) free) (hS : va_S A0 H0 H locs) (hA : ∀ q, q < H.size → A1 q → A0 q) (hf : ∀ q, free q → A0 q) (hAX : ∀ q, q < H.size → AX q → A0 q)
    (kx : ∀ (E : String) (ce : Cell) (q9 : Addr) (u : SX) (t : State) (H1 : Heap) (locs1 : List Loc), t.heap = H1 → s.vm.Alike t.vm → px u → BX E u t → H.size ≤ H1.size → (∀ q : Nat, q < H.size → ¬ AX q → H1[q]? = H[q]?) → va_S A0 H0 H1 locs1 → H1[q9]? = some ce → ce.vm = .none → s.vm.findClass E = some ce.cls → vx_W p l e R s m args below meth c H1 locs1 (cells + mc) (slots + ms) Q (F0 m pc ls rest) q9)
    (kk : ∀ (r : UInt32) (u : S) (t : State) (H1 : Heap) (locs1 : List Loc), t.heap = H1 → s.vm.Alike t.vm → post r u → B u t → H.size ≤ H1.size → (∀ q : Nat, q < H.size → ¬ A1 q → H1[q]? = H[q]?) → va_S A0 H0 H1 locs1 → W p l e R s m args below meth c H1 locs1 (cells + mc) (slots + ms) Q (F0 m (pc + 3) ls (.float r :: rest))) : W p l e R s m args below meth c H locs cells slots Q (F0 m pc ls st0) := by
  intro T hT X
  rcases hr T hT X with ⟨v, st₀, t, T', L, h0, X', hL, e1, e2, ⟨⟨r, u, hv, hp, hb⟩, hF⟩, st⟩ | ⟨q, st₀, t, T', L, E, ce, h0, X', hL, e1, e2, ⟨u, hp, hb, hF⟩, hce, hcv, hcl, st⟩
  · cases hv
    obtain ⟨k1, k2, k3⟩ := vx_keep h0 e1 hS hA hf hL hF
    obtain ⟨t2, a1, b1⟩ := kk r u t T'.heap (locs ++ L) e1.symm (by rw [← e2]; exact X'.warmed.alike) hp hb k1 k2 k3 T' rfl X'
    exact ⟨t2, st t2 a1, b1⟩
  · obtain ⟨k1, k2, k3⟩ := vx_keep h0 e1 hS hAX hf hL hF
    obtain ⟨t2, a1, b1⟩ := kx E ce q u t T'.heap (locs ++ L) e1.symm (by rw [← e2]; exact X'.warmed.alike) hp hb k1 k2 k3 (by rw [e1]; exact hce) hcv hcl T' rfl X'
    exact ⟨t2, st.trans a1, b1⟩
theorem vx_calld {S SX : Type} {post : UInt64 → S → Prop} {px : SX → Prop} {B : S → State → Prop} {BX : String → SX → State → Prop} {AX : Nat → Prop} (hr : vx_Run p l e R s m args below meth c H locs cells slots mc ms (F0 m pc ls st0) rest (va_Qd post B A1 a) (vx_X px BX AX) free) (hS : va_S A0 H0 H locs) (hA : ∀ q, q < H.size → A1 q → A0 q) (hf : ∀ q, free q → A0 q) (hAX : ∀ q, q < H.size → AX q → A0 q)
    (kx : ∀ (E : String) (ce : Cell) (q9 : Addr) (u : SX) (t : State) (H1 : Heap) (locs1 : List Loc), t.heap = H1 → s.vm.Alike t.vm → px u → BX E u t → H.size ≤ H1.size → (∀ q : Nat, q < H.size → ¬ AX q → H1[q]? = H[q]?) → va_S A0 H0 H1 locs1 → H1[q9]? = some ce → ce.vm = .none → s.vm.findClass E = some ce.cls → vx_W p l e R s m args below meth c H1 locs1 (cells + mc) (slots + ms) Q (F0 m pc ls rest) q9)
    (kk : ∀ (r : UInt64) (u : S) (t : State) (H1 : Heap) (locs1 : List Loc), t.heap = H1 → s.vm.Alike t.vm → post r u → B u t → H.size ≤ H1.size → (∀ q : Nat, q < H.size → ¬ A1 q → H1[q]? = H[q]?) → va_S A0 H0 H1 locs1 → W p l e R s m args below meth c H1 locs1 (cells + mc) (slots + ms) Q (F0 m (pc + 3) ls (.double r :: rest))) : W p l e R s m args below meth c H locs cells slots Q (F0 m pc ls st0) := by
  intro T hT X
  rcases hr T hT X with ⟨v, st₀, t, T', L, h0, X', hL, e1, e2, ⟨⟨r, u, hv, hp, hb⟩, hF⟩, st⟩ | ⟨q, st₀, t, T', L, E, ce, h0, X', hL, e1, e2, ⟨u, hp, hb, hF⟩, hce, hcv, hcl, st⟩
  · cases hv
    obtain ⟨k1, k2, k3⟩ := vx_keep h0 e1 hS hA hf hL hF
    obtain ⟨t2, a1, b1⟩ := kk r u t T'.heap (locs ++ L) e1.symm (by rw [← e2]; exact X'.warmed.alike) hp hb k1 k2 k3 T' rfl X'
    exact ⟨t2, st t2 a1, b1⟩
  · obtain ⟨k1, k2, k3⟩ := vx_keep h0 e1 hS hAX hf hL hF
    obtain ⟨t2, a1, b1⟩ := kx E ce q u t T'.heap (locs ++ L) e1.symm (by rw [← e2]; exact X'.warmed.alike) hp hb k1 k2 k3 (by rw [e1]; exact hce) hcv hcl T' rfl X'
    exact ⟨t2, st.trans a1, b1⟩
theorem vx_callv {S SX : Type} {post : S → Prop} {px : SX → Prop} {B : S → State → Prop} {BX : String → SX → State → Prop} {AX : Nat → Prop} (hr : vx_Run p l e R s m args below meth c H locs cells slots mc ms (F0 m pc ls st0) rest (va_Qv post B A1 a) (vx_X px BX AX) free) (hS : va_S A0 H0 H locs) (hA : ∀ q, q < H.size → A1 q → A0 q) (hf : ∀ q, free q → A0 q) (hAX : ∀ q, q < H.size → AX q → A0 q)
    (kx : ∀ (E : String) (ce : Cell) (q9 : Addr) (u : SX) (t : State) (H1 : Heap) (locs1 : List Loc), t.heap = H1 → s.vm.Alike t.vm → px u → BX E u t → H.size ≤ H1.size → (∀ q : Nat, q < H.size → ¬ AX q → H1[q]? = H[q]?) → va_S A0 H0 H1 locs1 → H1[q9]? = some ce → ce.vm = .none → s.vm.findClass E = some ce.cls → vx_W p l e R s m args below meth c H1 locs1 (cells + mc) (slots + ms) Q (F0 m pc ls rest) q9)
    (kk : ∀ (u : S) (t : State) (H1 : Heap) (locs1 : List Loc), t.heap = H1 → s.vm.Alike t.vm → post u → B u t → H.size ≤ H1.size → (∀ q : Nat, q < H.size → ¬ A1 q → H1[q]? = H[q]?) → va_S A0 H0 H1 locs1 → W p l e R s m args below meth c H1 locs1 (cells + mc) (slots + ms) Q (F0 m (pc + 3) ls (rest))) : W p l e R s m args below meth c H locs cells slots Q (F0 m pc ls st0) := by
  intro T hT X
  rcases hr T hT X with ⟨v, st₀, t, T', L, h0, X', hL, e1, e2, ⟨⟨u, hv, hp, hb⟩, hF⟩, st⟩ | ⟨q, st₀, t, T', L, E, ce, h0, X', hL, e1, e2, ⟨u, hp, hb, hF⟩, hce, hcv, hcl, st⟩
  · cases hv
    obtain ⟨k1, k2, k3⟩ := vx_keep h0 e1 hS hA hf hL hF
    obtain ⟨t2, a1, b1⟩ := kk u t T'.heap (locs ++ L) e1.symm (by rw [← e2]; exact X'.warmed.alike) hp hb k1 k2 k3 T' rfl X'
    exact ⟨t2, st t2 a1, b1⟩
  · obtain ⟨k1, k2, k3⟩ := vx_keep h0 e1 hS hAX hf hL hF
    obtain ⟨t2, a1, b1⟩ := kx E ce q u t T'.heap (locs ++ L) e1.symm (by rw [← e2]; exact X'.warmed.alike) hp hb k1 k2 k3 (by rw [e1]; exact hce) hcv hcl T' rfl X'
    exact ⟨t2, st.trans a1, b1⟩
/-- caught by the row x of this method's table; the rows ahead don't take it -/
theorem vx_catch {own name : String} {E : String} {ce : Cell} {q : Addr} (hown : s.vm.findClass own = some m.cls) (pre : List ExceptionTableEntry) (x : ExceptionTableEntry) (suf : List ExceptionTableEntry) (hsplit : c.exceptionTable.toList = pre ++ x :: suf)
    (hpass : ∀ z ∈ pre, covers z pc = false ∨ (z.catchType ≠ 0 ∧ ∃ nm : String, (Cond.classLink own z.catchType nm).before args s = true ∧ va_Nc E nm s)) (hx : covers x pc = true) (h0 : x.catchType ≠ 0)
    (hlink : (Cond.classLink own x.catchType name).before args s = true) (hcast : (Cond.castable E name).before args s = true) (hcell : H[q]? = some ce) (hv : ce.vm = .none) (hcl : s.vm.findClass E = some ce.cls)
    (kk : W p l e R s m args below meth c H locs cells slots Q (F0 m x.handlerPc ls [.ref q])) : vx_W p l e R s m args below meth c H locs cells slots Q (F0 m pc ls rest) q := by
  intro T hT X
  have hpl : e.platform.magicAccessors = ({} : Platform).magicAccessors := by rw [X.admits.platform]
  obtain ⟨c3, c4, hc3, hc4, hasg⟩ := Cond.castable_spec hcast
  cases Option.some.inj (hc3.symm.trans hcl)
  obtain ⟨c5, hc5, hcl5⟩ := Cond.classLink_spec hown hlink e.platform hpl
  cases Option.some.inj (hc4.symm.trans hc5)
  obtain ⟨vm', X', st⟩ := X.thenCaughtThrough q (g := F0 m pc ls rest) rfl (Steps.refl _) (by rw [hT]; exact hcell) (by rw [hv]; rfl) (by obtain ⟨k9, h9, -⟩ := Vm.findClass_spec hcl; exact ⟨k9, h9⟩) pre x suf hsplit
    (fun z hz => by
      rcases hpass z hz with h | ⟨hz0, nm, hl1, hn1⟩
      · exact Or.inl h
      · obtain ⟨c6, hc6, hcl6⟩ := Cond.classLink_spec hown hl1 e.platform hpl
        obtain ⟨a8, b8, h1, h2, h3⟩ := hn1
        cases Option.some.inj (h1.symm.trans hcl)
        cases Option.some.inj (h2.symm.trans hc6)
        exact Or.inr ⟨hz0, _, hcl6, h3⟩) hx (Or.inr ⟨h0, c4, hcl5, hasg⟩)
  obtain ⟨t, a1, b1⟩ := kk (T.setVm vm') hT X'
  exact ⟨t, st.trans a1, b1⟩
end Rows
section Ends
variable {p : Program} {l : Launch} {e : Env} {R : Room} {s : State} {m : MethodId} {args : Array Value} {below : List Frame} {meth : Method} {c : Code} {H : Heap} {locs : List Loc} {cells slots : Nat} {Q : State → Prop}
variable {mc ms : Nat} {free : Addr → Prop} {A0 A1 : Nat → Prop} {H0 : Heap} {a : Array Value} {ls : Array Slot} {st0 rest : List Value}
variable {Qc : Array Value → State → Outcome → State → Prop} {XC : String → State → State → Prop}
/-- what a body that may throw owes at its end -/
def vx_MQ (below : List Frame) (Qc : Array Value → State → Outcome → State → Prop) (XC : String → State → State → Prop) (a : Array Value) (s : State) (mc ms : Nat) (free : Addr → Prop) : State → Prop := fun t =>
  ∃ o, t.status = .running ∧ Ended t below o ∧ vx_Q Qc XC mc ms free a s o t
theorem vx_ret {g : JFrame} {mc ms : Nat} (k : W p l e R s m args below meth c H locs cells slots (MQ below Qc args s mc ms free) g) : W p l e R s m args below meth c H locs cells slots (vx_MQ below Qc XC args s mc ms free) g := by
  intro T hT X
  obtain ⟨t, a1, o, b1, b2, b3, b4⟩ := k T hT X
  exact ⟨t, a1, o, b1, b2, Or.inl ⟨b3, b4⟩⟩
/-- not caught here: it goes on to the caller -/
theorem vx_widen {g : JFrame} {q : Addr} {k n : Nat} (h1 : cells ≤ k) (h2 : slots ≤ n) (kk : vx_W p l e R s m args below meth c H locs k n Q g q) : vx_W p l e R s m args below meth c H locs cells slots Q g q := fun T hT X => kk T hT (stand_widen X h1 h2)
theorem vx_out {pc : Nat} {E : String} {ce : Cell} {q : Addr} {mc ms : Nat} (hout : ∀ x ∈ c.exceptionTable.toList, covers x pc = false) (hlocks : meth.locks = false) (hcell : H[q]? = some ce) (hv : ce.vm = .none) (hcl : s.vm.findClass E = some ce.cls)
    (hx : ∀ t : State, t.heap = H → s.vm.Alike t.vm → XC E s t) (hf : ∀ z ∈ locs, free z.base) (hc : cells ≤ mc) (hs : slots ≤ ms) :
    vx_W p l e R s m args below meth c H locs cells slots (vx_MQ below Qc XC args s mc ms free) (F0 m pc ls rest) q := by
  intro T hT X
  obtain ⟨st1, hrun, hend, hW, hsm⟩ := X.leaveThrown q (g := F0 m pc ls rest) rfl rfl rfl hout hlocks
  have hcell9 : (T.setFrames (.throwing q :: below)).heap[q]? = some ce := by
    show T.heap[q]? = some ce
    rw [hT]; exact hcell
  exact ⟨_, st1, .threw q, hrun, hend, Or.inr ⟨q, rfl, E, ce, locs, hx _ hT hW.alike, hcell9, hv, hcl, hW, hsm.mono hc hs, hf⟩⟩
theorem vx_frame {U : State} {k n : Nat} (h : s.sameButNew ({ U with vm := s.vm } : State) locs k n) : s.heap.size ≤ U.heap.size ∧ ∀ q : Nat, q < s.heap.size → (∀ z ∈ locs, z.base ≠ q) → U.heap[q]? = s.heap[q]? := by
  obtain ⟨-, h2, -, -, -, h6⟩ := h
  refine ⟨h2, fun q hq hz => ?_⟩
  obtain ⟨c9, e1, e2, e3, e4⟩ := h6 q _ (Array.getElem?_eq_getElem hq)
  have hs : c9.slots = (s.heap[q]).slots := Array.ext_getElem? fun i => e4 i fun hm => hz _ hm rfl
  have h9 : c9 = s.heap[q] := by
    rw [hs] at e2
    exact e2
  have e5 : U.heap[q]? = some c9 := e1
  rw [e5, h9, Array.getElem?_eq_getElem hq]
/-- the words of a throw but the four that speak of the heap -/
def vx_no (w : Cond) : Bool := decide (w ≠ .isRef (.static Bundle.tN "UNASSIGNED_STACK" Bundle.steD)) && decide (w ≠ .isRef (.static Bundle.tN "SUPPRESSED_SENTINEL" Bundle.listD)) && decide (w ≠ .laysStatic Bundle.tN "UNASSIGNED_STACK" Bundle.steD) && decide (w ≠ .laysStatic Bundle.tN "SUPPRESSED_SENTINEL" Bundle.listD)
def vx_at0 (own : String) (ic : Nat) (X : String) (names : List String) : List Cond := (Bundle.ownAtoms0 own ic X names).filter vx_no
def vx_atS (own : String) (ic : Nat) (X : String) (names : List String) : List Cond := (Bundle.ownAtoms own ic X names).filter vx_no
/-- a word that the tables alone decide, or a good one -/
def vx_ot (w : Cond) : Bool := w.onTables || goodWord w
theorem vx_ot_at {args a' : Array Value} {s U : State} {w : Cond} (hW : s.WarmedH U.vm) (hvm : s.vm = U.vm) (hg : vx_ot w = true) (h : w.before args s = true) : w.before a' U = true := by
  simp only [vx_ot, Bool.or_eq_true] at hg
  rcases hg with hg | hg
  · exact va_tabs hg hvm h
  · exact word_at hW (good_of_word hg) h
/-- a list's words: the good ones out of the method's own list, the others by premises of their own -/
theorem vx_hat {args : Array Value} {s : State} {L B : List Cond} (h1 : ∀ w ∈ L.filter goodWord, w.before args s = true) (h2 : ∀ w ∈ L.filter (fun w => !goodWord w), w ∈ B) (h3 : ∀ w ∈ B, w.before args s = true) : ∀ w ∈ L, w.before args s = true := by
  intro w hw
  by_cases g : goodWord w = true
  · exact h1 w (List.mem_filter.mpr ⟨hw, g⟩)
  · refine h3 w (h2 w (List.mem_filter.mpr ⟨hw, ?_⟩))
    show (!goodWord w) = true
    cases hgw : goodWord w
    · rfl
    · exact absurd hgw g
theorem vx_c {args : Array Value} {s : State} {w : Cond} {B : List Cond} (h : w.before args s = true) (t : ∀ w ∈ B, w.before args s = true) : ∀ w' ∈ w :: B, w'.before args s = true := fun w' h' => (List.mem_cons.mp h').elim (fun e => by rw [e]; exact h) (t w')
theorem vx_n {args : Array Value} {s : State} : ∀ w ∈ ([] : List Cond), w.before args s = true := fun _ h => nomatch h
theorem vx_own {args : Array Value} {s : State} {L : List Cond} (h1 : ∀ w ∈ L.filter vx_no, w.before args s = true)
    (hU : (Cond.isRef (.static Bundle.tN "UNASSIGNED_STACK" Bundle.steD)).before args s = true) (hN : (Cond.isRef (.static Bundle.tN "SUPPRESSED_SENTINEL" Bundle.listD)).before args s = true)
    (lU : (Cond.laysStatic Bundle.tN "UNASSIGNED_STACK" Bundle.steD).before args s = true) (lN : (Cond.laysStatic Bundle.tN "SUPPRESSED_SENTINEL" Bundle.listD).before args s = true) : ∀ w ∈ L, w.before args s = true := by
  intro w hw
  by_cases e1 : w = .isRef (.static Bundle.tN "UNASSIGNED_STACK" Bundle.steD)
  · rw [e1]; exact hU
  · by_cases e2 : w = .isRef (.static Bundle.tN "SUPPRESSED_SENTINEL" Bundle.listD)
    · rw [e2]; exact hN
    · by_cases e3 : w = .laysStatic Bundle.tN "UNASSIGNED_STACK" Bundle.steD
      · rw [e3]; exact lU
      · by_cases e4 : w = .laysStatic Bundle.tN "SUPPRESSED_SENTINEL" Bundle.listD
        · rw [e4]; exact lN
        · exact h1 w (List.mem_filter.mpr ⟨hw, by unfold vx_no; rw [decide_eq_true e1, decide_eq_true e2, decide_eq_true e3, decide_eq_true e4]; rfl⟩)
/-- where a static field lies, its class's statics cell in H -/
def vx_L (C n d : String) (A : Nat → Prop) (U : State) (H : Heap) : Prop := ∃ (c : ClassId) (k : Class) (i : Nat) (f : Field) (a : Nat) (cell : Cell), U.vm.findClass C = some c ∧ U.fieldFound? C n d = some (c, k, i, f) ∧ f.isStatic = true ∧ k.statics = some a ∧ H[a]? = some cell ∧ cell.vm.isStatics = true ∧ cell.cls = c ∧ f.slot < cell.slots.size ∧ k.staticTypes[f.slot]? = some f.type ∧ ¬ A a
theorem vx_L.moved {C n d : String} {A : Nat → Prop} {u U : State} {H : Heap} (hvm : u.vm.Alike U.vm) (h : vx_L C n d A u H) : vx_L C n d A U H := by
  obtain ⟨c, k, i, f, a, cell, h1, h2, h3, h4, h5, h6, h7, h8, h9, h10⟩ := h
  obtain ⟨k', hi', he⟩ := State.fieldFound?_setVm hvm h2
  exact ⟨c, k', i, f, a, cell, by rw [hvm.findClass]; exact h1, hi', h3, by rw [he]; exact h4, h5, h6, h7, h8, by rw [he]; exact h9, h10⟩
theorem vx_L.kept {C n d : String} {A : Nat → Prop} {U : State} {H H1 : Heap} (h : vx_L C n d A U H) (hq : ∀ a : Nat, a < H.size → ¬ A a → H1[a]? = H[a]?) : vx_L C n d A U H1 := by
  obtain ⟨c, k, i, f, a, cell, h1, h2, h3, h4, h5, h6, h7, h8, h9, h10⟩ := h
  exact ⟨c, k, i, f, a, cell, h1, h2, h3, h4, by rw [hq a (Array.getElem?_eq_some_iff.mp h5).1 h10]; exact h5, h6, h7, h8, h9, h10⟩
theorem vx_L.narrow {C n d : String} {A B : Nat → Prop} {U : State} {H : Heap} (h : vx_L C n d A U H) (hAB : ∀ q, B q → A q) : vx_L C n d B U H := by
  obtain ⟨c, k, i, f, a, cell, h1, h2, h3, h4, h5, h6, h7, h8, h9, h10⟩ := h
  exact ⟨c, k, i, f, a, cell, h1, h2, h3, h4, h5, h6, h7, h8, h9, fun z => h10 (hAB _ z)⟩
theorem vx_L.word {C n d : String} {A : Nat → Prop} {s : State} {args : Array Value} (h : vx_L C n d A s s.heap) : (Cond.laysStatic C n d).before args s = true := by
  obtain ⟨c, k, i, f, a, cell, h1, h2, h3, h4, h5, h6, h7, h8, h9, -⟩ := h
  show (Cond.laysStatic C n d).holds args s none s [] = true
  exact Cond.laysStatic_of h1 h2 h3 h4 h5 h6 h7 h8 h9
/-- .. and what it holds: null or some reference -/
def vx_Zq (C n d : String) (A : Nat → Prop) (U : State) (H : Heap) : Prop := va_Zq C n d A U H ∧ vx_L C n d A U H
theorem vx_Zq.moved {C n d : String} {A : Nat → Prop} {u U : State} {H : Heap} (hvm : u.vm.Alike U.vm) (h : vx_Zq C n d A u H) : vx_Zq C n d A U H := ⟨va_Zq.moved hvm h.1, vx_L.moved hvm h.2⟩
theorem vx_Zq.kept {C n d : String} {A : Nat → Prop} {U : State} {H H1 : Heap} (h : vx_Zq C n d A U H) (hq : ∀ a : Nat, a < H.size → ¬ A a → H1[a]? = H[a]?) : vx_Zq C n d A U H1 := ⟨va_Zq.kept h.1 hq, vx_L.kept h.2 hq⟩
theorem vx_Zq.narrow {C n d : String} {A B : Nat → Prop} {U : State} {H : Heap} (h : vx_Zq C n d A U H) (hAB : ∀ q, B q → A q) : vx_Zq C n d B U H := ⟨va_Zq.narrow h.1 hAB, vx_L.narrow h.2 hAB⟩
theorem vx_Zqof {args : Array Value} {s : State} {C n d : String} {A : Nat → Prop} (hl : (Cond.laysStatic C n d).before args s = true) (hini : (Cond.initialized C).before args s = true) (h : (Cond.isRef (.static C n d)).before args s = true) (hA : ∀ a : Nat, a < s.heap.size → ¬ A a) : vx_Zq C n d A s s.heap := by
  refine ⟨va_Zqof hl hini h hA, ?_⟩
  obtain ⟨c, k, i, f, a, cell, h1, h2, h3, h4, h5, h6, h7, h8, h9⟩ := Cond.laysStatic_spec hl
  exact ⟨c, k, i, f, a, cell, h1, h2, h3, h4, h5, h6, h7, h8, h9, hA a (Array.getElem?_eq_some_iff.mp h5).1⟩
theorem vx_isRef {C n d : String} {v : Value} {A : Nat → Prop} {s : State} {args : Array Value} (h : va_Z C n d v A s s.heap) (hv : v.isRef = true) : (Cond.isRef (.static C n d)).before args s = true := by
  obtain ⟨cf, kf, fi, f, a, cell, h1, h2, h3, h4, h5, h6, h7, -⟩ := h
  have he : (Term.static C n d).eval args s none [] s = some v := by
    simp [Term.eval, State.fieldNamed?, h1, h2, h4, h5, h6, h7]
  simp only [Cond.before, Cond.holds, Cond.value, he]
  cases v <;> simp_all [Value.isRef]
theorem vx_isRefq {C n d : String} {A : Nat → Prop} {s : State} {args : Array Value} (h : va_Zq C n d A s s.heap) : (Cond.isRef (.static C n d)).before args s = true := by
  rcases h with h | ⟨t, h⟩
  · exact vx_isRef h rfl
  · exact vx_isRef h rfl
/-- the same frame, seen from here: as if the method were called anew in this heap -/
theorem vx_rebase {T : State} (X : Stand p l e R s m args below meth c T locs cells slots) {R' : Room} (hf : R'.frames ≤ R.frames) (hl : R'.locals ≤ R.locals) (hc : cells + R'.cells ≤ R.cells) (hs : slots + R'.slots ≤ R.slots) :
    Stand p l e R' ((T.setVm s.vm).setFrames (.invoking m args :: below)) m args below meth c T [] 0 0 := by
  have htop : (T.setVm s.vm).topJava?.isSome := X.here.top
  have hF : ((T.setVm s.vm).setFrames (.invoking m args :: below)).frames = .invoking m args :: below := State.frames_setFrames _ (State.cur_lt_of_top htop)
  obtain ⟨g₀, hg0⟩ := Option.isSome_iff_exists.mp htop
  obtain ⟨r, hr⟩ := State.topJava?_eq_some.mp hg0
  have hl9 : e.platform.stackLimits (T.setVm s.vm).me = e.platform.stackLimits s.me := X.limits
  have hb9 : (T.setVm s.vm).me.stackBytes = s.me.stackBytes := X.bytes
  refine ⟨X.admits, X.cas, X.clock, hF, ?_, X.hears, X.method, X.code, X.here, X.tail, X.warmed, ?_, ?_, ?_⟩
  · have h := X.room
    have hU : ((T.setVm s.vm).setFrames (.invoking m args :: below)).localsInUse = s.localsInUse := by
      rw [State.localsInUse_invoking hF (meth := meth) (c := c) X.method X.code, State.localsInUse_invoking X.frames X.method X.code]
    simp only [State.hasRoom, Bool.and_eq_true, decide_eq_true_eq] at h ⊢
    obtain ⟨⟨⟨⟨h1, h2, h3, h4, h5, h6⟩, h7⟩, h8⟩, h9⟩ := h
    rw [X.frames, List.length_cons] at h2 h3
    have q1 := X.heapSize
    have q2 := X.used
    simp only [hF, hU, List.length_cons, State.stackLimits_setFrames, State.stackBytes_setFrames, hl9, hb9]
    refine ⟨⟨⟨⟨by omega, by omega, by omega, by omega, by omega, h6⟩, ?_⟩, ?_⟩, X.book⟩
    · show T.heap.size + R'.cells ≤ e.platform.maxCells
      omega
    · show T.slotsUsed + R'.slots ≤ e.platform.maxSlots
      omega
  · rw [State.stackLimits_setFrames]; rfl
  · rw [State.stackBytes_setFrames]; rfl
  · refine ⟨?_, Nat.le_refl _, Nat.le_refl _, ?_, ?_, fun a c9 h9 => ⟨c9, h9, rfl, rfl, fun _ _ => rfl⟩⟩
    · obtain ⟨t, ht, -⟩ := State.frames_cons hr
      show T.setVm s.vm = { ((T.setVm s.vm).setFrames (.invoking m args :: below)).setFrames (T.setVm s.vm).frames with heap := T.heap, slotsUsed := T.slotsUsed }
      rw [State.setFrames_setFrames, State.setFrames_self ht]
      rfl
    · show T.slotsUsed = T.slotsUsed + ((T.heap.toList.drop T.heap.size).map (·.slots.size)).sum
      rw [List.drop_eq_nil_of_le (Nat.le_of_eq Array.length_toList)]
      rfl
    · show ((T.heap.toList.drop T.heap.size).map (·.slots.size)).sum ≤ 0
      rw [List.drop_eq_nil_of_le (Nat.le_of_eq Array.length_toList)]
      exact Nat.le_refl _
/-- 'throw new E()': new; dup; invokespecial; athrow -/
theorem vx_throw0 {cc : ByteArray} {pc : Nat} (hexec : p.tables.exec = Jvm.exec) (hb : c.code = cc) (hl : l.stackTraces = false) {own cls : String} {names : List String} {ik ic mc ms : Nat} {A : Nat → Prop}
    (hown : s.vm.findClass own = some m.cls) (hcls : Bundle.fit cls = true) (hnames : ∀ n ∈ names, Bundle.fit n = true)
    (hk : (Cond.classLink own ik cls).before args s = true) (hini : (Cond.initialized cls).before args s = true) (hat : ∀ w ∈ vx_at0 own ic cls names, w.before args s = true)
    (hgood : ∀ w ∈ Cond.classLink own ik cls :: Cond.initialized cls :: vx_at0 own ic cls names, vx_ot w = true)
    (hU : vx_Zq Bundle.tN "UNASSIGNED_STACK" Bundle.steD A s s.heap) (hN : vx_Zq Bundle.tN "SUPPRESSED_SENTINEL" Bundle.listD A s s.heap) (hS : va_S A s.heap H locs) (hsize : ls.size = c.maxLocals)
    (d0 : decode cc pc = .ok (.new ik, 3)) (d3 : decode cc (pc + 3) = .ok (.dup, 1)) (d4 : decode cc (pc + 4) = .ok (.invokespecial ic, 3)) (d7 : decode cc (pc + 7) = .ok (.athrow, 1))
    (hout : ∀ x ∈ c.exceptionTable.toList, covers x (pc + 7) = false)
    (hRframes : names.length + 3 < R.frames) (hRlocals : (rest.map fun v => v.category).sum + (13 * (names.length + 1) + 42) ≤ R.locals) (hRcells : cells + 1 ≤ R.cells) (hRslots : slots + 6 ≤ R.slots) (hlocks : meth.locks = false)
    (hx : ∀ t : State, s.vm.Alike t.vm → H.size ≤ t.heap.size → (∀ q : Nat, q < H.size → t.heap[q]? = H[q]?) → XC cls s t)
    (hf : ∀ z ∈ locs, free z.base) (hc : cells + 1 ≤ mc) (hs : slots + 6 ≤ ms) :
    W p l e R s m args below meth c H locs cells slots (vx_MQ below Qc XC args s mc ms free) (F0 m pc ls rest) := by
  intro T hT X
  have htr : e.platform.stackTraces = false := (show e.platform.stackTraces = l.stackTraces by rw [X.admits.platform]).trans hl
  have Y := vx_rebase X (R' := { frames := R.frames, locals := R.locals, cells := 1, slots := 6 }) (Nat.le_refl _) (Nat.le_refl _) hRcells hRslots
  obtain ⟨s', hA⟩ : ∃ z, z = (T.setVm s.vm).setFrames (.invoking m args :: below) := ⟨_, rfl⟩
  rw [← hA] at Y
  have hvm : s'.vm = s.vm := by rw [hA]; rfl
  have hhp : s'.heap = H := by rw [hA]; exact hT
  have hW0 : s.WarmedH s'.vm := by rw [hvm]; exact State.WarmedH.refl s
  have hat' : ∀ w ∈ vx_at0 own ic cls names, w.before args s' = true := fun w hw => vx_ot_at hW0 hvm.symm (hgood w (List.mem_cons_of_mem _ (List.mem_cons_of_mem _ hw))) (hat w hw)
  have hk' : (Cond.classLink own ik cls).before args s' = true := vx_ot_at hW0 hvm.symm (hgood _ List.mem_cons_self) hk
  have hini' : (Cond.initialized cls).before args s' = true := vx_ot_at hW0 hvm.symm (hgood _ (List.mem_cons_of_mem _ List.mem_cons_self)) hini
  have hU' : vx_Zq Bundle.tN "UNASSIGNED_STACK" Bundle.steD A s' s'.heap := by rw [hhp]; exact vx_Zq.moved hW0.alike (hU.kept hS.2.1)
  have hN' : vx_Zq Bundle.tN "SUPPRESSED_SENTINEL" Bundle.listD A s' s'.heap := by rw [hhp]; exact vx_Zq.moved hW0.alike (hN.kept hS.2.1)
  have h : ∀ w ∈ Bundle.ownAtoms0 own ic cls names, w.before args s' = true := vx_own hat' (vx_isRefq hU'.1) (vx_isRefq hN'.1) hU'.2.word hN'.2.word
  have hown' : s'.vm.findClass own = some m.cls := by rw [hvm]; exact hown
  have hins : (Cond.instantiable cls 6).before args s' = true := h _ (by simp [Bundle.ownAtoms0])
  obtain ⟨vm₁, cX, kX, hfX, hkX, -, -, X₁, st1⟩ := Y.newCold hexec (own := own) (C := cls) (index := ik) (n := 6) hown' hk' hins hini'
    (g := F0 m pc ls rest) rfl (by rw [hb]; exact d0) (Nat.le_refl _) (Nat.le_refl _)
  generalize hT1 : (T.setVm vm₁).pushCell { cls := cX, slots := kX.instanceTypes.map defaultValue, vm := .none } = T1 at X₁ st1
  have hcat : (Value.ref T.heap.size).category = 1 := rfl
  have hcellA : T1.heap[T.heap.size]? = some (freshCell cX kX) := by rw [← hT1]; exact State.heap_pushCell_size _ _
  have d3' : decode c.code (pc + 3) = .ok (.dup, 1) := by rw [hb]; exact d3
  obtain ⟨U, hsteps, hrun, hend, hW, hsame, ce, hce, hO⟩ := X₁.ctorThrow0 hexec htr (own := own) (cls := cls) (names := names) (ic := ic) hown' hcls hnames h (fun x hx => nomatch hx) hfX hkX hcellA (by rw [hhp, hT]; exact Nat.le_refl _)
    (g := { method := m, pc := pc + 4, locals := ls, stack := .ref T.heap.size :: .ref T.heap.size :: rest, locked := none }) rfl hsize rfl rfl (rest := rest) rfl
    (by rw [hb]; exact d4) (by rw [hb]; exact d7) hout hRframes (by simp only [List.map_cons, List.sum_cons, hcat]; omega) hlocks
  obtain ⟨f1, f2⟩ := vx_frame hsame
  rw [hhp] at f1 f2
  have hWs : s.WarmedH U.vm := State.WarmedH.trans hW0 hW
  have hcl : s.vm.findClass cls = some ce.cls := by
    have h9 := hO.cls
    rw [hvm] at h9
    exact h9
  have hall : s.sameButNew ({ U with vm := s.vm } : State) locs mc ms := by
    subst hA
    obtain ⟨e1, e2⟩ := hsame
    rw [State.setFrames_setFrames] at e1
    have h2 : (T.setVm s.vm).sameButNew ({ U with vm := s.vm } : State) [] (0 + 1) (0 + 6) := ⟨e1, e2⟩
    have h3 := X.same.trans h2
    rw [List.append_nil] at h3
    exact h3.mono hc hs
  refine ⟨U, ?_, .threw T.heap.size, hrun, hend, Or.inr ⟨T.heap.size, rfl, cls, ce, locs, hx U hWs.alike f1 (fun q hq => f2 q hq (fun z hz => nomatch hz)), hce, hO.vm, hcl, hWs, hall, hf⟩⟩
  refine st1 _ ?_
  show Steps p.tables e below (T1.setTop { method := m, pc := pc + 3, locals := ls, stack := .ref T.heap.size :: rest, locked := none }) _
  jvm_step X₁.here [X₁.here.top, hexec, d3', Value.category]
  exact hsteps
/-- 'throw new E("text")': new; dup; ldc; invokespecial; athrow -/
theorem vx_throwS {cc : ByteArray} {pc : Nat} (hexec : p.tables.exec = Jvm.exec) (hb : c.code = cc) (hl : l.stackTraces = false) {own cls text : String} {names : List String} {ik is ic mc ms sa : Nat} {A : Nat → Prop}
    (hown : s.vm.findClass own = some m.cls) (hcls : Bundle.fit cls = true) (hnames : ∀ n ∈ names, Bundle.fit n = true)
    (hk : (Cond.classLink own ik cls).before args s = true) (hini : (Cond.initialized cls).before args s = true) (hstr : vk_R own is text sa s) (hat : ∀ w ∈ vx_atS own ic cls names, w.before args s = true)
    (hgood : ∀ w ∈ Cond.classLink own ik cls :: Cond.initialized cls :: vx_atS own ic cls names, vx_ot w = true)
    (hU : vx_Zq Bundle.tN "UNASSIGNED_STACK" Bundle.steD A s s.heap) (hN : vx_Zq Bundle.tN "SUPPRESSED_SENTINEL" Bundle.listD A s s.heap) (hS : va_S A s.heap H locs) (hsize : ls.size = c.maxLocals)
    (d0 : decode cc pc = .ok (.new ik, 3)) (d3 : decode cc (pc + 3) = .ok (.dup, 1)) (d4 : decode cc (pc + 4) = .ok (.ldc is, 2)) (d6 : decode cc (pc + 6) = .ok (.invokespecial ic, 3)) (d9 : decode cc (pc + 9) = .ok (.athrow, 1))
    (hout : ∀ x ∈ c.exceptionTable.toList, covers x (pc + 9) = false)
    (hRframes : names.length + 3 < R.frames) (hRlocals : (rest.map fun v => v.category).sum + (13 * (names.length + 1) + 43) ≤ R.locals) (hRcells : cells + 1 ≤ R.cells) (hRslots : slots + 6 ≤ R.slots) (hlocks : meth.locks = false)
    (hx : ∀ t : State, s.vm.Alike t.vm → H.size ≤ t.heap.size → (∀ q : Nat, q < H.size → t.heap[q]? = H[q]?) → XC cls s t)
    (hf : ∀ z ∈ locs, free z.base) (hc : cells + 1 ≤ mc) (hs : slots + 6 ≤ ms) :
    W p l e R s m args below meth c H locs cells slots (vx_MQ below Qc XC args s mc ms free) (F0 m pc ls rest) := by
  intro T hT X
  have htr : e.platform.stackTraces = false := (show e.platform.stackTraces = l.stackTraces by rw [X.admits.platform]).trans hl
  have Y := vx_rebase X (R' := { frames := R.frames, locals := R.locals, cells := 1, slots := 6 }) (Nat.le_refl _) (Nat.le_refl _) hRcells hRslots
  obtain ⟨s', hA⟩ : ∃ z, z = (T.setVm s.vm).setFrames (.invoking m args :: below) := ⟨_, rfl⟩
  rw [← hA] at Y
  have hvm : s'.vm = s.vm := by rw [hA]; rfl
  have hhp : s'.heap = H := by rw [hA]; exact hT
  have hW0 : s.WarmedH s'.vm := by rw [hvm]; exact State.WarmedH.refl s
  have hat' : ∀ w ∈ vx_atS own ic cls names, w.before args s' = true := fun w hw => vx_ot_at hW0 hvm.symm (hgood w (List.mem_cons_of_mem _ (List.mem_cons_of_mem _ hw))) (hat w hw)
  have hk' : (Cond.classLink own ik cls).before args s' = true := vx_ot_at hW0 hvm.symm (hgood _ List.mem_cons_self) hk
  have hini' : (Cond.initialized cls).before args s' = true := vx_ot_at hW0 hvm.symm (hgood _ (List.mem_cons_of_mem _ List.mem_cons_self)) hini
  have hU' : vx_Zq Bundle.tN "UNASSIGNED_STACK" Bundle.steD A s' s'.heap := by rw [hhp]; exact vx_Zq.moved hW0.alike (hU.kept hS.2.1)
  have hN' : vx_Zq Bundle.tN "SUPPRESSED_SENTINEL" Bundle.listD A s' s'.heap := by rw [hhp]; exact vx_Zq.moved hW0.alike (hN.kept hS.2.1)
  have h : ∀ w ∈ Bundle.ownAtoms own ic cls names, w.before args s' = true := vx_own hat' (vx_isRefq hU'.1) (vx_isRefq hN'.1) hU'.2.word hN'.2.word
  have hown' : s'.vm.findClass own = some m.cls := by rw [hvm]; exact hown
  have hins : (Cond.instantiable cls 6).before args s' = true := h _ (by simp [Bundle.ownAtoms])
  obtain ⟨vm₁, cX, kX, hfX, hkX, -, -, X₁, st1⟩ := Y.newCold hexec (own := own) (C := cls) (index := ik) (n := 6) hown' hk' hins hini'
    (g := F0 m pc ls rest) rfl (by rw [hb]; exact d0) (Nat.le_refl _) (Nat.le_refl _)
  generalize hT1 : (T.setVm vm₁).pushCell { cls := cX, slots := kX.instanceTypes.map defaultValue, vm := .none } = T1 at X₁ st1
  have hcat : (Value.ref T.heap.size).category = 1 := rfl
  have hcellA : T1.heap[T.heap.size]? = some (freshCell cX kX) := by rw [← hT1]; exact State.heap_pushCell_size _ _
  have d3' : decode c.code (pc + 3) = .ok (.dup, 1) := by rw [hb]; exact d3
  have d4' : decode c.code (pc + 4) = .ok (.ldc is, 2) := by rw [hb]; exact d4
  have hstr' : vk_R own is text sa s' := vk_R.warm hW0 hstr
  obtain ⟨U, hsteps, hrun, hend, hW, hsame, ce, hce, hO⟩ := X₁.ctorThrowS hexec htr (own := own) (cls := cls) (names := names) (ic := ic) hown' hcls hnames h (fun x hx => nomatch hx) hfX hkX hcellA (by rw [hhp, hT]; exact Nat.le_refl _) (msg := .ref sa) rfl
    (g := { method := m, pc := pc + 6, locals := ls, stack := .ref sa :: .ref T.heap.size :: .ref T.heap.size :: rest, locked := none }) rfl hsize rfl rfl (rest := rest) rfl
    (by rw [hb]; exact d6) (by rw [hb]; exact d9) hout hRframes (by simp only [List.map_cons, List.sum_cons, hcat]; omega) hlocks
  obtain ⟨f1, f2⟩ := vx_frame hsame
  rw [hhp] at f1 f2
  have hWs : s.WarmedH U.vm := State.WarmedH.trans hW0 hW
  have hcl : s.vm.findClass cls = some ce.cls := by
    have h9 := hO.cls
    rw [hvm] at h9
    exact h9
  have hall : s.sameButNew ({ U with vm := s.vm } : State) locs mc ms := by
    subst hA
    obtain ⟨e1, e2⟩ := hsame
    rw [State.setFrames_setFrames] at e1
    have h2 : (T.setVm s.vm).sameButNew ({ U with vm := s.vm } : State) [] (0 + 1) (0 + 6) := ⟨e1, e2⟩
    have h3 := X.same.trans h2
    rw [List.append_nil] at h3
    exact h3.mono hc hs
  refine ⟨U, ?_, .threw T.heap.size, hrun, hend, Or.inr ⟨T.heap.size, rfl, cls, ce, locs, hx U hWs.alike f1 (fun q hq => f2 q hq (fun z hz => nomatch hz)), hce, hO.vm, hcl, hWs, hall, hf⟩⟩
  refine st1 _ ?_
  show Steps p.tables e below (T1.setTop { method := m, pc := pc + 3, locals := ls, stack := .ref T.heap.size :: rest, locked := none }) _
  jvm_step X₁.here [X₁.here.top, hexec, d3', Value.category]
  exact X₁.ldcString hexec (own := own) (text := text) (index := is) (a := sa) hown' hstr'.1 hstr'.2
    (g := { method := m, pc := pc + 4, locals := ls, stack := .ref T.heap.size :: .ref T.heap.size :: rest, locked := none }) rfl d4' _ hsteps
/-- 'throw new E("text")', the text by a wide index -/
theorem vx_throwSW {cc : ByteArray} {pc : Nat} (hexec : p.tables.exec = Jvm.exec) (hb : c.code = cc) (hl : l.stackTraces = false) {own cls text : String} {names : List String} {ik is ic mc ms sa : Nat} {A : Nat → Prop}
    (hown : s.vm.findClass own = some m.cls) (hcls : Bundle.fit cls = true) (hnames : ∀ n ∈ names, Bundle.fit n = true)
    (hk : (Cond.classLink own ik cls).before args s = true) (hini : (Cond.initialized cls).before args s = true) (hstr : vk_R own is text sa s) (hat : ∀ w ∈ vx_atS own ic cls names, w.before args s = true)
    (hgood : ∀ w ∈ Cond.classLink own ik cls :: Cond.initialized cls :: vx_atS own ic cls names, vx_ot w = true)
    (hU : vx_Zq Bundle.tN "UNASSIGNED_STACK" Bundle.steD A s s.heap) (hN : vx_Zq Bundle.tN "SUPPRESSED_SENTINEL" Bundle.listD A s s.heap) (hS : va_S A s.heap H locs) (hsize : ls.size = c.maxLocals)
    (d0 : decode cc pc = .ok (.new ik, 3)) (d3 : decode cc (pc + 3) = .ok (.dup, 1)) (d4 : decode cc (pc + 4) = .ok (.ldc_w is, 3)) (d7 : decode cc (pc + 7) = .ok (.invokespecial ic, 3)) (d10 : decode cc (pc + 10) = .ok (.athrow, 1))
    (hout : ∀ x ∈ c.exceptionTable.toList, covers x (pc + 10) = false)
    (hRframes : names.length + 3 < R.frames) (hRlocals : (rest.map fun v => v.category).sum + (13 * (names.length + 1) + 43) ≤ R.locals) (hRcells : cells + 1 ≤ R.cells) (hRslots : slots + 6 ≤ R.slots) (hlocks : meth.locks = false)
    (hx : ∀ t : State, s.vm.Alike t.vm → H.size ≤ t.heap.size → (∀ q : Nat, q < H.size → t.heap[q]? = H[q]?) → XC cls s t)
    (hf : ∀ z ∈ locs, free z.base) (hc : cells + 1 ≤ mc) (hs : slots + 6 ≤ ms) :
    W p l e R s m args below meth c H locs cells slots (vx_MQ below Qc XC args s mc ms free) (F0 m pc ls rest) := by
  intro T hT X
  have htr : e.platform.stackTraces = false := (show e.platform.stackTraces = l.stackTraces by rw [X.admits.platform]).trans hl
  have Y := vx_rebase X (R' := { frames := R.frames, locals := R.locals, cells := 1, slots := 6 }) (Nat.le_refl _) (Nat.le_refl _) hRcells hRslots
  obtain ⟨s', hA⟩ : ∃ z, z = (T.setVm s.vm).setFrames (.invoking m args :: below) := ⟨_, rfl⟩
  rw [← hA] at Y
  have hvm : s'.vm = s.vm := by rw [hA]; rfl
  have hhp : s'.heap = H := by rw [hA]; exact hT
  have hW0 : s.WarmedH s'.vm := by rw [hvm]; exact State.WarmedH.refl s
  have hat' : ∀ w ∈ vx_atS own ic cls names, w.before args s' = true := fun w hw => vx_ot_at hW0 hvm.symm (hgood w (List.mem_cons_of_mem _ (List.mem_cons_of_mem _ hw))) (hat w hw)
  have hk' : (Cond.classLink own ik cls).before args s' = true := vx_ot_at hW0 hvm.symm (hgood _ List.mem_cons_self) hk
  have hini' : (Cond.initialized cls).before args s' = true := vx_ot_at hW0 hvm.symm (hgood _ (List.mem_cons_of_mem _ List.mem_cons_self)) hini
  have hU' : vx_Zq Bundle.tN "UNASSIGNED_STACK" Bundle.steD A s' s'.heap := by rw [hhp]; exact vx_Zq.moved hW0.alike (hU.kept hS.2.1)
  have hN' : vx_Zq Bundle.tN "SUPPRESSED_SENTINEL" Bundle.listD A s' s'.heap := by rw [hhp]; exact vx_Zq.moved hW0.alike (hN.kept hS.2.1)
  have h : ∀ w ∈ Bundle.ownAtoms own ic cls names, w.before args s' = true := vx_own hat' (vx_isRefq hU'.1) (vx_isRefq hN'.1) hU'.2.word hN'.2.word
  have hown' : s'.vm.findClass own = some m.cls := by rw [hvm]; exact hown
  have hins : (Cond.instantiable cls 6).before args s' = true := h _ (by simp [Bundle.ownAtoms])
  obtain ⟨vm₁, cX, kX, hfX, hkX, -, -, X₁, st1⟩ := Y.newCold hexec (own := own) (C := cls) (index := ik) (n := 6) hown' hk' hins hini'
    (g := F0 m pc ls rest) rfl (by rw [hb]; exact d0) (Nat.le_refl _) (Nat.le_refl _)
  generalize hT1 : (T.setVm vm₁).pushCell { cls := cX, slots := kX.instanceTypes.map defaultValue, vm := .none } = T1 at X₁ st1
  have hcat : (Value.ref T.heap.size).category = 1 := rfl
  have hcellA : T1.heap[T.heap.size]? = some (freshCell cX kX) := by rw [← hT1]; exact State.heap_pushCell_size _ _
  have d3' : decode c.code (pc + 3) = .ok (.dup, 1) := by rw [hb]; exact d3
  have d4' : decode c.code (pc + 4) = .ok (.ldc_w is, 3) := by rw [hb]; exact d4
  have hstr' : vk_R own is text sa s' := vk_R.warm hW0 hstr
  obtain ⟨U, hsteps, hrun, hend, hW, hsame, ce, hce, hO⟩ := X₁.ctorThrowS hexec htr (own := own) (cls := cls) (names := names) (ic := ic) hown' hcls hnames h (fun x hx => nomatch hx) hfX hkX hcellA (by rw [hhp, hT]; exact Nat.le_refl _) (msg := .ref sa) rfl
    (g := { method := m, pc := pc + 7, locals := ls, stack := .ref sa :: .ref T.heap.size :: .ref T.heap.size :: rest, locked := none }) rfl hsize rfl rfl (rest := rest) rfl
    (by rw [hb]; exact d7) (by rw [hb]; exact d10) hout hRframes (by simp only [List.map_cons, List.sum_cons, hcat]; omega) hlocks
  obtain ⟨f1, f2⟩ := vx_frame hsame
  rw [hhp] at f1 f2
  have hWs : s.WarmedH U.vm := State.WarmedH.trans hW0 hW
  have hcl : s.vm.findClass cls = some ce.cls := by
    have h9 := hO.cls
    rw [hvm] at h9
    exact h9
  have hall : s.sameButNew ({ U with vm := s.vm } : State) locs mc ms := by
    subst hA
    obtain ⟨e1, e2⟩ := hsame
    rw [State.setFrames_setFrames] at e1
    have h2 : (T.setVm s.vm).sameButNew ({ U with vm := s.vm } : State) [] (0 + 1) (0 + 6) := ⟨e1, e2⟩
    have h3 := X.same.trans h2
    rw [List.append_nil] at h3
    exact h3.mono hc hs
  refine ⟨U, ?_, .threw T.heap.size, hrun, hend, Or.inr ⟨T.heap.size, rfl, cls, ce, locs, hx U hWs.alike f1 (fun q hq => f2 q hq (fun z hz => nomatch hz)), hce, hO.vm, hcl, hWs, hall, hf⟩⟩
  refine st1 _ ?_
  show Steps p.tables e below (T1.setTop { method := m, pc := pc + 3, locals := ls, stack := .ref T.heap.size :: rest, locked := none }) _
  jvm_step X₁.here [X₁.here.top, hexec, d3', Value.category]
  exact X₁.ldcStringW hexec (own := own) (text := text) (index := is) (a := sa) hown' hstr'.1 hstr'.2
    (g := { method := m, pc := pc + 4, locals := ls, stack := .ref T.heap.size :: .ref T.heap.size :: rest, locked := none }) rfl d4' _ hsteps
end Ends
section Bodies
variable {l : Launch}
theorem vx_ofW {y : MethodName} {ws ws' : List Cond} {rm : Room} {Pc : Array Value → State → Prop} {Qc : Array Value → State → Outcome → State → Prop} {XC : String → State → State → Prop} {mc ms : Nat} {free : Addr → Prop} {cc : ByteArray} {maxL : Nat} {ret : Option FieldType}
    (hy : plainName y.cls = true) (hw : ws = Cond.code y cc maxL ret :: ws')
    (body : ∀ p e s m args below meth c s₁, BodyLoose p l y (headSpec ws rm) cc maxL ret e s m args below meth c s₁ → c.maxLocals = maxL → (∀ x ∈ c.exceptionTable.toList, False) → Pc args s →
      W p l e (headSpec ws rm).room s m args below meth c s.heap [] 0 0 (vx_MQ below Qc XC args s mc ms free) (entryFrame m args maxL)) : vx_Met l y ws rm Pc Qc XC mc ms free := by
  refine MetFree.of_bodyS (code := cc) (maxLocals := maxL) (ret := ret) hy ?_ ?_
  · intro args s m h hn
    obtain ⟨meth, c, h1, h2, h3, h4, h5, h6, -, -⟩ := Cond.code_spec hn (atoms_spec (ws := ws) h _ (by rw [hw]; exact List.mem_cons_self))
    exact ⟨meth, c, h1, h2, h3, h4, h5, h6⟩
  · intro p e s m args below meth c s₁ B hml hP _
    have hh0 : s₁.heap = s.heap := by rw [B.state]; rfl
    have ht : ∀ x ∈ c.exceptionTable.toList, False := by
      obtain ⟨meth9, c9, h1, h2, -, -, -, -, h7, -⟩ := Cond.code_spec B.named (atoms_spec (ws := ws) B.pre _ (by rw [hw]; exact List.mem_cons_self))
      cases Option.some.inj (h1.symm.trans B.method)
      cases Option.some.inj (h2.symm.trans (Stand.of_body B).code)
      intro x hx
      rw [Array.isEmpty_iff.mp h7] at hx
      cases hx
    obtain ⟨t, a1, o, b1, b2, b3⟩ := body p e s m args below meth c s₁ B hml ht hP s₁ hh0 (Stand.of_body B)
    exact ⟨t, o, a1, b1, b2, b3⟩
/-- the table of a body with handlers -/
theorem vx_table {p : Program} {x y : MethodName} {S : Spec} {cc bytes : ByteArray} {maxL maxL' : Nat} {ret ret' : Option FieldType} {e : Env} {s s₁ : State} {m : MethodId} {args : Array Value} {below : List Frame} {meth : Method} {c : Code} {hh : List (Nat × Nat × Nat × Nat)}
    (B : BodyLoose p l y S cc maxL ret e s m args below meth c s₁) (h : (Cond.codeWith y bytes maxL' ret' hh).before args s = true) : c.exceptionTable.toList = tableOf hh := by
  obtain ⟨m9, meth9, c9, hn9, h1, h2, -, -, h6, -⟩ := Cond.codeWith_spec h
  cases Option.some.inj (hn9.symm.trans B.named)
  cases Option.some.inj (h1.symm.trans B.method)
  cases Option.some.inj (h2.symm.trans (Stand.of_body B).code)
  rw [← h6, table_eq]
end Bodies
end VXA
/-! ===== END ===== -/
/-! ===== BEGIN a static call of a method with an exception table ===== -/
section VXS
variable {p : Program} {l : Launch} {e : Env} {R : Room} {s : State} {m : MethodId} {args : Array Value} {below : List Frame} {meth : Method} {c : Code} {T : State} {H : Heap} {locs : List Loc} {cells slots : Nat}
abbrev vx_CSW (R : Room) (s : State) (args : Array Value) (own : String) (index : Nat) (y : MethodName) (bytes : ByteArray) (maxL : Nat) (ret : Option FieldType) (hh : List (Nat × Nat × Nat × Nat)) (ws : List Cond) (rm : Room) (mc ms n : Nat) : Prop :=
  (rm.cells = mc ∧ rm.slots = ms ∧ rm.frames + 1 ≤ R.frames ∧ 8 + (maxL + 11) + rm.locals ≤ R.locals ∧ (∀ w ∈ ws, ∀ (a' : Array Value) (U : State), s.WarmedH U.vm → w.before a' U = true) ∧ Cond.codeWith y bytes maxL ret hh ∈ ws) ∧
  (Cond.codeWith y bytes maxL ret hh).before args s = true ∧ (Cond.initialized y.cls).before args s = true ∧ (y.cls ≠ "java/lang/invoke/MethodHandle" ∧ y.cls ≠ "java/lang/invoke/VarHandle") ∧
  (∀ sig, parseMethodDescriptor y.desc = some sig → n = sig.parameters.length) ∧ (Cond.methodLink own index y).before args s = true ∧ (Cond.static y).before args s = true
theorem vx_cwSW {own : String} {index maxL mc ms : Nat} {y : MethodName} {bytes : ByteArray} {ret : Option FieldType} {hh : List (Nat × Nat × Nat × Nat)} {Ts ws ws' : List Cond} {rm : Room} (n : Nat) (ht : ∀ w ∈ Ts, w.before args s = true) (hT : GoodIn Ts (va_wsS own index y ws)) (hw : ws = Cond.codeWith y bytes maxL ret hh :: ws') (hrc : rm.cells = mc) (hrs : rm.slots = ms)
    (hd : y.cls ≠ "java/lang/invoke/MethodHandle" ∧ y.cls ≠ "java/lang/invoke/VarHandle" ∧ (parseMethodDescriptor y.desc).map (fun d => d.parameters.length) = some n) (hR : rm.frames + 1 ≤ R.frames ∧ 8 + (maxL + 11) + rm.locals ≤ R.locals) :
    vx_CSW R s args own index y bytes maxL ret hh ws rm mc ms n := by
  have ok : ∀ w ∈ va_wsS own index y ws, w.before args s = true := fun w h => ht w (hT w h).1
  have hG : GoodIn Ts ws := fun w h => hT w (by unfold va_wsS; exact List.mem_append_right _ h)
  have hc : Cond.codeWith y bytes maxL ret hh ∈ ws := by rw [hw]; exact List.mem_cons_self
  refine ⟨⟨hrc, hrs, hR.1, hR.2, pay_in ht hG, hc⟩, ht _ (hG _ hc).1, ok _ (by simp [va_wsS]), ⟨hd.1, hd.2.1⟩, fun sig h => ?_, ok _ (by simp [va_wsS]), ok _ (by simp [va_wsS])⟩
  have h2 := hd.2.2
  rw [h] at h2
  exact (Option.some.inj h2).symm
theorem vx_callSW (X : Stand p l e R s m args below meth c T locs cells slots) (hexec : p.tables.exec = Jvm.exec) {own : String} {index : Nat} {y : MethodName} {bytes : ByteArray} {maxL : Nat} {ret : Option FieldType} {hh : List (Nat × Nat × Nat × Nat)}
    (hown : s.vm.findClass own = some m.cls) (hlink : (Cond.methodLink own index y).before args s = true) (hstat : (Cond.static y).before args s = true) (hinit : (Cond.initialized y.cls).before args s = true)
    (hcode : (Cond.codeWith y bytes maxL ret hh).before args s = true) (hy : y.cls ≠ "java/lang/invoke/MethodHandle" ∧ y.cls ≠ "java/lang/invoke/VarHandle")
    {W9 : Nat} {Pre : Pt → Array Value → Prop} {Post : Pt → Array Value → Option Value → Pt → Prop} (hK : Back l R p e below s args y 3 W9 Pre Post)
    {g : JFrame} (hg : g.method = m) (hsize : g.locals.size = c.maxLocals) {argsL rest : List Value} (hlen : ∀ sig, parseMethodDescriptor y.desc = some sig → argsL.length = sig.parameters.length)
    (hstack : g.stack = argsL.reverse ++ rest) (hW : 2 * g.monitorRoom + (rest.map fun v => v.category).sum ≤ W9) (hdg : decode c.code g.pc = .ok (.invokestatic index, 3))
    (hpre : ∀ vm₁, s.WarmedH vm₁ → Pre ⟨T.setVm vm₁, locs, cells, slots⟩ argsL.toArray) :
    ∃ (v : Option Value) (vm₁ : Vm) (B : Pt), s.WarmedH vm₁ ∧ Stand p l e R s m args below meth c B.U B.locs B.cells B.slots ∧ Post ⟨T.setVm vm₁, locs, cells, slots⟩ argsL.toArray v B ∧
      ∀ target, Steps p.tables e below (B.U.setTop { g with pc := g.pc + 3, stack := v.toList ++ rest }) target → Steps p.tables e below (T.setTop g) target := by
  obtain ⟨mk, methM, cM, hnamed, hmethM, -, -, -, -, -, -, hsigM⟩ := Cond.codeWith_spec hcode
  have hstatic : methM.isStatic = true := Cond.static_spec hnamed hmethM hstat
  obtain ⟨kP, hkP, -⟩ := className_of_methodNamed hnamed
  have hinitP : kP.init = .initialized := Cond.initialized_spec (findClass_of_methodNamed hnamed) hkP hinit
  obtain ⟨vm₁, X₁, hstep₁⟩ := X.invokestatic hexec hown hlink hnamed hmethM hstatic hkP hinitP hy (g := g) hg (argsL := argsL) (rest := rest) (hlen _ hsigM) hstack hdg
  obtain ⟨v, B, X', hpost, hsteps⟩ := hK m meth c ⟨T.setVm vm₁, locs, cells, slots⟩ { g with stack := rest } (.invokestatic index) mk argsL.toArray X₁ hg hsize hdg hW (X₁.named hnamed) (hpre vm₁ X₁.warmed)
  exact ⟨v, vm₁, B, X₁.warmed, X', hpost, fun target h => hstep₁ _ fun acts => by rw [doInvoke_state]; exact hsteps.trans h⟩
theorem vx_runSW {y : MethodName} {bytes cc : ByteArray} {maxL nL mc ms n index : Nat} {ret : Option FieldType} {hh : List (Nat × Nat × Nat × Nat)} {ws : List Cond} {rm : Room} {Pc : Array Value → State → Prop} {Qc : Array Value → State → Outcome → State → Prop} {free : Addr → Prop} {Ts : List Cond} {own : String} {As rest : List Value} {g : JFrame}
    (S : CallFix p m c cc nL s args Ts own) (hM : Met l y ws rm Pc Qc mc ms free) (cw : vx_CSW R s args own index y bytes maxL ret hh ws rm mc ms n) (hp : PreS s H Pc As)
    (hg : g.method = m) (hn : As.length = n) (hsize : g.locals.size = nL) (hstack : g.stack = As.reverse ++ rest) (hW : 2 * g.monitorRoom + (rest.map fun v => v.category).sum ≤ 8) (hdg : decode cc g.pc = .ok (.invokestatic index, 3)) (hf : cells + mc ≤ R.cells ∧ slots + ms ≤ R.slots) :
    va_Run p l e R s m args below meth c H locs cells slots mc ms g rest (Qc As.toArray) (free) := by
  obtain ⟨⟨hrc, hrs, hfr, hlo, hws, hcw⟩, hcode, hini, hy, hlen, hl, hstt⟩ := cw
  have hK : Back l R p e below s args y 3 8 (PreOf R mc ms Pc) (PostOf Qc mc ms free) := va_backW (hh := hh) (bytes := bytes) (maxL := maxL) (ret := ret) hM hp.1 hrc hrs hfr hlo hws hcw (fun a' U hW => word_at hW (Or.inl (by first | rfl | simp [Cond.onTables, Cond.keeps, Cond.steady])) hini)
  obtain ⟨hx, hb, hml, ho, -⟩ := S
  intro T hT X
  obtain ⟨v, vm₁, ⟨U', l2, c2, s2⟩, hW₁, X', ⟨g', mk, t, L, e1, e2, hq, h1, hL, h2, h3⟩, st⟩ := vx_callSW X hx (hh := hh) (bytes := bytes) (maxL := maxL) (ret := ret) ho hl hstt hini hcode hy hK hg (hsize.trans hml.symm) (argsL := As) (rest := rest) (fun sig h => hn.trans (hlen sig h)) hstack hW (by rw [hb]; exact hdg)
    (fun vm₁ hW₁ => ⟨hf.1, hf.2, hp.2 (T.setVm vm₁) hT hW₁⟩)
  dsimp only [Pt.U, Pt.locs, Pt.cells, Pt.slots] at X' e1 e2 h1 h2 h3 st
  subst h1; subst h2; subst h3
  exact ⟨v, (T.setVm vm₁).calling g' mk As.toArray, t, U', L, hT, X', hL, e1, e2, hq, st⟩
/-- not caught here, past rows that name other classes: it goes on to the caller -/
theorem vx_outP {p : Program} {l : Launch} {e : Env} {R : Room} {s : State} {m : MethodId} {args : Array Value} {below : List Frame} {meth : Method} {c : Code} {H : Heap} {locs : List Loc} {cells slots : Nat} {free : Addr → Prop} {ls : Array Slot} {rest : List Value} {Qc : Array Value → State → Outcome → State → Prop} {XC : String → State → State → Prop}
    {pc : Nat} {own E : String} {ce : Cell} {q : Addr} {mc ms : Nat} (hown : s.vm.findClass own = some m.cls) (hlocks : meth.locks = false)
    (hpass : ∀ z ∈ c.exceptionTable.toList, covers z pc = false ∨ (z.catchType ≠ 0 ∧ ∃ nm : String, (Cond.classLink own z.catchType nm).before args s = true ∧ va_Nc E nm s)) (hcell : H[q]? = some ce) (hv : ce.vm = .none) (hcl : s.vm.findClass E = some ce.cls)
    (hx : ∀ t : State, t.heap = H → s.vm.Alike t.vm → XC E s t) (hf : ∀ z ∈ locs, free z.base) (hc : cells ≤ mc) (hs : slots ≤ ms) :
    vx_W p l e R s m args below meth c H locs cells slots (vx_MQ below Qc XC args s mc ms free) (F0 m pc ls rest) q := by
  intro T hT X
  have hpl : e.platform.magicAccessors = ({} : Platform).magicAccessors := by rw [X.admits.platform]
  obtain ⟨vm', hW', X', st⟩ := X.outThrough hlocks q (g := F0 m pc ls rest) rfl rfl rfl (cell := ce) (by rw [hT]; exact hcell) (by rw [hv]; rfl)
    (by obtain ⟨k9, h9, -⟩ := Vm.findClass_spec hcl; exact ⟨k9, h9⟩) (fun z hz => by
      rcases hpass z hz with h | ⟨hz0, nm, hl1, hn1⟩
      · exact Or.inl h
      · obtain ⟨c6, hc6, hcl6⟩ := Cond.classLink_spec hown hl1 e.platform hpl
        obtain ⟨a8, b8, h1, h2, h3⟩ := hn1
        cases Option.some.inj (h1.symm.trans hcl)
        cases Option.some.inj (h2.symm.trans hc6)
        exact Or.inr ⟨hz0, _, hcl6, h3⟩)
  obtain ⟨g₀, hfr⟩ := X'.frames_eq
  have hcell9 : ((T.setVm vm').setFrames (.throwing q :: below)).heap[q]? = some ce := by
    show T.heap[q]? = some ce
    rw [hT]; exact hcell
  have hend : Ended ((T.setVm vm').setFrames (.throwing q :: below)) below (.threw q) := State.frames_setFrames _ (State.cur_lt_of_frames hfr)
  refine ⟨(T.setVm vm').setFrames (.throwing q :: below), ?_, .threw q, X'.here.running, hend, Or.inr ⟨q, rfl, E, ce, locs, hx _ hT (X'.ends _).1.alike, hcell9, hv, hcl, (X'.ends _).1, (X'.ends _).2.mono hc hs, hf⟩⟩
  rw [X.pushThrowing_eq]
  exact st
/-- a thing of a world lies in the heap -/
theorem vx_lt {D : va_G} {cl : List vw_C} {ws : va_W} {H1 : Heap} (h : va_P D cl ws H1) {k : Nat} {q : Nat × va_E} (hk : ws[k]? = some q) : q.1 < H1.size := (h k q hk).lt
end VXS
/-! ===== END ===== -/
/-! ===== BEGIN methods with a table of their own: called by a name, returning or throwing ===== -/
section VXH
/-! vx_backW, vx_callVX, vx_callSX, vx_callVW, vx_runVW, vx_runVX, vx_runSX, vx_ofWH follow the same proofs as their sisters above (Free/Laws.lean, Shelf42/LK1.lean); vx_outP calls Shelf42/NT130.lean (outThrough). -/
section
variable {l : Launch} {R : Room} {p : Program} {e : Env} {below : List Frame} {s : State} {sargs : Array Value} {y : MethodName} {len W9 : Nat}
theorem vx_backW {ws : List Cond} {rm : Room} {Pc : Array Value → State → Prop} {Qc : Array Value → State → Outcome → State → Prop} {XC : String → State → State → Prop} {mc ms : Nat} {free : Addr → Prop} {bytes : ByteArray} {maxL : Nat} {ret : Option FieldType} {hh : List (Nat × Nat × Nat × Nat)}
    (hM : vx_Met l y ws rm Pc Qc XC mc ms free) (hblind : FrameBlind Pc) (hrc : rm.cells = mc) (hrs : rm.slots = ms)
    (hframes : rm.frames + 1 ≤ R.frames) (hlocals : W9 + (maxL + 11) + rm.locals ≤ R.locals)
    (hws : ∀ w ∈ ws, ∀ a' U, s.WarmedH U.vm → w.before a' U = true) (hcode : Cond.codeWith y bytes maxL ret hh ∈ ws) (hinit : ∀ a' U, s.WarmedH U.vm → (Cond.initialized y.cls).before a' U = true) :
    vx_Back l R p e below s sargs y len W9 (PreOf R mc ms Pc) (PostOf Qc mc ms free) (vx_Post XC mc ms free) := by
  intro m meth c A g ig mk a X hg hsize hdg hW hn hp
  have h1 : (headSpec ws rm).pre.before a A.U = true := atoms_intro fun w hw => hws w hw _ _ X.warmed
  have h2 : (Cond.codeWith y bytes maxL ret hh).before a A.U = true := hws _ hcode _ _ X.warmed
  have h3 : (Cond.initialized y.cls).before a A.U = true := hinit _ _ X.warmed
  have h4 : A.cells + (headSpec ws rm).room.cells ≤ R.cells := by rw [show (headSpec ws rm).room.cells = mc from hrc]; exact hp.1
  have h5 : A.slots + (headSpec ws rm).room.slots ≤ R.slots := by rw [show (headSpec ws rm).room.slots = ms from hrs]; exact hp.2.1
  have hPc : Pc a (A.U.calling g mk a) := hblind _ _ _ _ hp.2.2
  obtain ⟨U, Ls, c0, s0⟩ := A
  dsimp only [Pt.U, Pt.locs, Pt.cells, Pt.slots] at h1 h2 h3 h4 h5 X hn hPc ⊢
  obtain ⟨m9, methY, cY, hn9, hmY, hcY, -, hlY, -⟩ := Cond.codeWith_spec h2
  cases Option.some.inj (hn9.symm.trans hn)
  obtain ⟨kY, hkY, -⟩ := className_of_methodNamed hn
  have hinitY : kY.init = .initialized := Cond.initialized_spec (findClass_of_methodNamed hn) hkY h3
  have h : At U g.method c below := by rw [hg]; exact X.here
  have hlocals9 : W9 + (maxL + 11) + (headSpec ws rm).room.locals ≤ R.locals := hlocals
  have happ : (headSpec ws rm).appliesLoose y e.platform (U.calling g mk a) = true :=
    Spec.appliesLoose_calling (g := g) h hdg hn hkY hinitY
      (X.room_calling (g := g) (R' := (headSpec ws rm).room) hsize hmY hcY hframes (by rw [hlY]; omega) h4 h5) h1
  obtain ⟨mid, hmid⟩ := h.above
  have hfr : (U.setTop g).frames = (.java g :: mid) ++ below := by rw [State.frames_setTop' g h.top, hmid]; rfl
  obtain ⟨o, s₂, hsteps, -, hend, hq⟩ := Steps.callFree hM p X.admits X.cas X.clock (acts := []) hfr happ hPc trivial
  have hq' : vx_Q Qc XC mc ms free a (U.calling g mk a) o s₂ := hq
  rw [State.frames_setTop' g h.top] at hend
  obtain ⟨g₀, hg0⟩ := Option.isSome_iff_exists.mp h.top
  obtain ⟨r, hr⟩ := State.topJava?_eq_some.mp hg0
  have hr' : (({ U with heap := s₂.heap, slotsUsed := s₂.slotsUsed } : State).setVm s₂.vm).frames = .java g₀ :: r := hr
  rcases hq' with ⟨hqc, L, hfe, hL⟩ | ⟨q, rfl, E, ce, L, hx, hce, hcv, hcl, hW₂, hsm, hL⟩
  · obtain ⟨⟨v, rfl⟩, hW₂, e2, q2, q3, q4, q5, q6⟩ := id hfe
    have e3 : s₂ = ({ (U.calling g mk a).setFrames s₂.frames with heap := s₂.heap, slotsUsed := s₂.slotsUsed } : State).setVm s₂.vm := by
      have : s₂ = ({ s₂ with vm := (U.calling g mk a).vm } : State).setVm s₂.vm := rfl
      rw [e2] at this
      exact this
    obtain ⟨c₂, i₂, len₂, hc₂, hd₂, hf₂⟩ := hend
    have hW' : U.WarmedH s₂.vm := hW₂
    have hcc : c₂ = c := by
      have h1 : s₂.code? g.method = U.code? g.method := by
        rw [State.code?_eq, State.code?_eq, hW'.alike.method?]
      exact Option.some.inj (hc₂.symm.trans (h1.trans h.code))
    subst hcc
    have hlen : len₂ = len := by rw [hdg] at hd₂; cases hd₂; rfl
    subst hlen
    have hs₂ : s₂ = (({ U with heap := s₂.heap, slotsUsed := s₂.slotsUsed } : State).setVm s₂.vm).setTop { g with pc := g.pc + len₂, stack := v.toList ++ g.stack } := by
      refine e3.trans ?_
      rw [hf₂, State.calling_eq h.top, State.setFrames_setFrames, State.setTop_of_frames _ hr', hr]
      rfl
    have hsame : U.sameButNew ({ U with heap := s₂.heap, slotsUsed := s₂.slotsUsed } : State) L mc ms := by
      refine ⟨?_, q2, q3, q4, q5, q6⟩
      obtain ⟨t, ht, -⟩ := State.frames_cons hr
      show ({ U with heap := s₂.heap, slotsUsed := s₂.slotsUsed } : State) = { U.setFrames U.frames with heap := s₂.heap, slotsUsed := s₂.slotsUsed }
      rw [State.setFrames_self ht]
    subst hg
    refine Or.inl ⟨v, ⟨(({ U with heap := s₂.heap, slotsUsed := s₂.slotsUsed } : State).setVm s₂.vm), Ls ++ L, c0 + mc, s0 + ms⟩,
      ⟨X.admits, X.cas, X.clock, X.frames, X.room, X.hears, X.method, X.code, (X.here.setHeapUsed s₂.heap s₂.slotsUsed).setVm hW'.alike, X.tail, State.WarmedH.trans X.warmed hW', X.limits, X.bytes, X.same.trans (hsame.setVm s.vm)⟩,
      ⟨g, mk, s₂, L, rfl, rfl, hqc, rfl, hL, rfl, rfl⟩, ?_⟩
    show Steps p.tables e below _ ((({ U with heap := s₂.heap, slotsUsed := s₂.slotsUsed } : State).setVm s₂.vm).setTop { g with pc := g.pc + len₂, stack := v.toList ++ g.stack })
    rw [← hs₂]
    exact hsteps
  · obtain ⟨e2, q2, q3, q4, q5, q6⟩ := id hsm
    have e3 : s₂ = ({ (U.calling g mk a).setFrames s₂.frames with heap := s₂.heap, slotsUsed := s₂.slotsUsed } : State).setVm s₂.vm := by
      have : s₂ = ({ s₂ with vm := (U.calling g mk a).vm } : State).setVm s₂.vm := rfl
      rw [e2] at this
      exact this
    have hf₂ : s₂.frames = .throwing q :: .java g :: U.frames.tail := hend
    have hW' : U.WarmedH s₂.vm := hW₂
    have hs₂ : s₂ = ((({ U with heap := s₂.heap, slotsUsed := s₂.slotsUsed } : State).setVm s₂.vm).setTop g).pushFrame (.throwing q) := by
      refine e3.trans ?_
      rw [hf₂, State.calling_eq h.top, State.setFrames_setFrames, State.pushFrame, State.frames_setTop _ hr', State.setTop_of_frames _ hr', State.setFrames_setFrames, hr]
      rfl
    have hsame : U.sameButNew ({ U with heap := s₂.heap, slotsUsed := s₂.slotsUsed } : State) L mc ms := by
      refine ⟨?_, q2, q3, q4, q5, q6⟩
      obtain ⟨t, ht, -⟩ := State.frames_cons hr
      show ({ U with heap := s₂.heap, slotsUsed := s₂.slotsUsed } : State) = { U.setFrames U.frames with heap := s₂.heap, slotsUsed := s₂.slotsUsed }
      rw [State.setFrames_self ht]
    subst hg
    refine Or.inr ⟨q, ⟨(({ U with heap := s₂.heap, slotsUsed := s₂.slotsUsed } : State).setVm s₂.vm), Ls ++ L, c0 + mc, s0 + ms⟩,
      ⟨X.admits, X.cas, X.clock, X.frames, X.room, X.hears, X.method, X.code, (X.here.setHeapUsed s₂.heap s₂.slotsUsed).setVm hW'.alike, X.tail, State.WarmedH.trans X.warmed hW', X.limits, X.bytes, X.same.trans (hsame.setVm s.vm)⟩,
      ⟨g, mk, s₂, L, E, ce, rfl, rfl, hx, hce, hcv, hcl, rfl, hL, rfl, rfl⟩, ?_⟩
    show Steps p.tables e below _ (((({ U with heap := s₂.heap, slotsUsed := s₂.slotsUsed } : State).setVm s₂.vm).setTop g).pushFrame (.throwing q))
    rw [← hs₂]
    exact hsteps
end
variable {p : Program} {l : Launch} {e : Env} {R : Room} {s : State} {m : MethodId} {args : Array Value} {below : List Frame} {meth : Method} {c : Code} {T : State} {H : Heap} {locs : List Loc} {cells slots : Nat}
theorem vx_callVX (X : Stand p l e R s m args below meth c T locs cells slots) (hexec : p.tables.exec = Jvm.exec) {own C : String} {index : Nat} {y : MethodName} {bytes : ByteArray} {maxL : Nat} {ret : Option FieldType} {hh : List (Nat × Nat × Nat × Nat)}
    (hown : s.vm.findClass own = some m.cls) (hlink : (Cond.methodLink own index y).before args s = true) (hinst : (Cond.instanceMethod y).before args s = true) (hsel : (Cond.selects C y y).before args s = true)
    (hcode : (Cond.codeWith y bytes maxL ret hh).before args s = true) (hy : y.cls ≠ "java/lang/invoke/MethodHandle" ∧ y.cls ≠ "java/lang/invoke/VarHandle")
    {W9 : Nat} {Pre : Pt → Array Value → Prop} {Post : Pt → Array Value → Option Value → Pt → Prop} {PostX : Pt → Array Value → Addr → Pt → Prop} (hK : vx_Back l R p e below s args y 3 W9 Pre Post PostX)
    {b : Addr} {cellB : Cell} (hcell : T.heap[b]? = some cellB) (hobj : cellB.vm.isStatics = false) (hcls : s.vm.findClass C = some cellB.cls)
    {g : JFrame} (hg : g.method = m) (hsize : g.locals.size = c.maxLocals) {argsL rest : List Value} (hlen : ∀ sig, parseMethodDescriptor y.desc = some sig → argsL.length = sig.parameters.length)
    (hstack : g.stack = argsL.reverse ++ .ref b :: rest) (hW : 2 * g.monitorRoom + (rest.map fun v => v.category).sum ≤ W9) (hdg : decode c.code g.pc = .ok (.invokevirtual index, 3))
    (hpre : ∀ vm₁, s.WarmedH vm₁ → Pre ⟨T.setVm vm₁, locs, cells, slots⟩ (Value.ref b :: argsL).toArray) :
    (∃ (v : Option Value) (vm₁ : Vm) (B : Pt), s.WarmedH vm₁ ∧ Stand p l e R s m args below meth c B.U B.locs B.cells B.slots ∧ Post ⟨T.setVm vm₁, locs, cells, slots⟩ (Value.ref b :: argsL).toArray v B ∧
      ∀ target, Steps p.tables e below (B.U.setTop { g with pc := g.pc + 3, stack := v.toList ++ rest }) target → Steps p.tables e below (T.setTop g) target) ∨
    (∃ (q : Addr) (vm₁ : Vm) (B : Pt), s.WarmedH vm₁ ∧ Stand p l e R s m args below meth c B.U B.locs B.cells B.slots ∧ PostX ⟨T.setVm vm₁, locs, cells, slots⟩ (Value.ref b :: argsL).toArray q B ∧
      Steps p.tables e below (T.setTop g) ((B.U.setTop { g with stack := rest }).pushFrame (.throwing q))) := by
  obtain ⟨mk, methM, hnamed, hmethM, hstM, habM⟩ := Cond.instanceMethod_spec hinst
  obtain ⟨m8, methM', cM, hn8, hmethM', -, -, -, -, -, -, hsigM⟩ := Cond.codeWith_spec hcode
  cases Option.some.inj (hn8.symm.trans hnamed)
  cases hmethM.symm.trans hmethM'
  obtain ⟨c2, r2, m2, q1, q2, q3, q4, kP, hkP, hkPi⟩ := Cond.selects_spec hsel
  cases hcls.symm.trans q1
  cases (State.methodFound?_of_named hnamed hy).symm.trans q2
  cases hnamed.symm.trans q3
  have hselP : selectMethod e.platform s.vm cellB.cls mk = .method mk := by rw [Launch.admits_selectMethod X.admits]; exact q4
  obtain ⟨vm₁, X₁, hstep₁⟩ := X.invokevirtual hexec hown hlink hnamed hmethM hstM hkP hkPi hy (a := b) (cell := cellB) hcell
    (fun z h => by rw [h] at hobj; cases hobj) hselP hmethM habM hkP hkPi (g := g) hg (argsL := argsL) (rest := rest) (hlen _ hsigM) hstack hdg
  rcases hK m meth c ⟨T.setVm vm₁, locs, cells, slots⟩ { g with stack := rest } (.invokevirtual index) mk (Value.ref b :: argsL).toArray X₁ hg hsize hdg hW (X₁.named hnamed) (hpre vm₁ X₁.warmed) with ⟨v, B, X', hpost, hsteps⟩ | ⟨q, B, X', hpost, hsteps⟩
  · exact Or.inl ⟨v, vm₁, B, X₁.warmed, X', hpost, fun target h => hstep₁ _ fun acts => by rw [doInvoke_state]; exact hsteps.trans h⟩
  · exact Or.inr ⟨q, vm₁, B, X₁.warmed, X', hpost, hstep₁ _ fun acts => by rw [doInvoke_state]; exact hsteps⟩
theorem vx_callSX (X : Stand p l e R s m args below meth c T locs cells slots) (hexec : p.tables.exec = Jvm.exec) {own : String} {index : Nat} {y : MethodName} {bytes : ByteArray} {maxL : Nat} {ret : Option FieldType} {hh : List (Nat × Nat × Nat × Nat)}
    (hown : s.vm.findClass own = some m.cls) (hlink : (Cond.methodLink own index y).before args s = true) (hstat : (Cond.static y).before args s = true) (hinit : (Cond.initialized y.cls).before args s = true)
    (hcode : (Cond.codeWith y bytes maxL ret hh).before args s = true) (hy : y.cls ≠ "java/lang/invoke/MethodHandle" ∧ y.cls ≠ "java/lang/invoke/VarHandle")
    {W9 : Nat} {Pre : Pt → Array Value → Prop} {Post : Pt → Array Value → Option Value → Pt → Prop} {PostX : Pt → Array Value → Addr → Pt → Prop} (hK : vx_Back l R p e below s args y 3 W9 Pre Post PostX)
    {g : JFrame} (hg : g.method = m) (hsize : g.locals.size = c.maxLocals) {argsL rest : List Value} (hlen : ∀ sig, parseMethodDescriptor y.desc = some sig → argsL.length = sig.parameters.length)
    (hstack : g.stack = argsL.reverse ++ rest) (hW : 2 * g.monitorRoom + (rest.map fun v => v.category).sum ≤ W9) (hdg : decode c.code g.pc = .ok (.invokestatic index, 3))
    (hpre : ∀ vm₁, s.WarmedH vm₁ → Pre ⟨T.setVm vm₁, locs, cells, slots⟩ argsL.toArray) :
    (∃ (v : Option Value) (vm₁ : Vm) (B : Pt), s.WarmedH vm₁ ∧ Stand p l e R s m args below meth c B.U B.locs B.cells B.slots ∧ Post ⟨T.setVm vm₁, locs, cells, slots⟩ argsL.toArray v B ∧
      ∀ target, Steps p.tables e below (B.U.setTop { g with pc := g.pc + 3, stack := v.toList ++ rest }) target → Steps p.tables e below (T.setTop g) target) ∨
    (∃ (q : Addr) (vm₁ : Vm) (B : Pt), s.WarmedH vm₁ ∧ Stand p l e R s m args below meth c B.U B.locs B.cells B.slots ∧ PostX ⟨T.setVm vm₁, locs, cells, slots⟩ argsL.toArray q B ∧
      Steps p.tables e below (T.setTop g) ((B.U.setTop { g with stack := rest }).pushFrame (.throwing q))) := by
  obtain ⟨mk, methM, cM, hnamed, hmethM, -, -, -, -, -, -, hsigM⟩ := Cond.codeWith_spec hcode
  have hstatic : methM.isStatic = true := Cond.static_spec hnamed hmethM hstat
  obtain ⟨kP, hkP, -⟩ := className_of_methodNamed hnamed
  have hinitP : kP.init = .initialized := Cond.initialized_spec (findClass_of_methodNamed hnamed) hkP hinit
  obtain ⟨vm₁, X₁, hstep₁⟩ := X.invokestatic hexec hown hlink hnamed hmethM hstatic hkP hinitP hy (g := g) hg (argsL := argsL) (rest := rest) (hlen _ hsigM) hstack hdg
  rcases hK m meth c ⟨T.setVm vm₁, locs, cells, slots⟩ { g with stack := rest } (.invokestatic index) mk argsL.toArray X₁ hg hsize hdg hW (X₁.named hnamed) (hpre vm₁ X₁.warmed) with ⟨v, B, X', hpost, hsteps⟩ | ⟨q, B, X', hpost, hsteps⟩
  · exact Or.inl ⟨v, vm₁, B, X₁.warmed, X', hpost, fun target h => hstep₁ _ fun acts => by rw [doInvoke_state]; exact hsteps.trans h⟩
  · exact Or.inr ⟨q, vm₁, B, X₁.warmed, X', hpost, hstep₁ _ fun acts => by rw [doInvoke_state]; exact hsteps⟩
theorem vx_callVW (X : Stand p l e R s m args below meth c T locs cells slots) (hexec : p.tables.exec = Jvm.exec) {own C : String} {index : Nat} {y : MethodName} {bytes : ByteArray} {maxL : Nat} {ret : Option FieldType} {hh : List (Nat × Nat × Nat × Nat)}
    (hown : s.vm.findClass own = some m.cls) (hlink : (Cond.methodLink own index y).before args s = true) (hinst : (Cond.instanceMethod y).before args s = true) (hsel : (Cond.selects C y y).before args s = true)
    (hcode : (Cond.codeWith y bytes maxL ret hh).before args s = true) (hy : y.cls ≠ "java/lang/invoke/MethodHandle" ∧ y.cls ≠ "java/lang/invoke/VarHandle")
    {W9 : Nat} {Pre : Pt → Array Value → Prop} {Post : Pt → Array Value → Option Value → Pt → Prop} (hK : Back l R p e below s args y 3 W9 Pre Post)
    {b : Addr} {cellB : Cell} (hcell : T.heap[b]? = some cellB) (hobj : cellB.vm.isStatics = false) (hcls : s.vm.findClass C = some cellB.cls)
    {g : JFrame} (hg : g.method = m) (hsize : g.locals.size = c.maxLocals) {argsL rest : List Value} (hlen : ∀ sig, parseMethodDescriptor y.desc = some sig → argsL.length = sig.parameters.length)
    (hstack : g.stack = argsL.reverse ++ .ref b :: rest) (hW : 2 * g.monitorRoom + (rest.map fun v => v.category).sum ≤ W9) (hdg : decode c.code g.pc = .ok (.invokevirtual index, 3))
    (hpre : ∀ vm₁, s.WarmedH vm₁ → Pre ⟨T.setVm vm₁, locs, cells, slots⟩ (Value.ref b :: argsL).toArray) :
    ∃ (v : Option Value) (vm₁ : Vm) (B : Pt), s.WarmedH vm₁ ∧ Stand p l e R s m args below meth c B.U B.locs B.cells B.slots ∧ Post ⟨T.setVm vm₁, locs, cells, slots⟩ (Value.ref b :: argsL).toArray v B ∧
      ∀ target, Steps p.tables e below (B.U.setTop { g with pc := g.pc + 3, stack := v.toList ++ rest }) target → Steps p.tables e below (T.setTop g) target := by
  obtain ⟨mk, methM, hnamed, hmethM, hstM, habM⟩ := Cond.instanceMethod_spec hinst
  obtain ⟨m8, methM', cM, hn8, hmethM', -, -, -, -, -, -, hsigM⟩ := Cond.codeWith_spec hcode
  cases Option.some.inj (hn8.symm.trans hnamed)
  cases hmethM.symm.trans hmethM'
  obtain ⟨c2, r2, m2, q1, q2, q3, q4, kP, hkP, hkPi⟩ := Cond.selects_spec hsel
  cases hcls.symm.trans q1
  cases (State.methodFound?_of_named hnamed hy).symm.trans q2
  cases hnamed.symm.trans q3
  have hselP : selectMethod e.platform s.vm cellB.cls mk = .method mk := by rw [Launch.admits_selectMethod X.admits]; exact q4
  obtain ⟨vm₁, X₁, hstep₁⟩ := X.invokevirtual hexec hown hlink hnamed hmethM hstM hkP hkPi hy (a := b) (cell := cellB) hcell
    (fun z h => by rw [h] at hobj; cases hobj) hselP hmethM habM hkP hkPi (g := g) hg (argsL := argsL) (rest := rest) (hlen _ hsigM) hstack hdg
  obtain ⟨v, B, X', hpost, hsteps⟩ := hK m meth c ⟨T.setVm vm₁, locs, cells, slots⟩ { g with stack := rest } (.invokevirtual index) mk (Value.ref b :: argsL).toArray X₁ hg hsize hdg hW (X₁.named hnamed) (hpre vm₁ X₁.warmed)
  exact ⟨v, vm₁, B, X₁.warmed, X', hpost, fun target h => hstep₁ _ fun acts => by rw [doInvoke_state]; exact hsteps.trans h⟩
abbrev vx_CVW (R : Room) (s : State) (args : Array Value) (own C : String) (index : Nat) (y : MethodName) (bytes : ByteArray) (maxL : Nat) (ret : Option FieldType) (hh : List (Nat × Nat × Nat × Nat)) (ws : List Cond) (rm : Room) (mc ms n : Nat) : Prop :=
  (rm.cells = mc ∧ rm.slots = ms ∧ rm.frames + 1 ≤ R.frames ∧ 8 + (maxL + 11) + rm.locals ≤ R.locals ∧ (∀ w ∈ ws, ∀ (a' : Array Value) (U : State), s.WarmedH U.vm → w.before a' U = true) ∧ Cond.codeWith y bytes maxL ret hh ∈ ws) ∧
  (Cond.codeWith y bytes maxL ret hh).before args s = true ∧ (Cond.initialized y.cls).before args s = true ∧ (y.cls ≠ "java/lang/invoke/MethodHandle" ∧ y.cls ≠ "java/lang/invoke/VarHandle") ∧
  (∀ sig, parseMethodDescriptor y.desc = some sig → n = sig.parameters.length) ∧ (Cond.methodLink own index y).before args s = true ∧ (Cond.instanceMethod y).before args s = true ∧ (Cond.selects C y y).before args s = true
theorem vx_cwVW {own C : String} {index maxL mc ms : Nat} {y : MethodName} {bytes : ByteArray} {ret : Option FieldType} {hh : List (Nat × Nat × Nat × Nat)} {Ts ws ws' : List Cond} {rm : Room} (n : Nat) (ht : ∀ w ∈ Ts, w.before args s = true) (hT : GoodIn Ts (wsV own index C y ws)) (hw : ws = Cond.codeWith y bytes maxL ret hh :: ws') (hrc : rm.cells = mc) (hrs : rm.slots = ms)
    (hd : y.cls = C ∧ y.cls ≠ "java/lang/invoke/MethodHandle" ∧ y.cls ≠ "java/lang/invoke/VarHandle" ∧ (parseMethodDescriptor y.desc).map (fun d => d.parameters.length) = some n) (hR : rm.frames + 1 ≤ R.frames ∧ 8 + (maxL + 11) + rm.locals ≤ R.locals) :
    vx_CVW R s args own C index y bytes maxL ret hh ws rm mc ms n := by
  obtain ⟨hC, hd⟩ := hd
  subst hC
  have ok : ∀ w ∈ wsV own index y.cls y ws, w.before args s = true := fun w h => ht w (hT w h).1
  have hG : GoodIn Ts ws := fun w h => hT w (by unfold wsV; exact List.mem_append_right _ h)
  have hc : Cond.codeWith y bytes maxL ret hh ∈ ws := by rw [hw]; exact List.mem_cons_self
  refine ⟨⟨hrc, hrs, hR.1, hR.2, pay_in ht hG, hc⟩, ht _ (hG _ hc).1, ok _ (by simp [wsV]), ⟨hd.1, hd.2.1⟩, fun sig h => ?_, ok _ (by simp [wsV]), ok _ (by simp [wsV]), ok _ (by simp [wsV])⟩
  have h2 := hd.2.2
  rw [h] at h2
  exact (Option.some.inj h2).symm
theorem vx_runVW {y : MethodName} {bytes cc : ByteArray} {maxL nL mc ms n index : Nat} {ret : Option FieldType} {hh : List (Nat × Nat × Nat × Nat)} {ws : List Cond} {rm : Room} {Pc : Array Value → State → Prop} {Qc : Array Value → State → Outcome → State → Prop} {free : Addr → Prop} {Ts : List Cond} {own C : String} {b : Addr} {As rest : List Value} {g : JFrame}
    (S : CallFix p m c cc nL s args Ts own) (hM : Met l y ws rm Pc Qc mc ms free) (cw : vx_CVW R s args own C index y bytes maxL ret hh ws rm mc ms n) (hp : PreV s H C b Pc As)
    (hg : g.method = m) (hn : As.length = n) (hsize : g.locals.size = nL) (hstack : g.stack = As.reverse ++ .ref b :: rest) (hW : 2 * g.monitorRoom + (rest.map fun v => v.category).sum ≤ 8) (hdg : decode cc g.pc = .ok (.invokevirtual index, 3)) (hf : cells + mc ≤ R.cells ∧ slots + ms ≤ R.slots) :
    va_Run p l e R s m args below meth c H locs cells slots mc ms g rest (Qc (Value.ref b :: As).toArray) free := by
  obtain ⟨⟨hrc, hrs, hfr, hlo, hws, hcw⟩, hcode, hini, hy, hlen, hl, hin, hse⟩ := cw
  have hK : Back l R p e below s args y 3 8 (PreOf R mc ms Pc) (PostOf Qc mc ms free) := va_backW (hh := hh) (bytes := bytes) (maxL := maxL) (ret := ret) hM hp.1 hrc hrs hfr hlo hws hcw (fun a' U hW => word_at hW (Or.inl (by first | rfl | simp [Cond.onTables, Cond.keeps, Cond.steady])) hini)
  obtain ⟨hx, hb, hml, ho, -⟩ := S
  obtain ⟨-, ⟨cellB, hcB, hoB, hclB⟩, hPc⟩ := hp
  intro T hT X
  obtain ⟨v, vm₁, ⟨U', l2, c2, s2⟩, hW₁, X', ⟨g', mk, t, L, e1, e2, hq, h1, hL, h2, h3⟩, st⟩ := vx_callVW X hx (C := C) (hh := hh) (bytes := bytes) (maxL := maxL) (ret := ret) ho hl hin hse hcode hy hK (by rw [hT]; exact hcB) hoB hclB hg (hsize.trans hml.symm) (argsL := As) (rest := rest) (fun sig h => hn.trans (hlen sig h)) hstack hW (by rw [hb]; exact hdg)
    (fun vm₁ hW₁ => ⟨hf.1, hf.2, hPc (T.setVm vm₁) hT hW₁⟩)
  dsimp only [Pt.U, Pt.locs, Pt.cells, Pt.slots] at X' e1 e2 h1 h2 h3 st
  subst h1; subst h2; subst h3
  exact ⟨v, (T.setVm vm₁).calling g' mk (Value.ref b :: As).toArray, t, U', L, hT, X', hL, e1, e2, hq, st⟩
section
variable {y : MethodName} {bytes cc : ByteArray} {maxL nL mc ms n index : Nat} {ret : Option FieldType} {ws : List Cond} {rm : Room} {Pc : Array Value → State → Prop} {Qc : Array Value → State → Outcome → State → Prop} {XC : String → State → State → Prop} {free : Addr → Prop} {Ts : List Cond} {own C : String} {b : Addr} {As rest : List Value} {g : JFrame}
theorem vx_runVX {hh : List (Nat × Nat × Nat × Nat)} (S : CallFix p m c cc nL s args Ts own) (hM : vx_Met l y ws rm Pc Qc XC mc ms free) (cw : vx_CVW R s args own C index y bytes maxL ret hh ws rm mc ms n) (hp : PreV s H C b Pc As)
    (hg : g.method = m) (hn : As.length = n) (hsize : g.locals.size = nL) (hstack : g.stack = As.reverse ++ .ref b :: rest) (hW : 2 * g.monitorRoom + (rest.map fun v => v.category).sum ≤ 8) (hdg : decode cc g.pc = .ok (.invokevirtual index, 3)) (hf : cells + mc ≤ R.cells ∧ slots + ms ≤ R.slots) :
    vx_Run p l e R s m args below meth c H locs cells slots mc ms g rest (Qc (Value.ref b :: As).toArray) XC free := by
  obtain ⟨⟨hrc, hrs, hfr, hlo, hws, hcw⟩, hcode, hini, hy, hlen, hl, hin, hse⟩ := cw
  have hK : vx_Back l R p e below s args y 3 8 (PreOf R mc ms Pc) (PostOf Qc mc ms free) (vx_Post XC mc ms free) := vx_backW (hh := hh) (bytes := bytes) (maxL := maxL) (ret := ret) hM hp.1 hrc hrs hfr hlo hws hcw (fun a' U hW => word_at hW (Or.inl (by first | rfl | simp [Cond.onTables, Cond.keeps, Cond.steady])) hini)
  obtain ⟨hx, hb, hml, ho, -⟩ := S
  obtain ⟨-, ⟨cellB, hcB, hoB, hclB⟩, hPc⟩ := hp
  intro T hT X
  rcases vx_callVX X hx (C := C) (hh := hh) (bytes := bytes) (maxL := maxL) (ret := ret) ho hl hin hse hcode hy hK (by rw [hT]; exact hcB) hoB hclB hg (hsize.trans hml.symm) (argsL := As) (rest := rest) (fun sig h => hn.trans (hlen sig h)) hstack hW (by rw [hb]; exact hdg)
    (fun vm₁ hW₁ => ⟨hf.1, hf.2, hPc (T.setVm vm₁) hT hW₁⟩) with ⟨v, vm₁, ⟨U', l2, c2, s2⟩, hW₁, X', ⟨g', mk, t, L, e1, e2, hq, h1, hL, h2, h3⟩, st⟩ | ⟨q, vm₁, ⟨U', l2, c2, s2⟩, hW₁, X', ⟨g', mk, t, L, E, ce, e1, e2, hq, hce, hcv, hcl, h1, hL, h2, h3⟩, st⟩
  · dsimp only [Pt.U, Pt.locs, Pt.cells, Pt.slots] at X' e1 e2 h1 h2 h3 st
    subst h1; subst h2; subst h3
    exact Or.inl ⟨v, (T.setVm vm₁).calling g' mk (Value.ref b :: As).toArray, t, U', L, hT, X', hL, e1, e2, hq, st⟩
  · dsimp only [Pt.U, Pt.locs, Pt.cells, Pt.slots] at X' e1 e2 h1 h2 h3 st hcl
    subst h1; subst h2; subst h3
    exact Or.inr ⟨q, (T.setVm vm₁).calling g' mk (Value.ref b :: As).toArray, t, U', L, E, ce, hT, X', hL, e1, e2, hq, hce, hcv, vx_cls hW₁ hcl, st⟩
theorem vx_runSX {hh : List (Nat × Nat × Nat × Nat)} (S : CallFix p m c cc nL s args Ts own) (hM : vx_Met l y ws rm Pc Qc XC mc ms free) (cw : vx_CSW R s args own index y bytes maxL ret hh ws rm mc ms n) (hp : PreS s H Pc As)
    (hg : g.method = m) (hn : As.length = n) (hsize : g.locals.size = nL) (hstack : g.stack = As.reverse ++ rest) (hW : 2 * g.monitorRoom + (rest.map fun v => v.category).sum ≤ 8) (hdg : decode cc g.pc = .ok (.invokestatic index, 3)) (hf : cells + mc ≤ R.cells ∧ slots + ms ≤ R.slots) :
    vx_Run p l e R s m args below meth c H locs cells slots mc ms g rest (Qc As.toArray) XC free := by
  obtain ⟨⟨hrc, hrs, hfr, hlo, hws, hcw⟩, hcode, hini, hy, hlen, hl, hstt⟩ := cw
  have hK : vx_Back l R p e below s args y 3 8 (PreOf R mc ms Pc) (PostOf Qc mc ms free) (vx_Post XC mc ms free) := vx_backW (hh := hh) (bytes := bytes) (maxL := maxL) (ret := ret) hM hp.1 hrc hrs hfr hlo hws hcw (fun a' U hW => word_at hW (Or.inl (by first | rfl | simp [Cond.onTables, Cond.keeps, Cond.steady])) hini)
  obtain ⟨hx, hb, hml, ho, -⟩ := S
  intro T hT X
  rcases vx_callSX X hx (hh := hh) (bytes := bytes) (maxL := maxL) (ret := ret) ho hl hstt hini hcode hy hK hg (hsize.trans hml.symm) (argsL := As) (rest := rest) (fun sig h => hn.trans (hlen sig h)) hstack hW (by rw [hb]; exact hdg)
    (fun vm₁ hW₁ => ⟨hf.1, hf.2, hp.2 (T.setVm vm₁) hT hW₁⟩) with ⟨v, vm₁, ⟨U', l2, c2, s2⟩, hW₁, X', ⟨g', mk, t, L, e1, e2, hq, h1, hL, h2, h3⟩, st⟩ | ⟨q, vm₁, ⟨U', l2, c2, s2⟩, hW₁, X', ⟨g', mk, t, L, E, ce, e1, e2, hq, hce, hcv, hcl, h1, hL, h2, h3⟩, st⟩
  · dsimp only [Pt.U, Pt.locs, Pt.cells, Pt.slots] at X' e1 e2 h1 h2 h3 st
    subst h1; subst h2; subst h3
    exact Or.inl ⟨v, (T.setVm vm₁).calling g' mk As.toArray, t, U', L, hT, X', hL, e1, e2, hq, st⟩
  · dsimp only [Pt.U, Pt.locs, Pt.cells, Pt.slots] at X' e1 e2 h1 h2 h3 st hcl
    subst h1; subst h2; subst h3
    exact Or.inr ⟨q, (T.setVm vm₁).calling g' mk As.toArray, t, U', L, E, ce, hT, X', hL, e1, e2, hq, hce, hcv, vx_cls hW₁ hcl, st⟩
end
end VXH
theorem vx_ofWH {l : Launch} {y : MethodName} {ws ws' : List Cond} {rm : Room} {Pc : Array Value → State → Prop} {Qc : Array Value → State → Outcome → State → Prop} {XC : String → State → State → Prop} {mc ms : Nat} {free : Addr → Prop} {cc : ByteArray} {maxL : Nat} {ret : Option FieldType} {hh : List (Nat × Nat × Nat × Nat)}
    (hy : plainName y.cls = true) (hw : ws = Cond.codeWith y cc maxL ret hh :: ws')
    (body : ∀ p e s m args below meth c s₁, BodyLoose p l y (headSpec ws rm) cc maxL ret e s m args below meth c s₁ → c.maxLocals = maxL → Pc args s →
      W p l e (headSpec ws rm).room s m args below meth c s.heap [] 0 0 (vx_MQ below Qc XC args s mc ms free) (entryFrame m args maxL)) : vx_Met l y ws rm Pc Qc XC mc ms free := by
  refine MetFree.of_bodyS (code := cc) (maxLocals := maxL) (ret := ret) hy ?_ ?_
  · intro args s m h hn
    obtain ⟨m9, meth, c, hn9, h1, h2, h3, h4, -, h5, h6, -⟩ := Cond.codeWith_spec (atoms_spec (ws := ws) h _ (by rw [hw]; exact List.mem_cons_self))
    cases hn.symm.trans hn9
    exact ⟨meth, c, h1, h2, h3, h4, h5, h6⟩
  · intro p e s m args below meth c s₁ B hml hP _
    have hh0 : s₁.heap = s.heap := by rw [B.state]; rfl
    obtain ⟨t, a1, o, b1, b2, b3⟩ := body p e s m args below meth c s₁ B hml hP s₁ hh0 (Stand.of_body B)
    exact ⟨t, o, a1, b1, b2, b3⟩
/-! ===== END ===== -/

/-! ===== BEGIN printed: names, fields, word lists, decode rows ===== -/
def RX0 : String := "TarockHall$Bidding"
def TX0 : u_T := fun k => match k with
  | 0 => ("TarockHall$Bidding", "passed", "I", false)
  | 1 => ("TarockHall$Bidding", "highest", "I", false)
  | _ => ("TarockHall$Bidding", "bidder", "I", false)
def tyX0 : Nat → FieldType := fun k => match k with
  | 0 => .int
  | 1 => .int
  | _ => .int
abbrev wsX00 : List Cond := u_ws RX0 TX0 3
theorem nmX0 : ∀ a, a < 3 → ∀ b, b < 3 → a ≠ b → (TX0 a).2.1 ≠ (TX0 b).2.1 := by decide +kernel
theorem tyX0_ok : ∀ k, k < 3 → parseFieldDescriptor (TX0 k).2.2.1 = some (tyX0 k) := by decide +kernel
abbrev cX0_init : ByteArray := prog_2_method_1_code
def yX0_init : MethodName := ⟨RX0, "<init>", "()V"⟩
abbrev cX0_clear : ByteArray := prog_2_method_2_code
def yX0_clear : MethodName := ⟨RX0, "clear", "()V"⟩
abbrev cX0_enter : ByteArray := prog_2_method_3_code
def yX0_enter : MethodName := ⟨RX0, "enter", "(II)V"⟩
abbrev cX0_allPassed : ByteArray := prog_2_method_4_code
def yX0_allPassed : MethodName := ⟨RX0, "allPassed", "()Z"⟩
abbrev cX0_isSettled : ByteArray := prog_2_method_5_code
def yX0_isSettled : MethodName := ⟨RX0, "isSettled", "()Z"⟩
abbrev cX0_nextBehind : ByteArray := prog_2_method_6_code
def yX0_nextBehind : MethodName := ⟨RX0, "nextBehind", "(I)I"⟩
abbrev cX0_hasPassed : ByteArray := prog_2_method_7_code
def yX0_hasPassed : MethodName := ⟨RX0, "hasPassed", "(I)Z"⟩
def RX1 : String := "TarockHall$Deck"
def TX1 : u_T := fun k => match k with
  | _ => ("TarockHall$Deck", "row", "LTarockHall$Row;", true)
def tyX1 : Nat → FieldType := fun k => match k with
  | _ => .object "TarockHall$Row"
abbrev wsX10 : List Cond := u_ws RX1 TX1 1
theorem nmX1 : ∀ a, a < 1 → ∀ b, b < 1 → a ≠ b → (TX1 a).2.1 ≠ (TX1 b).2.1 := by decide +kernel
theorem tyX1_ok : ∀ k, k < 1 → parseFieldDescriptor (TX1 k).2.2.1 = some (tyX1 k) := by decide +kernel
abbrev cX1_init : ByteArray := prog_3_method_1_code
def yX1_init : MethodName := ⟨RX1, "<init>", "()V"⟩
abbrev cX1_shuffle : ByteArray := prog_3_method_2_code
def yX1_shuffle : MethodName := ⟨RX1, "shuffle", "(I)V"⟩
abbrev cX1_swap : ByteArray := prog_3_method_3_code
def yX1_swap : MethodName := ⟨RX1, "swap", "(II)V"⟩
abbrev cX1_cardAt : ByteArray := prog_3_method_4_code
def yX1_cardAt : MethodName := ⟨RX1, "cardAt", "(I)I"⟩
abbrev cX1_cardsFrom : ByteArray := prog_3_method_5_code
def yX1_cardsFrom : MethodName := ⟨RX1, "cardsFrom", "(II)J"⟩
def RX2 : String := "TarockHall$Row"
def TX2 : u_T := fun k => match k with
  | _ => ("TarockHall$Row", "items", "[I", true)
def tyX2 : Nat → FieldType := fun k => match k with
  | _ => .array .int
abbrev wsX20 : List Cond := u_ws RX2 TX2 1
theorem nmX2 : ∀ a, a < 1 → ∀ b, b < 1 → a ≠ b → (TX2 a).2.1 ≠ (TX2 b).2.1 := by decide +kernel
theorem tyX2_ok : ∀ k, k < 1 → parseFieldDescriptor (TX2 k).2.2.1 = some (tyX2 k) := by decide +kernel
abbrev cX2_init : ByteArray := prog_4_method_1_code
def yX2_init : MethodName := ⟨RX2, "<init>", "(I)V"⟩
abbrev cX2_at : ByteArray := prog_4_method_2_code
def yX2_at : MethodName := ⟨RX2, "at", "(I)I"⟩
abbrev cX2_put : ByteArray := prog_4_method_3_code
def yX2_put : MethodName := ⟨RX2, "put", "(II)V"⟩
def RX3 : String := "TarockHall$Sets"
def TX3 : u_T := fun k => match k with
  | _ => ("TarockHall$Sets", "items", "[J", true)
def tyX3 : Nat → FieldType := fun k => match k with
  | _ => .array .long
abbrev wsX30 : List Cond := u_ws RX3 TX3 1
theorem nmX3 : ∀ a, a < 1 → ∀ b, b < 1 → a ≠ b → (TX3 a).2.1 ≠ (TX3 b).2.1 := by decide +kernel
theorem tyX3_ok : ∀ k, k < 1 → parseFieldDescriptor (TX3 k).2.2.1 = some (tyX3 k) := by decide +kernel
abbrev cX3_init : ByteArray := prog_5_method_1_code
def yX3_init : MethodName := ⟨RX3, "<init>", "(I)V"⟩
abbrev cX3_at : ByteArray := prog_5_method_2_code
def yX3_at : MethodName := ⟨RX3, "at", "(I)J"⟩
abbrev cX3_put : ByteArray := prog_5_method_3_code
def yX3_put : MethodName := ⟨RX3, "put", "(IJ)V"⟩
def RX4 : String := "TarockHall$Sheet"
def TX4 : u_T := fun k => match k with
  | 0 => ("TarockHall$Sheet", "scores", "LTarockHall$Row;", true)
  | 1 => ("TarockHall$Sheet", "radli", "LTarockHall$Row;", true)
  | _ => ("TarockHall$Sheet", "latest", "I", false)
def tyX4 : Nat → FieldType := fun k => match k with
  | 0 => .object "TarockHall$Row"
  | 1 => .object "TarockHall$Row"
  | _ => .int
abbrev wsX40 : List Cond := u_ws RX4 TX4 3
theorem nmX4 : ∀ a, a < 3 → ∀ b, b < 3 → a ≠ b → (TX4 a).2.1 ≠ (TX4 b).2.1 := by decide +kernel
theorem tyX4_ok : ∀ k, k < 3 → parseFieldDescriptor (TX4 k).2.2.1 = some (tyX4 k) := by decide +kernel
abbrev cX4_init : ByteArray := prog_6_method_1_code
def yX4_init : MethodName := ⟨RX4, "<init>", "()V"⟩
abbrev cX4_enter : ByteArray := prog_6_method_2_code
def yX4_enter : MethodName := ⟨RX4, "enter", "(IIIZ)V"⟩
abbrev cX4_giveRadli : ByteArray := prog_6_method_3_code
def yX4_giveRadli : MethodName := ⟨RX4, "giveRadli", "()V"⟩
abbrev cX4_addScore : ByteArray := prog_6_method_4_code
def yX4_addScore : MethodName := ⟨RX4, "addScore", "(I)V"⟩
def RX5 : String := "TarockHall$Trick"
def TX5 : u_T := fun k => match k with
  | 0 => ("TarockHall$Trick", "cards", "LTarockHall$Row;", true)
  | 1 => ("TarockHall$Trick", "leader", "I", false)
  | _ => ("TarockHall$Trick", "size", "I", false)
def tyX5 : Nat → FieldType := fun k => match k with
  | 0 => .object "TarockHall$Row"
  | 1 => .int
  | _ => .int
abbrev wsX50 : List Cond := u_ws RX5 TX5 3
theorem nmX5 : ∀ a, a < 3 → ∀ b, b < 3 → a ≠ b → (TX5 a).2.1 ≠ (TX5 b).2.1 := by decide +kernel
theorem tyX5_ok : ∀ k, k < 3 → parseFieldDescriptor (TX5 k).2.2.1 = some (tyX5 k) := by decide +kernel
abbrev cX5_init : ByteArray := prog_7_method_1_code
def yX5_init : MethodName := ⟨RX5, "<init>", "()V"⟩
abbrev cX5_begin : ByteArray := prog_7_method_2_code
def yX5_begin : MethodName := ⟨RX5, "begin", "(I)V"⟩
abbrev cX5_add : ByteArray := prog_7_method_3_code
def yX5_add : MethodName := ⟨RX5, "add", "(I)V"⟩
abbrev cX5_cardAt : ByteArray := prog_7_method_4_code
def yX5_cardAt : MethodName := ⟨RX5, "cardAt", "(I)I"⟩
abbrev cX5_ledSuit : ByteArray := prog_7_method_5_code
def yX5_ledSuit : MethodName := ⟨RX5, "ledSuit", "()I"⟩
abbrev cX5_cardSet : ByteArray := prog_7_method_6_code
def yX5_cardSet : MethodName := ⟨RX5, "cardSet", "()J"⟩
abbrev cX5_playerOf : ByteArray := prog_7_method_7_code
def yX5_playerOf : MethodName := ⟨RX5, "playerOf", "(I)I"⟩
abbrev cX5_winner : ByteArray := prog_7_method_8_code
def yX5_winner : MethodName := ⟨RX5, "winner", "()I"⟩
abbrev cX5_playerAt : ByteArray := prog_7_method_9_code
def yX5_playerAt : MethodName := ⟨RX5, "playerAt", "(I)I"⟩
abbrev cX5_beats : ByteArray := prog_7_method_10_code
def yX5_beats : MethodName := ⟨RX5, "beats", "(II)Z"⟩
def RX6 : String := "TarockHall"
def TX6 : u_T := fun k => match k with
  | 0 => ("TarockHall", "deck", "LTarockHall$Deck;", true)
  | 1 => ("TarockHall", "bidding", "LTarockHall$Bidding;", true)
  | 2 => ("TarockHall", "trick", "LTarockHall$Trick;", true)
  | 3 => ("TarockHall", "sheet", "LTarockHall$Sheet;", true)
  | 4 => ("TarockHall", "hands", "LTarockHall$Sets;", true)
  | 5 => ("TarockHall", "piles", "LTarockHall$Sets;", true)
  | 6 => ("TarockHall", "forehand", "I", false)
  | 7 => ("TarockHall", "phase", "I", false)
  | 8 => ("TarockHall", "turn", "I", false)
  | 9 => ("TarockHall", "declarer", "I", false)
  | 10 => ("TarockHall", "called", "I", false)
  | 11 => ("TarockHall", "kingOwner", "I", false)
  | 12 => ("TarockHall", "partner", "I", false)
  | 13 => ("TarockHall", "toLayAway", "I", false)
  | 14 => ("TarockHall", "laidAway", "J", false)
  | 15 => ("TarockHall", "restOfTalon", "J", false)
  | 16 => ("TarockHall", "announced", "I", false)
  | _ => ("TarockHall", "tricks", "I", false)
def tyX6 : Nat → FieldType := fun k => match k with
  | 0 => .object "TarockHall$Deck"
  | 1 => .object "TarockHall$Bidding"
  | 2 => .object "TarockHall$Trick"
  | 3 => .object "TarockHall$Sheet"
  | 4 => .object "TarockHall$Sets"
  | 5 => .object "TarockHall$Sets"
  | 6 => .int
  | 7 => .int
  | 8 => .int
  | 9 => .int
  | 10 => .int
  | 11 => .int
  | 12 => .int
  | 13 => .int
  | 14 => .long
  | 15 => .long
  | 16 => .int
  | _ => .int
abbrev wsX60 : List Cond := u_ws RX6 TX6 18
theorem nmX6 : ∀ a, a < 18 → ∀ b, b < 18 → a ≠ b → (TX6 a).2.1 ≠ (TX6 b).2.1 := by decide +kernel
theorem tyX6_ok : ∀ k, k < 18 → parseFieldDescriptor (TX6 k).2.2.1 = some (tyX6 k) := by decide +kernel
abbrev cX6_init : ByteArray := prog_1_method_1_code
def yX6_init : MethodName := ⟨RX6, "<init>", "()V"⟩
abbrev cX6_deal : ByteArray := prog_1_method_2_code
def yX6_deal : MethodName := ⟨RX6, "deal", "(I)I"⟩
abbrev cX6_bid : ByteArray := prog_1_method_3_code
def yX6_bid : MethodName := ⟨RX6, "bid", "(I)I"⟩
abbrev cX6_call : ByteArray := prog_1_method_4_code
def yX6_call : MethodName := ⟨RX6, "call", "(I)I"⟩
abbrev cX6_take : ByteArray := prog_1_method_5_code
def yX6_take : MethodName := ⟨RX6, "take", "(I)I"⟩
abbrev cX6_discard : ByteArray := prog_1_method_6_code
def yX6_discard : MethodName := ⟨RX6, "discard", "(I)I"⟩
abbrev cX6_announce : ByteArray := prog_1_method_7_code
def yX6_announce : MethodName := ⟨RX6, "announce", "(I)I"⟩
abbrev cX6_play : ByteArray := prog_1_method_8_code
def yX6_play : MethodName := ⟨RX6, "play", "(I)I"⟩
abbrev cX6_playLowest : ByteArray := prog_1_method_9_code
def yX6_playLowest : MethodName := ⟨RX6, "playLowest", "(I)I"⟩
abbrev cX6_phase : ByteArray := prog_1_method_10_code
def yX6_phase : MethodName := ⟨RX6, "phase", "()I"⟩
abbrev cX6_turn : ByteArray := prog_1_method_11_code
def yX6_turn : MethodName := ⟨RX6, "turn", "()I"⟩
abbrev cX6_declarer : ByteArray := prog_1_method_12_code
def yX6_declarer : MethodName := ⟨RX6, "declarer", "()I"⟩
abbrev cX6_level : ByteArray := prog_1_method_13_code
def yX6_level : MethodName := ⟨RX6, "level", "()I"⟩
abbrev cX6_called : ByteArray := prog_1_method_14_code
def yX6_called : MethodName := ⟨RX6, "called", "()I"⟩
abbrev cX6_partner : ByteArray := prog_1_method_15_code
def yX6_partner : MethodName := ⟨RX6, "partner", "()I"⟩
abbrev cX6_hand : ByteArray := prog_1_method_16_code
def yX6_hand : MethodName := ⟨RX6, "hand", "(I)J"⟩
abbrev cX6_talonAt : ByteArray := prog_1_method_17_code
def yX6_talonAt : MethodName := ⟨RX6, "talonAt", "(I)I"⟩
abbrev cX6_inTrick : ByteArray := prog_1_method_18_code
def yX6_inTrick : MethodName := ⟨RX6, "inTrick", "()I"⟩
abbrev cX6_trickAt : ByteArray := prog_1_method_19_code
def yX6_trickAt : MethodName := ⟨RX6, "trickAt", "(I)I"⟩
abbrev cX6_canPlay : ByteArray := prog_1_method_20_code
def yX6_canPlay : MethodName := ⟨RX6, "canPlay", "(I)Z"⟩
abbrev cX6_tricks : ByteArray := prog_1_method_21_code
def yX6_tricks : MethodName := ⟨RX6, "tricks", "()I"⟩
abbrev cX6_valueOf : ByteArray := prog_1_method_22_code
def yX6_valueOf : MethodName := ⟨RX6, "valueOf", "(I)I"⟩
abbrev cX6_thirds : ByteArray := prog_1_method_23_code
def yX6_thirds : MethodName := ⟨RX6, "thirds", "(I)I"⟩
abbrev cX6_byPacks : ByteArray := prog_1_method_24_code
def yX6_byPacks : MethodName := ⟨RX6, "byPacks", "(I)I"⟩
abbrev cX6_score : ByteArray := prog_1_method_25_code
def yX6_score : MethodName := ⟨RX6, "score", "(I)I"⟩
abbrev cX6_radli : ByteArray := prog_1_method_26_code
def yX6_radli : MethodName := ⟨RX6, "radli", "(I)I"⟩
abbrev cX6_result : ByteArray := prog_1_method_27_code
def yX6_result : MethodName := ⟨RX6, "result", "()I"⟩
abbrev cX6_knows : ByteArray := prog_1_method_28_code
def yX6_knows : MethodName := ⟨RX6, "knows", "(II)I"⟩
abbrev cX6_clearDeal : ByteArray := prog_1_method_29_code
def yX6_clearDeal : MethodName := ⟨RX6, "clearDeal", "()V"⟩
abbrev cX6_handOut : ByteArray := prog_1_method_30_code
def yX6_handOut : MethodName := ⟨RX6, "handOut", "()V"⟩
abbrev cX6_beginGame : ByteArray := prog_1_method_31_code
def yX6_beginGame : MethodName := ⟨RX6, "beginGame", "()V"⟩
abbrev cX6_beginPlay : ByteArray := prog_1_method_32_code
def yX6_beginPlay : MethodName := ⟨RX6, "beginPlay", "()V"⟩
abbrev cX6_addToTrick : ByteArray := prog_1_method_33_code
def yX6_addToTrick : MethodName := ⟨RX6, "addToTrick", "(I)I"⟩
abbrev cX6_endTrick : ByteArray := prog_1_method_34_code
def yX6_endTrick : MethodName := ⟨RX6, "endTrick", "(I)V"⟩
abbrev cX6_endDeal : ByteArray := prog_1_method_35_code
def yX6_endDeal : MethodName := ⟨RX6, "endDeal", "()V"⟩
abbrev cX6_enterResult : ByteArray := prog_1_method_36_code
def yX6_enterResult : MethodName := ⟨RX6, "enterResult", "(I)V"⟩
abbrev cX6_pagatPoints : ByteArray := prog_1_method_37_code
def yX6_pagatPoints : MethodName := ⟨RX6, "pagatPoints", "(I)I"⟩
abbrev cX6_kingPoints : ByteArray := prog_1_method_38_code
def yX6_kingPoints : MethodName := ⟨RX6, "kingPoints", "(I)I"⟩
abbrev cX6_groupsNow : ByteArray := prog_1_method_39_code
def yX6_groupsNow : MethodName := ⟨RX6, "groupsNow", "()I"⟩
abbrev cX6_playableNow : ByteArray := prog_1_method_40_code
def yX6_playableNow : MethodName := ⟨RX6, "playableNow", "()J"⟩
abbrev cX6_isAnnounced : ByteArray := prog_1_method_41_code
def yX6_isAnnounced : MethodName := ⟨RX6, "isAnnounced", "(I)Z"⟩
abbrev cX6_calledKing : ByteArray := prog_1_method_42_code
def yX6_calledKing : MethodName := ⟨RX6, "calledKing", "()I"⟩
abbrev cX6_ownerOf : ByteArray := prog_1_method_43_code
def yX6_ownerOf : MethodName := ⟨RX6, "ownerOf", "(I)I"⟩
abbrev cX6_sideOf : ByteArray := prog_1_method_44_code
def yX6_sideOf : MethodName := ⟨RX6, "sideOf", "(I)I"⟩
abbrev cX6_sidesAreOpen : ByteArray := prog_1_method_45_code
def yX6_sidesAreOpen : MethodName := ⟨RX6, "sidesAreOpen", "()Z"⟩
abbrev cX6_isPlayer : ByteArray := prog_1_method_46_code
def yX6_isPlayer : MethodName := ⟨RX6, "isPlayer", "(I)Z"⟩
abbrev cX6_isCard : ByteArray := prog_1_method_47_code
def yX6_isCard : MethodName := ⟨RX6, "isCard", "(I)Z"⟩
abbrev cX6_isSide : ByteArray := prog_1_method_48_code
def yX6_isSide : MethodName := ⟨RX6, "isSide", "(I)Z"⟩
abbrev cX6_behind : ByteArray := prog_1_method_49_code
def yX6_behind : MethodName := ⟨RX6, "behind", "(I)I"⟩
abbrev cX6_suitOf : ByteArray := prog_1_method_50_code
def yX6_suitOf : MethodName := ⟨RX6, "suitOf", "(I)I"⟩
abbrev cX6_worth : ByteArray := prog_1_method_51_code
def yX6_worth : MethodName := ⟨RX6, "worth", "(I)I"⟩
abbrev cX6_canBeLaidAway : ByteArray := prog_1_method_52_code
def yX6_canBeLaidAway : MethodName := ⟨RX6, "canBeLaidAway", "(I)Z"⟩
abbrev cX6_groupSize : ByteArray := prog_1_method_53_code
def yX6_groupSize : MethodName := ⟨RX6, "groupSize", "(I)I"⟩
abbrev cX6_groupsAt : ByteArray := prog_1_method_54_code
def yX6_groupsAt : MethodName := ⟨RX6, "groupsAt", "(I)I"⟩
abbrev cX6_isWon : ByteArray := prog_1_method_55_code
def yX6_isWon : MethodName := ⟨RX6, "isWon", "(I)Z"⟩
abbrev cX6_gamePoints : ByteArray := prog_1_method_56_code
def yX6_gamePoints : MethodName := ⟨RX6, "gamePoints", "(II)I"⟩
abbrev cX6_basePoints : ByteArray := prog_1_method_57_code
def yX6_basePoints : MethodName := ⟨RX6, "basePoints", "(I)I"⟩
abbrev cX6_only : ByteArray := prog_1_method_58_code
def yX6_only : MethodName := ⟨RX6, "only", "(I)J"⟩
abbrev cX6_holds : ByteArray := prog_1_method_59_code
def yX6_holds : MethodName := ⟨RX6, "holds", "(JI)Z"⟩
abbrev cX6_cardsOfSuit : ByteArray := prog_1_method_60_code
def yX6_cardsOfSuit : MethodName := ⟨RX6, "cardsOfSuit", "(JI)J"⟩
abbrev cX6_playableOf : ByteArray := prog_1_method_61_code
def yX6_playableOf : MethodName := ⟨RX6, "playableOf", "(JI)J"⟩
abbrev cX6_lowestOf : ByteArray := prog_1_method_62_code
def yX6_lowestOf : MethodName := ⟨RX6, "lowestOf", "(J)I"⟩
abbrev cX6_thirdsOf : ByteArray := prog_1_method_63_code
def yX6_thirdsOf : MethodName := ⟨RX6, "thirdsOf", "(J)I"⟩
abbrev cX6_packPointsOf : ByteArray := prog_1_method_64_code
def yX6_packPointsOf : MethodName := ⟨RX6, "packPointsOf", "(J)I"⟩
def RX7 : String := "TarockHallModel"
def TX7 : u_T := fun k => match k with
  | 0 => ("TarockHallModel", "thrown", "I", false)
  | 1 => ("TarockHallModel", "phase", "I", false)
  | 2 => ("TarockHallModel", "deals", "I", false)
  | 3 => ("TarockHallModel", "forehand", "I", false)
  | 4 => ("TarockHallModel", "turn", "I", false)
  | 5 => ("TarockHallModel", "row", "[I", true)
  | 6 => ("TarockHallModel", "hand", "[J", true)
  | 7 => ("TarockHallModel", "isPassed", "[Z", true)
  | 8 => ("TarockHallModel", "passes", "I", false)
  | 9 => ("TarockHallModel", "level", "I", false)
  | 10 => ("TarockHallModel", "bidder", "I", false)
  | 11 => ("TarockHallModel", "declarer", "I", false)
  | 12 => ("TarockHallModel", "called", "I", false)
  | 13 => ("TarockHallModel", "partner", "I", false)
  | 14 => ("TarockHallModel", "holder", "I", false)
  | 15 => ("TarockHallModel", "isOut", "Z", false)
  | 16 => ("TarockHallModel", "toLay", "I", false)
  | 17 => ("TarockHallModel", "laid", "J", false)
  | 18 => ("TarockHallModel", "rest", "J", false)
  | 19 => ("TarockHallModel", "isBegun", "Z", false)
  | 20 => ("TarockHallModel", "isAnnounced", "[Z", true)
  | 21 => ("TarockHallModel", "trick", "[I", true)
  | 22 => ("TarockHallModel", "inTrick", "I", false)
  | 23 => ("TarockHallModel", "leader", "I", false)
  | 24 => ("TarockHallModel", "tricks", "I", false)
  | 25 => ("TarockHallModel", "won", "[J", true)
  | 26 => ("TarockHallModel", "score", "[I", true)
  | 27 => ("TarockHallModel", "radli", "[I", true)
  | _ => ("TarockHallModel", "result", "I", false)
def tyX7 : Nat → FieldType := fun k => match k with
  | 0 => .int
  | 1 => .int
  | 2 => .int
  | 3 => .int
  | 4 => .int
  | 5 => .array .int
  | 6 => .array .long
  | 7 => .array .boolean
  | 8 => .int
  | 9 => .int
  | 10 => .int
  | 11 => .int
  | 12 => .int
  | 13 => .int
  | 14 => .int
  | 15 => .boolean
  | 16 => .int
  | 17 => .long
  | 18 => .long
  | 19 => .boolean
  | 20 => .array .boolean
  | 21 => .array .int
  | 22 => .int
  | 23 => .int
  | 24 => .int
  | 25 => .array .long
  | 26 => .array .int
  | 27 => .array .int
  | _ => .int
abbrev wsX70 : List Cond := u_ws RX7 TX7 29
theorem nmX7 : ∀ a, a < 29 → ∀ b, b < 29 → a ≠ b → (TX7 a).2.1 ≠ (TX7 b).2.1 := by decide +kernel
theorem tyX7_ok : ∀ k, k < 29 → parseFieldDescriptor (TX7 k).2.2.1 = some (tyX7 k) := by decide +kernel
abbrev cX7_init : ByteArray := prog_9_method_1_code
def yX7_init : MethodName := ⟨RX7, "<init>", "()V"⟩
abbrev cX7_thrown : ByteArray := prog_9_method_2_code
def yX7_thrown : MethodName := ⟨RX7, "thrown", "()I"⟩
abbrev cX7_isFine : ByteArray := prog_9_method_3_code
def yX7_isFine : MethodName := ⟨RX7, "isFine", "(I)Z"⟩
abbrev cX7_isIn : ByteArray := prog_9_method_4_code
def yX7_isIn : MethodName := ⟨RX7, "isIn", "(III)Z"⟩
abbrev cX7_isPlayer : ByteArray := prog_9_method_5_code
def yX7_isPlayer : MethodName := ⟨RX7, "isPlayer", "(I)Z"⟩
abbrev cX7_isCard : ByteArray := prog_9_method_6_code
def yX7_isCard : MethodName := ⟨RX7, "isCard", "(I)Z"⟩
abbrev cX7_suit : ByteArray := prog_9_method_7_code
def yX7_suit : MethodName := ⟨RX7, "suit", "(I)I"⟩
abbrev cX7_worth : ByteArray := prog_9_method_8_code
def yX7_worth : MethodName := ⟨RX7, "worth", "(I)I"⟩
abbrev cX7_has : ByteArray := prog_9_method_9_code
def yX7_has : MethodName := ⟨RX7, "has", "(JI)Z"⟩
abbrev cX7_bit : ByteArray := prog_9_method_10_code
def yX7_bit : MethodName := ⟨RX7, "bit", "(I)J"⟩
abbrev cX7_king : ByteArray := prog_9_method_11_code
def yX7_king : MethodName := ⟨RX7, "king", "()I"⟩
abbrev cX7_deal : ByteArray := prog_9_method_12_code
def yX7_deal : MethodName := ⟨RX7, "deal", "(I)I"⟩
abbrev cX7_talon : ByteArray := prog_9_method_13_code
def yX7_talon : MethodName := ⟨RX7, "talon", "(I)I"⟩
abbrev cX7_begins : ByteArray := prog_9_method_14_code
def yX7_begins : MethodName := ⟨RX7, "begins", "()V"⟩
abbrev cX7_declares : ByteArray := prog_9_method_15_code
def yX7_declares : MethodName := ⟨RX7, "declares", "()V"⟩
abbrev cX7_bid : ByteArray := prog_9_method_16_code
def yX7_bid : MethodName := ⟨RX7, "bid", "(I)I"⟩
abbrev cX7_call : ByteArray := prog_9_method_17_code
def yX7_call : MethodName := ⟨RX7, "call", "(I)I"⟩
abbrev cX7_take : ByteArray := prog_9_method_18_code
def yX7_take : MethodName := ⟨RX7, "take", "(I)I"⟩
abbrev cX7_discard : ByteArray := prog_9_method_19_code
def yX7_discard : MethodName := ⟨RX7, "discard", "(I)I"⟩
abbrev cX7_announce : ByteArray := prog_9_method_20_code
def yX7_announce : MethodName := ⟨RX7, "announce", "(I)I"⟩
abbrev cX7_hasSuit : ByteArray := prog_9_method_21_code
def yX7_hasSuit : MethodName := ⟨RX7, "hasSuit", "(JI)Z"⟩
abbrev cX7_isPlayable : ByteArray := prog_9_method_22_code
def yX7_isPlayable : MethodName := ⟨RX7, "isPlayable", "(I)Z"⟩
abbrev cX7_best : ByteArray := prog_9_method_23_code
def yX7_best : MethodName := ⟨RX7, "best", "()I"⟩
abbrev cX7_sideOf : ByteArray := prog_9_method_24_code
def yX7_sideOf : MethodName := ⟨RX7, "sideOf", "(I)I"⟩
abbrev cX7_cardsOf : ByteArray := prog_9_method_25_code
def yX7_cardsOf : MethodName := ⟨RX7, "cardsOf", "(I)J"⟩
abbrev cX7_counted : ByteArray := prog_9_method_26_code
def yX7_counted : MethodName := ⟨RX7, "counted", "(I)I"⟩
abbrev cX7_placeOf : ByteArray := prog_9_method_27_code
def yX7_placeOf : MethodName := ⟨RX7, "placeOf", "(I)I"⟩
abbrev cX7_pagatCount : ByteArray := prog_9_method_28_code
def yX7_pagatCount : MethodName := ⟨RX7, "pagatCount", "()I"⟩
abbrev cX7_kingCount : ByteArray := prog_9_method_29_code
def yX7_kingCount : MethodName := ⟨RX7, "kingCount", "()I"⟩
abbrev cX7_gameCount : ByteArray := prog_9_method_30_code
def yX7_gameCount : MethodName := ⟨RX7, "gameCount", "(I)I"⟩
abbrev cX7_scores : ByteArray := prog_9_method_31_code
def yX7_scores : MethodName := ⟨RX7, "scores", "(I)V"⟩
abbrev cX7_plays : ByteArray := prog_9_method_32_code
def yX7_plays : MethodName := ⟨RX7, "plays", "(I)I"⟩
abbrev cX7_play : ByteArray := prog_9_method_33_code
def yX7_play : MethodName := ⟨RX7, "play", "(I)I"⟩
abbrev cX7_playLowest : ByteArray := prog_9_method_34_code
def yX7_playLowest : MethodName := ⟨RX7, "playLowest", "(I)I"⟩
abbrev cX7_phase : ByteArray := prog_9_method_35_code
def yX7_phase : MethodName := ⟨RX7, "phase", "()I"⟩
abbrev cX7_turn : ByteArray := prog_9_method_36_code
def yX7_turn : MethodName := ⟨RX7, "turn", "()I"⟩
abbrev cX7_declarer : ByteArray := prog_9_method_37_code
def yX7_declarer : MethodName := ⟨RX7, "declarer", "()I"⟩
abbrev cX7_level : ByteArray := prog_9_method_38_code
def yX7_level : MethodName := ⟨RX7, "level", "()I"⟩
abbrev cX7_called : ByteArray := prog_9_method_39_code
def yX7_called : MethodName := ⟨RX7, "called", "()I"⟩
abbrev cX7_partner : ByteArray := prog_9_method_40_code
def yX7_partner : MethodName := ⟨RX7, "partner", "()I"⟩
abbrev cX7_hand : ByteArray := prog_9_method_41_code
def yX7_hand : MethodName := ⟨RX7, "hand", "(I)J"⟩
abbrev cX7_talonAt : ByteArray := prog_9_method_42_code
def yX7_talonAt : MethodName := ⟨RX7, "talonAt", "(I)I"⟩
abbrev cX7_inTrick : ByteArray := prog_9_method_43_code
def yX7_inTrick : MethodName := ⟨RX7, "inTrick", "()I"⟩
abbrev cX7_trickAt : ByteArray := prog_9_method_44_code
def yX7_trickAt : MethodName := ⟨RX7, "trickAt", "(I)I"⟩
abbrev cX7_canPlay : ByteArray := prog_9_method_45_code
def yX7_canPlay : MethodName := ⟨RX7, "canPlay", "(I)Z"⟩
abbrev cX7_tricks : ByteArray := prog_9_method_46_code
def yX7_tricks : MethodName := ⟨RX7, "tricks", "()I"⟩
abbrev cX7_valueOf : ByteArray := prog_9_method_47_code
def yX7_valueOf : MethodName := ⟨RX7, "valueOf", "(I)I"⟩
abbrev cX7_thirds : ByteArray := prog_9_method_48_code
def yX7_thirds : MethodName := ⟨RX7, "thirds", "(I)I"⟩
abbrev cX7_byPacks : ByteArray := prog_9_method_49_code
def yX7_byPacks : MethodName := ⟨RX7, "byPacks", "(I)I"⟩
abbrev cX7_score : ByteArray := prog_9_method_50_code
def yX7_score : MethodName := ⟨RX7, "score", "(I)I"⟩
abbrev cX7_radli : ByteArray := prog_9_method_51_code
def yX7_radli : MethodName := ⟨RX7, "radli", "(I)I"⟩
abbrev cX7_result : ByteArray := prog_9_method_52_code
def yX7_result : MethodName := ⟨RX7, "result", "()I"⟩
abbrev cX7_knows : ByteArray := prog_9_method_53_code
def yX7_knows : MethodName := ⟨RX7, "knows", "(II)I"⟩
def RJ6 : String := "java/lang/Integer"
def TJ6 : u_T := fun k => match k with
  | _ => ("", "", "", false)
def tyJ6 : Nat → FieldType := fun k => match k with
  | _ => .int
abbrev wsJ60 : List Cond := u_ws RJ6 TJ6 0
theorem nmJ6 : ∀ a, a < 0 → ∀ b, b < 0 → a ≠ b → (TJ6 a).2.1 ≠ (TJ6 b).2.1 := by decide +kernel
theorem tyJ6_ok : ∀ k, k < 0 → parseFieldDescriptor (TJ6 k).2.2.1 = some (tyJ6 k) := by decide +kernel
abbrev cJ6_bitCount_0f7a4 : ByteArray := prog_14_method_49_code
def yJ6_bitCount_0f7a4 : MethodName := ⟨RJ6, "bitCount", "(I)I"⟩
def RJ9 : String := "java/lang/Math"
def TJ9 : u_T := fun k => match k with
  | _ => ("", "", "", false)
def tyJ9 : Nat → FieldType := fun k => match k with
  | _ => .int
abbrev wsJ90 : List Cond := u_ws RJ9 TJ9 0
theorem nmJ9 : ∀ a, a < 0 → ∀ b, b < 0 → a ≠ b → (TJ9 a).2.1 ≠ (TJ9 b).2.1 := by decide +kernel
theorem tyJ9_ok : ∀ k, k < 0 → parseFieldDescriptor (TJ9 k).2.2.1 = some (tyJ9 k) := by decide +kernel
abbrev cJ9_abs_0f7a4 : ByteArray := prog_15_method_59_code
def yJ9_abs_0f7a4 : MethodName := ⟨RJ9, "abs", "(I)I"⟩
abbrev cJ9_max_7cf53 : ByteArray := prog_15_method_65_code
def yJ9_max_7cf53 : MethodName := ⟨RJ9, "max", "(II)I"⟩
def RJ0 : String := "java/lang/String"
def TJ0 : u_T := fun k => match k with
  | _ => ("", "", "", false)
def tyJ0 : Nat → FieldType := fun k => match k with
  | _ => .int
abbrev wsJ00 : List Cond := u_ws RJ0 TJ0 0
theorem nmJ0 : ∀ a, a < 0 → ∀ b, b < 0 → a ≠ b → (TJ0 a).2.1 ≠ (TJ0 b).2.1 := by decide +kernel
theorem tyJ0_ok : ∀ k, k < 0 → parseFieldDescriptor (TJ0 k).2.2.1 = some (tyJ0 k) := by decide +kernel
def RL : String := "TarockHallLaw"
abbrev cL_deal : ByteArray := method_3_code
def yL_deal : MethodName := ⟨RL, "deal", "(LTarockHall;I[J)I"⟩
abbrev cL_bid : ByteArray := method_4_code
def yL_bid : MethodName := ⟨RL, "bid", "(LTarockHall;I[J)I"⟩
abbrev cL_call : ByteArray := method_5_code
def yL_call : MethodName := ⟨RL, "call", "(LTarockHall;I[J)I"⟩
abbrev cL_take : ByteArray := method_6_code
def yL_take : MethodName := ⟨RL, "take", "(LTarockHall;I[J)I"⟩
abbrev cL_discard : ByteArray := method_7_code
def yL_discard : MethodName := ⟨RL, "discard", "(LTarockHall;I[J)I"⟩
abbrev cL_announce : ByteArray := method_8_code
def yL_announce : MethodName := ⟨RL, "announce", "(LTarockHall;I[J)I"⟩
abbrev cL_play : ByteArray := method_9_code
def yL_play : MethodName := ⟨RL, "play", "(LTarockHall;I[J)I"⟩
abbrev cL_playLowest : ByteArray := method_10_code
def yL_playLowest : MethodName := ⟨RL, "playLowest", "(LTarockHall;I[J)I"⟩
abbrev cL_hand : ByteArray := method_11_code
def yL_hand : MethodName := ⟨RL, "hand", "(LTarockHall;I[J)I"⟩
abbrev cL_talonAt : ByteArray := method_12_code
def yL_talonAt : MethodName := ⟨RL, "talonAt", "(LTarockHall;I[J)I"⟩
abbrev cL_trickAt : ByteArray := method_13_code
def yL_trickAt : MethodName := ⟨RL, "trickAt", "(LTarockHall;I[J)I"⟩
abbrev cL_canPlay : ByteArray := method_14_code
def yL_canPlay : MethodName := ⟨RL, "canPlay", "(LTarockHall;I[J)I"⟩
abbrev cL_valueOf : ByteArray := method_15_code
def yL_valueOf : MethodName := ⟨RL, "valueOf", "(LTarockHall;I[J)I"⟩
abbrev cL_thirds : ByteArray := method_16_code
def yL_thirds : MethodName := ⟨RL, "thirds", "(LTarockHall;I[J)I"⟩
abbrev cL_byPacks : ByteArray := method_17_code
def yL_byPacks : MethodName := ⟨RL, "byPacks", "(LTarockHall;I[J)I"⟩
abbrev cL_score : ByteArray := method_18_code
def yL_score : MethodName := ⟨RL, "score", "(LTarockHall;I[J)I"⟩
abbrev cL_radli : ByteArray := method_19_code
def yL_radli : MethodName := ⟨RL, "radli", "(LTarockHall;I[J)I"⟩
abbrev cL_knows : ByteArray := method_20_code
def yL_knows : MethodName := ⟨RL, "knows", "(LTarockHall;II[J)I"⟩
abbrev cL_law : ByteArray := code
def yL_law : MethodName := ⟨RL, "law", "([I)Z"⟩
def wsX0_init : List Cond := .code yX0_init cX0_init 1 none :: ([.methodLink RX0 3 objectInit, .instanceMethod objectInit, .code objectInit ⟨#[0xb1]⟩ 1 none, .fieldLink RX0 9 "TarockHall$Bidding" "bidder" "I"] ++ wsX00)
def wsX0_clear : List Cond := .code yX0_clear cX0_clear 1 none :: ([.fieldLink RX0 15 "TarockHall$Bidding" "passed" "I", .fieldLink RX0 18 "TarockHall$Bidding" "highest" "I", .fieldLink RX0 9 "TarockHall$Bidding" "bidder" "I"] ++ wsX00)
def wsX0_enter : List Cond := .code yX0_enter cX0_enter 3 none :: ([.fieldLink RX0 15 "TarockHall$Bidding" "passed" "I", .fieldLink RX0 18 "TarockHall$Bidding" "highest" "I", .fieldLink RX0 9 "TarockHall$Bidding" "bidder" "I"] ++ wsX00)
def wsJ6_bitCount_0f7a4 : List Cond := .code yJ6_bitCount_0f7a4 cJ6_bitCount_0f7a4 1 (some .int) :: ([.constant RJ6 265 (1431655765), .constant RJ6 266 (858993459), .constant RJ6 267 (252645135)])
def wsX0_allPassed : List Cond := .code yX0_allPassed cX0_allPassed 1 (some .boolean) :: ([.fieldLink RX0 15 "TarockHall$Bidding" "passed" "I", .methodLink RX0 21 yJ6_bitCount_0f7a4, .static yJ6_bitCount_0f7a4, .initialized RJ6, .code yJ6_bitCount_0f7a4 cJ6_bitCount_0f7a4 1 (some .int), .constant RJ6 265 (1431655765), .constant RJ6 266 (858993459), .constant RJ6 267 (252645135)] ++ wsX00)
def wsX0_isSettled : List Cond := .code yX0_isSettled cX0_isSettled 1 (some .boolean) :: ([.fieldLink RX0 9 "TarockHall$Bidding" "bidder" "I", .fieldLink RX0 15 "TarockHall$Bidding" "passed" "I", .methodLink RX0 21 yJ6_bitCount_0f7a4, .static yJ6_bitCount_0f7a4, .initialized RJ6, .code yJ6_bitCount_0f7a4 cJ6_bitCount_0f7a4 1 (some .int), .constant RJ6 265 (1431655765), .constant RJ6 266 (858993459), .constant RJ6 267 (252645135)] ++ wsX00)
def wsX6_behind : List Cond := .code yX6_behind cX6_behind 1 (some .int) :: ([])
def wsX0_hasPassed : List Cond := .code yX0_hasPassed cX0_hasPassed 2 (some .boolean) :: ([.fieldLink RX0 15 "TarockHall$Bidding" "passed" "I"] ++ wsX00)
def wsX0_nextBehind : List Cond := .code yX0_nextBehind cX0_nextBehind 4 (some .int) :: ([.static yX6_behind, .initialized RX6, .code yX6_behind cX6_behind 1 (some .int), .methodLink RX0 30 yX0_hasPassed, .instanceMethod yX0_hasPassed, .selects RX0 yX0_hasPassed yX0_hasPassed, .initialized RX0, .code yX0_hasPassed cX0_hasPassed 2 (some .boolean), .fieldLink RX0 15 "TarockHall$Bidding" "passed" "I"] ++ wsX00)
def wsX2_init : List Cond := .code yX2_init cX2_init 2 none :: ([.methodLink RX2 3 objectInit, .instanceMethod objectInit, .code objectInit ⟨#[0xb1]⟩ 1 none, .methodLink RX2 9 Lib.Math.max.name, .static Lib.Math.max.name, .initialized "java/lang/Math", .code Lib.Math.max.name Lib.Math.max.code 2 (some .int), .arrayClass .int, .fieldLink RX2 15 "TarockHall$Row" "items" "[I"] ++ wsX20)
def wsX1_init : List Cond := .code yX1_init cX1_init 1 none :: ([.methodLink RX1 3 objectInit, .instanceMethod objectInit, .code objectInit ⟨#[0xb1]⟩ 1 none, .classLink RX1 9 RX2, .instantiable RX2 1, .initialized RX2, .fieldLink RX1 14 "TarockHall$Deck" "row" "LTarockHall$Row;", .methodLink RX1 11 yX2_init, .instanceMethod yX2_init, .code yX2_init cX2_init 2 none, .methodLink RX2 3 objectInit, .methodLink RX2 9 Lib.Math.max.name, .static Lib.Math.max.name, .initialized "java/lang/Math", .code Lib.Math.max.name Lib.Math.max.code 2 (some .int), .arrayClass .int, .fieldLink RX2 15 "TarockHall$Row" "items" "[I"] ++ wsX20 ++ wsX10)
def wsX2_put : List Cond := .code yX2_put cX2_put 3 none :: ([.fieldLink RX2 15 "TarockHall$Row" "items" "[I"] ++ wsX20)
def wsX2_at : List Cond := .code yX2_at cX2_at 2 (some .int) :: ([.fieldLink RX2 15 "TarockHall$Row" "items" "[I"] ++ wsX20)
def wsX1_swap : List Cond := .code yX1_swap cX1_swap 4 none :: ([.fieldLink RX1 14 "TarockHall$Deck" "row" "LTarockHall$Row;", .methodLink RX1 28 yX2_at, .instanceMethod yX2_at, .selects RX2 yX2_at yX2_at, .initialized RX2, .code yX2_at cX2_at 2 (some .int), .fieldLink RX2 15 "TarockHall$Row" "items" "[I", .methodLink RX1 20 yX2_put, .instanceMethod yX2_put, .selects RX2 yX2_put yX2_put, .code yX2_put cX2_put 3 none] ++ wsX10 ++ wsX20)
def wsX1_shuffle : List Cond := .code yX1_shuffle cX1_shuffle 4 none :: ([.fieldLink RX1 14 "TarockHall$Deck" "row" "LTarockHall$Row;", .constant RX1 24 (65536), .methodLink RX1 20 yX2_put, .instanceMethod yX2_put, .selects RX2 yX2_put yX2_put, .initialized RX2, .code yX2_put cX2_put 3 none, .fieldLink RX2 15 "TarockHall$Row" "items" "[I", .methodLink RX1 25 yX1_swap, .instanceMethod yX1_swap, .selects RX1 yX1_swap yX1_swap, .initialized RX1, .code yX1_swap cX1_swap 4 none, .methodLink RX1 28 yX2_at, .instanceMethod yX2_at, .selects RX2 yX2_at yX2_at, .code yX2_at cX2_at 2 (some .int)] ++ wsX10 ++ wsX20)
def wsX1_cardAt : List Cond := .code yX1_cardAt cX1_cardAt 2 (some .int) :: ([.fieldLink RX1 14 "TarockHall$Deck" "row" "LTarockHall$Row;", .methodLink RX1 28 yX2_at, .instanceMethod yX2_at, .selects RX2 yX2_at yX2_at, .initialized RX2, .code yX2_at cX2_at 2 (some .int), .fieldLink RX2 15 "TarockHall$Row" "items" "[I"] ++ wsX10 ++ wsX20)
def wsX6_only : List Cond := .code yX6_only cX6_only 1 (some .long) :: ([])
def wsX1_cardsFrom : List Cond := .code yX1_cardsFrom cX1_cardsFrom 6 (some .long) :: ([.fieldLink RX1 14 "TarockHall$Deck" "row" "LTarockHall$Row;", .methodLink RX1 28 yX2_at, .instanceMethod yX2_at, .selects RX2 yX2_at yX2_at, .initialized RX2, .code yX2_at cX2_at 2 (some .int), .fieldLink RX2 15 "TarockHall$Row" "items" "[I", .static yX6_only, .initialized RX6, .code yX6_only cX6_only 1 (some .long)] ++ wsX10 ++ wsX20)
def wsX3_init : List Cond := .code yX3_init cX3_init 2 none :: ([.methodLink RX3 1 objectInit, .instanceMethod objectInit, .code objectInit ⟨#[0xb1]⟩ 1 none, .methodLink RX3 7 Lib.Math.max.name, .static Lib.Math.max.name, .initialized "java/lang/Math", .code Lib.Math.max.name Lib.Math.max.code 2 (some .int), .arrayClass .long, .fieldLink RX3 13 "TarockHall$Sets" "items" "[J"] ++ wsX30)
def wsX3_at : List Cond := .code yX3_at cX3_at 2 (some .long) :: ([.fieldLink RX3 13 "TarockHall$Sets" "items" "[J"] ++ wsX30)
def wsX3_put : List Cond := .code yX3_put cX3_put 4 none :: ([.fieldLink RX3 13 "TarockHall$Sets" "items" "[J"] ++ wsX30)
def wsX4_init : List Cond := .code yX4_init cX4_init 1 none :: ([.methodLink RX4 3 objectInit, .instanceMethod objectInit, .code objectInit ⟨#[0xb1]⟩ 1 none, .classLink RX4 9 RX2, .instantiable RX2 1, .initialized RX2, .fieldLink RX4 14 "TarockHall$Sheet" "scores" "LTarockHall$Row;", .fieldLink RX4 20 "TarockHall$Sheet" "radli" "LTarockHall$Row;", .methodLink RX4 11 yX2_init, .instanceMethod yX2_init, .code yX2_init cX2_init 2 none, .methodLink RX2 3 objectInit, .methodLink RX2 9 Lib.Math.max.name, .static Lib.Math.max.name, .initialized "java/lang/Math", .code Lib.Math.max.name Lib.Math.max.code 2 (some .int), .arrayClass .int, .fieldLink RX2 15 "TarockHall$Row" "items" "[I"] ++ wsX20 ++ wsX40)
def wsX4_addScore : List Cond := .code yX4_addScore cX4_addScore 2 none :: ([.fieldLink RX4 14 "TarockHall$Sheet" "scores" "LTarockHall$Row;", .fieldLink RX4 27 "TarockHall$Sheet" "latest" "I", .methodLink RX4 23 yX2_at, .instanceMethod yX2_at, .selects RX2 yX2_at yX2_at, .initialized RX2, .code yX2_at cX2_at 2 (some .int), .fieldLink RX2 15 "TarockHall$Row" "items" "[I", .methodLink RX4 31 yX2_put, .instanceMethod yX2_put, .selects RX2 yX2_put yX2_put, .code yX2_put cX2_put 3 none] ++ wsX40 ++ wsX20)
def wsX4_enter : List Cond := .code yX4_enter cX4_enter 6 none :: ([.fieldLink RX4 20 "TarockHall$Sheet" "radli" "LTarockHall$Row;", .fieldLink RX4 27 "TarockHall$Sheet" "latest" "I", .methodLink RX4 23 yX2_at, .instanceMethod yX2_at, .selects RX2 yX2_at yX2_at, .initialized RX2, .code yX2_at cX2_at 2 (some .int), .fieldLink RX2 15 "TarockHall$Row" "items" "[I", .methodLink RX4 31 yX2_put, .instanceMethod yX2_put, .selects RX2 yX2_put yX2_put, .code yX2_put cX2_put 3 none, .methodLink RX4 35 yX4_addScore, .instanceMethod yX4_addScore, .selects RX4 yX4_addScore yX4_addScore, .initialized RX4, .code yX4_addScore cX4_addScore 2 none, .fieldLink RX4 14 "TarockHall$Sheet" "scores" "LTarockHall$Row;"] ++ wsX40 ++ wsX20)
def wsX4_giveRadli : List Cond := .code yX4_giveRadli cX4_giveRadli 2 none :: ([.fieldLink RX4 20 "TarockHall$Sheet" "radli" "LTarockHall$Row;", .methodLink RX4 23 yX2_at, .instanceMethod yX2_at, .selects RX2 yX2_at yX2_at, .initialized RX2, .code yX2_at cX2_at 2 (some .int), .fieldLink RX2 15 "TarockHall$Row" "items" "[I", .methodLink RX4 31 yX2_put, .instanceMethod yX2_put, .selects RX2 yX2_put yX2_put, .code yX2_put cX2_put 3 none] ++ wsX40 ++ wsX20)
def wsX5_init : List Cond := .code yX5_init cX5_init 1 none :: ([.methodLink RX5 3 objectInit, .instanceMethod objectInit, .code objectInit ⟨#[0xb1]⟩ 1 none, .classLink RX5 9 RX2, .instantiable RX2 1, .initialized RX2, .fieldLink RX5 14 "TarockHall$Trick" "cards" "LTarockHall$Row;", .methodLink RX5 11 yX2_init, .instanceMethod yX2_init, .code yX2_init cX2_init 2 none, .methodLink RX2 3 objectInit, .methodLink RX2 9 Lib.Math.max.name, .static Lib.Math.max.name, .initialized "java/lang/Math", .code Lib.Math.max.name Lib.Math.max.code 2 (some .int), .arrayClass .int, .fieldLink RX2 15 "TarockHall$Row" "items" "[I"] ++ wsX20 ++ wsX50)
def wsX5_begin : List Cond := .code yX5_begin cX5_begin 2 none :: ([.fieldLink RX5 20 "TarockHall$Trick" "leader" "I", .fieldLink RX5 24 "TarockHall$Trick" "size" "I"] ++ wsX50)
def wsX5_add : List Cond := .code yX5_add cX5_add 2 none :: ([.fieldLink RX5 14 "TarockHall$Trick" "cards" "LTarockHall$Row;", .fieldLink RX5 24 "TarockHall$Trick" "size" "I", .methodLink RX5 27 yX2_put, .instanceMethod yX2_put, .selects RX2 yX2_put yX2_put, .initialized RX2, .code yX2_put cX2_put 3 none, .fieldLink RX2 15 "TarockHall$Row" "items" "[I"] ++ wsX50 ++ wsX20)
def wsX5_cardAt : List Cond := .code yX5_cardAt cX5_cardAt 2 (some .int) :: ([.fieldLink RX5 14 "TarockHall$Trick" "cards" "LTarockHall$Row;", .methodLink RX5 31 yX2_at, .instanceMethod yX2_at, .selects RX2 yX2_at yX2_at, .initialized RX2, .code yX2_at cX2_at 2 (some .int), .fieldLink RX2 15 "TarockHall$Row" "items" "[I"] ++ wsX50 ++ wsX20)
def wsX6_suitOf : List Cond := .code yX6_suitOf cX6_suitOf 1 (some .int) :: ([])
def wsX5_ledSuit : List Cond := .code yX5_ledSuit cX5_ledSuit 1 (some .int) :: ([.fieldLink RX5 24 "TarockHall$Trick" "size" "I", .fieldLink RX5 14 "TarockHall$Trick" "cards" "LTarockHall$Row;", .methodLink RX5 31 yX2_at, .instanceMethod yX2_at, .selects RX2 yX2_at yX2_at, .initialized RX2, .code yX2_at cX2_at 2 (some .int), .fieldLink RX2 15 "TarockHall$Row" "items" "[I", .static yX6_suitOf, .initialized RX6, .code yX6_suitOf cX6_suitOf 1 (some .int)] ++ wsX50 ++ wsX20)
def wsX5_cardSet : List Cond := .code yX5_cardSet cX5_cardSet 4 (some .long) :: ([.fieldLink RX5 24 "TarockHall$Trick" "size" "I", .fieldLink RX5 14 "TarockHall$Trick" "cards" "LTarockHall$Row;", .methodLink RX5 31 yX2_at, .instanceMethod yX2_at, .selects RX2 yX2_at yX2_at, .initialized RX2, .code yX2_at cX2_at 2 (some .int), .fieldLink RX2 15 "TarockHall$Row" "items" "[I", .static yX6_only, .initialized RX6, .code yX6_only cX6_only 1 (some .long)] ++ wsX50 ++ wsX20)
def wsX5_playerAt : List Cond := .code yX5_playerAt cX5_playerAt 2 (some .int) :: ([.fieldLink RX5 20 "TarockHall$Trick" "leader" "I"] ++ wsX50)
def wsX5_playerOf : List Cond := .code yX5_playerOf cX5_playerOf 3 (some .int) :: ([.fieldLink RX5 24 "TarockHall$Trick" "size" "I", .fieldLink RX5 14 "TarockHall$Trick" "cards" "LTarockHall$Row;", .methodLink RX5 31 yX2_at, .instanceMethod yX2_at, .selects RX2 yX2_at yX2_at, .initialized RX2, .code yX2_at cX2_at 2 (some .int), .fieldLink RX2 15 "TarockHall$Row" "items" "[I", .methodLink RX5 42 yX5_playerAt, .instanceMethod yX5_playerAt, .selects RX5 yX5_playerAt yX5_playerAt, .initialized RX5, .code yX5_playerAt cX5_playerAt 2 (some .int), .fieldLink RX5 20 "TarockHall$Trick" "leader" "I"] ++ wsX50 ++ wsX20)
def wsX5_beats : List Cond := .code yX5_beats cX5_beats 3 (some .boolean) :: ([.static yX6_suitOf, .initialized RX6, .code yX6_suitOf cX6_suitOf 1 (some .int)])
def wsX5_winner : List Cond := .code yX5_winner cX5_winner 3 (some .int) :: ([.fieldLink RX5 24 "TarockHall$Trick" "size" "I", .fieldLink RX5 14 "TarockHall$Trick" "cards" "LTarockHall$Row;", .methodLink RX5 31 yX2_at, .instanceMethod yX2_at, .selects RX2 yX2_at yX2_at, .initialized RX2, .code yX2_at cX2_at 2 (some .int), .fieldLink RX2 15 "TarockHall$Row" "items" "[I", .methodLink RX5 45 yX5_beats, .static yX5_beats, .initialized RX5, .code yX5_beats cX5_beats 3 (some .boolean), .static yX6_suitOf, .initialized RX6, .code yX6_suitOf cX6_suitOf 1 (some .int), .methodLink RX5 42 yX5_playerAt, .instanceMethod yX5_playerAt, .selects RX5 yX5_playerAt yX5_playerAt, .code yX5_playerAt cX5_playerAt 2 (some .int), .fieldLink RX5 20 "TarockHall$Trick" "leader" "I"] ++ wsX50 ++ wsX20)
def wsX6_init_r1 : List Cond := [Cond.methodLink RX6 3 objectInit, Cond.instanceMethod objectInit, Cond.code objectInit ⟨#[0xb1]⟩ 1 none, Cond.classLink RX6 9 RX1, Cond.instantiable RX1 1, Cond.initialized RX1, Cond.fieldLink RX6 12 "TarockHall" "deck" "LTarockHall$Deck;", Cond.classLink RX6 16 RX0, Cond.instantiable RX0 3, Cond.initialized RX0, Cond.fieldLink RX6 19 "TarockHall" "bidding" "LTarockHall$Bidding;", Cond.classLink RX6 23 RX5, Cond.instantiable RX5 3, Cond.initialized RX5, Cond.fieldLink RX6 26 "TarockHall" "trick" "LTarockHall$Trick;", Cond.classLink RX6 30 RX4, Cond.instantiable RX4 3, Cond.initialized RX4, Cond.fieldLink RX6 33 "TarockHall" "sheet" "LTarockHall$Sheet;", Cond.classLink RX6 37 RX3, Cond.instantiable RX3 1, Cond.initialized RX3, Cond.fieldLink RX6 42 "TarockHall" "hands" "LTarockHall$Sets;", Cond.fieldLink RX6 46 "TarockHall" "piles" "LTarockHall$Sets;"]
def wsX6_init_r2 : List Cond := [Cond.fieldLink RX6 49 "TarockHall" "forehand" "I", Cond.fieldLink RX6 53 "TarockHall" "phase" "I", Cond.fieldLink RX6 56 "TarockHall" "turn" "I", Cond.fieldLink RX6 59 "TarockHall" "declarer" "I", Cond.fieldLink RX6 62 "TarockHall" "called" "I", Cond.fieldLink RX6 65 "TarockHall" "kingOwner" "I", Cond.fieldLink RX6 68 "TarockHall" "partner" "I", Cond.methodLink RX6 11 yX1_init, Cond.instanceMethod yX1_init, Cond.code yX1_init cX1_init 1 none, Cond.methodLink RX1 3 objectInit, Cond.classLink RX1 9 RX2, Cond.instantiable RX2 1, Cond.initialized RX2, Cond.fieldLink RX1 14 "TarockHall$Deck" "row" "LTarockHall$Row;", Cond.methodLink RX1 11 yX2_init, Cond.instanceMethod yX2_init, Cond.code yX2_init cX2_init 2 none, Cond.methodLink RX2 3 objectInit, Cond.methodLink RX2 9 Lib.Math.max.name, Cond.static Lib.Math.max.name, Cond.initialized "java/lang/Math", Cond.code Lib.Math.max.name Lib.Math.max.code 2 (some .int), Cond.arrayClass .int]
def wsX6_init_r3 : List Cond := [Cond.fieldLink RX2 15 "TarockHall$Row" "items" "[I", Cond.methodLink RX6 18 yX0_init, Cond.instanceMethod yX0_init, Cond.code yX0_init cX0_init 1 none, Cond.methodLink RX0 3 objectInit, Cond.fieldLink RX0 9 "TarockHall$Bidding" "bidder" "I", Cond.methodLink RX6 25 yX5_init, Cond.instanceMethod yX5_init, Cond.code yX5_init cX5_init 1 none, Cond.methodLink RX5 3 objectInit, Cond.classLink RX5 9 RX2, Cond.fieldLink RX5 14 "TarockHall$Trick" "cards" "LTarockHall$Row;", Cond.methodLink RX5 11 yX2_init, Cond.methodLink RX6 32 yX4_init, Cond.instanceMethod yX4_init, Cond.code yX4_init cX4_init 1 none, Cond.methodLink RX4 3 objectInit, Cond.classLink RX4 9 RX2, Cond.fieldLink RX4 14 "TarockHall$Sheet" "scores" "LTarockHall$Row;", Cond.fieldLink RX4 20 "TarockHall$Sheet" "radli" "LTarockHall$Row;", Cond.methodLink RX4 11 yX2_init, Cond.methodLink RX6 39 yX3_init, Cond.instanceMethod yX3_init, Cond.code yX3_init cX3_init 2 none]
def wsX6_init_r4 : List Cond := [Cond.methodLink RX3 1 objectInit, Cond.methodLink RX3 7 Lib.Math.max.name, Cond.arrayClass .long, Cond.fieldLink RX3 13 "TarockHall$Sets" "items" "[J"]
def wsX6_init : List Cond := .code yX6_init cX6_init 1 none :: ((wsX6_init_r1 ++ (wsX6_init_r2 ++ (wsX6_init_r3 ++ wsX6_init_r4))) ++ wsX10 ++ wsX60 ++ wsX00 ++ wsX50 ++ wsX40 ++ wsX30 ++ wsX20)
def wsX6_clearDeal_r1 : List Cond := [Cond.fieldLink RX6 19 "TarockHall" "bidding" "LTarockHall$Bidding;", Cond.fieldLink RX6 26 "TarockHall" "trick" "LTarockHall$Trick;", Cond.fieldLink RX6 49 "TarockHall" "forehand" "I", Cond.fieldLink RX6 59 "TarockHall" "declarer" "I", Cond.fieldLink RX6 62 "TarockHall" "called" "I", Cond.fieldLink RX6 65 "TarockHall" "kingOwner" "I", Cond.fieldLink RX6 68 "TarockHall" "partner" "I", Cond.fieldLink RX6 168 "TarockHall" "toLayAway" "I", Cond.fieldLink RX6 191 "TarockHall" "laidAway" "J", Cond.fieldLink RX6 214 "TarockHall" "announced" "I", Cond.fieldLink RX6 199 "TarockHall" "tricks" "I", Cond.fieldLink RX6 46 "TarockHall" "piles" "LTarockHall$Sets;", Cond.methodLink RX6 288 yX0_clear, Cond.instanceMethod yX0_clear, Cond.selects RX0 yX0_clear yX0_clear, Cond.initialized RX0, Cond.code yX0_clear cX0_clear 1 none, Cond.fieldLink RX0 15 "TarockHall$Bidding" "passed" "I", Cond.fieldLink RX0 18 "TarockHall$Bidding" "highest" "I", Cond.fieldLink RX0 9 "TarockHall$Bidding" "bidder" "I", Cond.methodLink RX6 291 yX5_begin, Cond.instanceMethod yX5_begin, Cond.selects RX5 yX5_begin yX5_begin, Cond.initialized RX5]
def wsX6_clearDeal_r2 : List Cond := [Cond.code yX5_begin cX5_begin 2 none, Cond.fieldLink RX5 20 "TarockHall$Trick" "leader" "I", Cond.fieldLink RX5 24 "TarockHall$Trick" "size" "I", Cond.methodLink RX6 158 yX3_put, Cond.instanceMethod yX3_put, Cond.selects RX3 yX3_put yX3_put, Cond.initialized RX3, Cond.code yX3_put cX3_put 4 none, Cond.fieldLink RX3 13 "TarockHall$Sets" "items" "[J"]
def wsX6_clearDeal : List Cond := .code yX6_clearDeal cX6_clearDeal 1 none :: ((wsX6_clearDeal_r1 ++ wsX6_clearDeal_r2) ++ wsX60 ++ wsX00 ++ wsX50 ++ wsX30)
def wsX6_handOut_r1 : List Cond := [Cond.fieldLink RX6 49 "TarockHall" "forehand" "I", Cond.fieldLink RX6 42 "TarockHall" "hands" "LTarockHall$Sets;", Cond.fieldLink RX6 12 "TarockHall" "deck" "LTarockHall$Deck;", Cond.fieldLink RX6 162 "TarockHall" "restOfTalon" "J", Cond.methodLink RX6 150 yX1_cardsFrom, Cond.instanceMethod yX1_cardsFrom, Cond.selects RX1 yX1_cardsFrom yX1_cardsFrom, Cond.initialized RX1, Cond.code yX1_cardsFrom cX1_cardsFrom 6 (some .long), Cond.fieldLink RX1 14 "TarockHall$Deck" "row" "LTarockHall$Row;", Cond.methodLink RX1 28 yX2_at, Cond.instanceMethod yX2_at, Cond.selects RX2 yX2_at yX2_at, Cond.initialized RX2, Cond.code yX2_at cX2_at 2 (some .int), Cond.fieldLink RX2 15 "TarockHall$Row" "items" "[I", Cond.static yX6_only, Cond.initialized RX6, Cond.code yX6_only cX6_only 1 (some .long), Cond.methodLink RX6 158 yX3_put, Cond.instanceMethod yX3_put, Cond.selects RX3 yX3_put yX3_put, Cond.initialized RX3, Cond.code yX3_put cX3_put 4 none]
def wsX6_handOut_r2 : List Cond := [Cond.fieldLink RX3 13 "TarockHall$Sets" "items" "[J", Cond.methodLink RX6 84 yX6_behind, Cond.static yX6_behind, Cond.code yX6_behind cX6_behind 1 (some .int)]
def wsX6_handOut : List Cond := .code yX6_handOut cX6_handOut 3 none :: ((wsX6_handOut_r1 ++ wsX6_handOut_r2) ++ wsX60 ++ wsX10 ++ wsX20 ++ wsX30)
def wsX6_deal_r1 : List Cond := [Cond.classLink RX6 72 "java/lang/IllegalArgumentException", Cond.initialized "java/lang/IllegalArgumentException", Cond.classLink RX6 79 "java/lang/IllegalStateException", Cond.initialized "java/lang/IllegalStateException", Cond.constant RX6 71 (65536), Cond.fieldLink RX6 53 "TarockHall" "phase" "I", Cond.fieldLink RX6 49 "TarockHall" "forehand" "I", Cond.fieldLink RX6 12 "TarockHall" "deck" "LTarockHall$Deck;", Cond.fieldLink RX6 56 "TarockHall" "turn" "I", Cond.methodLink RX6 84 yX6_behind, Cond.static yX6_behind, Cond.initialized RX6, Cond.code yX6_behind cX6_behind 1 (some .int), Cond.methodLink RX6 88 yX6_clearDeal, Cond.instanceMethod yX6_clearDeal, Cond.selects RX6 yX6_clearDeal yX6_clearDeal, Cond.code yX6_clearDeal cX6_clearDeal 1 none, Cond.fieldLink RX6 19 "TarockHall" "bidding" "LTarockHall$Bidding;", Cond.fieldLink RX6 26 "TarockHall" "trick" "LTarockHall$Trick;", Cond.fieldLink RX6 59 "TarockHall" "declarer" "I", Cond.fieldLink RX6 62 "TarockHall" "called" "I", Cond.fieldLink RX6 65 "TarockHall" "kingOwner" "I", Cond.fieldLink RX6 68 "TarockHall" "partner" "I", Cond.fieldLink RX6 168 "TarockHall" "toLayAway" "I"]
def wsX6_deal_r2 : List Cond := [Cond.fieldLink RX6 191 "TarockHall" "laidAway" "J", Cond.fieldLink RX6 214 "TarockHall" "announced" "I", Cond.fieldLink RX6 199 "TarockHall" "tricks" "I", Cond.fieldLink RX6 46 "TarockHall" "piles" "LTarockHall$Sets;", Cond.methodLink RX6 288 yX0_clear, Cond.instanceMethod yX0_clear, Cond.selects RX0 yX0_clear yX0_clear, Cond.initialized RX0, Cond.code yX0_clear cX0_clear 1 none, Cond.fieldLink RX0 15 "TarockHall$Bidding" "passed" "I", Cond.fieldLink RX0 18 "TarockHall$Bidding" "highest" "I", Cond.fieldLink RX0 9 "TarockHall$Bidding" "bidder" "I", Cond.methodLink RX6 291 yX5_begin, Cond.instanceMethod yX5_begin, Cond.selects RX5 yX5_begin yX5_begin, Cond.initialized RX5, Cond.code yX5_begin cX5_begin 2 none, Cond.fieldLink RX5 20 "TarockHall$Trick" "leader" "I", Cond.fieldLink RX5 24 "TarockHall$Trick" "size" "I", Cond.methodLink RX6 158 yX3_put, Cond.instanceMethod yX3_put, Cond.selects RX3 yX3_put yX3_put, Cond.initialized RX3, Cond.code yX3_put cX3_put 4 none]
def wsX6_deal_r3 : List Cond := [Cond.fieldLink RX3 13 "TarockHall$Sets" "items" "[J", Cond.methodLink RX6 91 yX1_shuffle, Cond.instanceMethod yX1_shuffle, Cond.selects RX1 yX1_shuffle yX1_shuffle, Cond.initialized RX1, Cond.code yX1_shuffle cX1_shuffle 4 none, Cond.fieldLink RX1 14 "TarockHall$Deck" "row" "LTarockHall$Row;", Cond.constant RX1 24 (65536), Cond.methodLink RX1 20 yX2_put, Cond.instanceMethod yX2_put, Cond.selects RX2 yX2_put yX2_put, Cond.initialized RX2, Cond.code yX2_put cX2_put 3 none, Cond.fieldLink RX2 15 "TarockHall$Row" "items" "[I", Cond.methodLink RX1 25 yX1_swap, Cond.instanceMethod yX1_swap, Cond.selects RX1 yX1_swap yX1_swap, Cond.code yX1_swap cX1_swap 4 none, Cond.methodLink RX1 28 yX2_at, Cond.instanceMethod yX2_at, Cond.selects RX2 yX2_at yX2_at, Cond.code yX2_at cX2_at 2 (some .int), Cond.methodLink RX6 94 yX6_handOut, Cond.instanceMethod yX6_handOut]
def wsX6_deal_r4 : List Cond := [Cond.selects RX6 yX6_handOut yX6_handOut, Cond.code yX6_handOut cX6_handOut 3 none, Cond.fieldLink RX6 42 "TarockHall" "hands" "LTarockHall$Sets;", Cond.fieldLink RX6 162 "TarockHall" "restOfTalon" "J", Cond.methodLink RX6 150 yX1_cardsFrom, Cond.instanceMethod yX1_cardsFrom, Cond.selects RX1 yX1_cardsFrom yX1_cardsFrom, Cond.code yX1_cardsFrom cX1_cardsFrom 6 (some .long), Cond.static yX6_only, Cond.code yX6_only cX6_only 1 (some .long)]
def wsX6_deal : List Cond := .code yX6_deal cX6_deal 2 (some .int) :: ((wsX6_deal_r1 ++ (wsX6_deal_r2 ++ (wsX6_deal_r3 ++ wsX6_deal_r4))) ++ wsX60 ++ wsX00 ++ wsX50 ++ wsX30 ++ wsX10 ++ wsX20 ++ (vx_atS RX6 76 "java/lang/IllegalArgumentException" ["java/lang/RuntimeException", "java/lang/Exception"]).filter goodWord ++ (vx_atS RX6 83 "java/lang/IllegalStateException" ["java/lang/RuntimeException", "java/lang/Exception"]).filter goodWord)
def wsX6_endDeal : List Cond := .code yX6_endDeal cX6_endDeal 1 none :: ([.fieldLink RX6 53 "TarockHall" "phase" "I", .fieldLink RX6 56 "TarockHall" "turn" "I"] ++ wsX60)
def wsX6_beginPlay : List Cond := .code yX6_beginPlay cX6_beginPlay 1 none :: ([.fieldLink RX6 46 "TarockHall" "piles" "LTarockHall$Sets;", .fieldLink RX6 191 "TarockHall" "laidAway" "J", .fieldLink RX6 162 "TarockHall" "restOfTalon" "J", .fieldLink RX6 53 "TarockHall" "phase" "I", .fieldLink RX6 49 "TarockHall" "forehand" "I", .fieldLink RX6 56 "TarockHall" "turn" "I", .methodLink RX6 158 yX3_put, .instanceMethod yX3_put, .selects RX3 yX3_put yX3_put, .initialized RX3, .code yX3_put cX3_put 4 none, .fieldLink RX3 13 "TarockHall$Sets" "items" "[J"] ++ wsX60 ++ wsX30)
def wsX6_beginGame : List Cond := .code yX6_beginGame cX6_beginGame 1 none :: ([.fieldLink RX6 19 "TarockHall" "bidding" "LTarockHall$Bidding;", .fieldLink RX6 59 "TarockHall" "declarer" "I", .fieldLink RX6 56 "TarockHall" "turn" "I", .fieldLink RX6 53 "TarockHall" "phase" "I", .methodLink RX6 194 yX6_beginPlay, .instanceMethod yX6_beginPlay, .selects RX6 yX6_beginPlay yX6_beginPlay, .initialized RX6, .code yX6_beginPlay cX6_beginPlay 1 none, .fieldLink RX6 46 "TarockHall" "piles" "LTarockHall$Sets;", .fieldLink RX6 191 "TarockHall" "laidAway" "J", .fieldLink RX6 162 "TarockHall" "restOfTalon" "J", .fieldLink RX6 49 "TarockHall" "forehand" "I", .methodLink RX6 158 yX3_put, .instanceMethod yX3_put, .selects RX3 yX3_put yX3_put, .initialized RX3, .code yX3_put cX3_put 4 none, .fieldLink RX3 13 "TarockHall$Sets" "items" "[J"] ++ wsX60 ++ wsX00 ++ wsX30)
def wsX6_bid_r1 : List Cond := [Cond.classLink RX6 72 "java/lang/IllegalArgumentException", Cond.initialized "java/lang/IllegalArgumentException", Cond.classLink RX6 79 "java/lang/IllegalStateException", Cond.initialized "java/lang/IllegalStateException", Cond.fieldLink RX6 53 "TarockHall" "phase" "I", Cond.fieldLink RX6 19 "TarockHall" "bidding" "LTarockHall$Bidding;", Cond.fieldLink RX6 56 "TarockHall" "turn" "I", Cond.methodLink RX6 106 yX0_enter, Cond.instanceMethod yX0_enter, Cond.selects RX0 yX0_enter yX0_enter, Cond.initialized RX0, Cond.code yX0_enter cX0_enter 3 none, Cond.fieldLink RX0 15 "TarockHall$Bidding" "passed" "I", Cond.fieldLink RX0 18 "TarockHall$Bidding" "highest" "I", Cond.fieldLink RX0 9 "TarockHall$Bidding" "bidder" "I", Cond.methodLink RX6 110 yX0_allPassed, Cond.instanceMethod yX0_allPassed, Cond.selects RX0 yX0_allPassed yX0_allPassed, Cond.code yX0_allPassed cX0_allPassed 1 (some .boolean), Cond.methodLink RX0 21 yJ6_bitCount_0f7a4, Cond.static yJ6_bitCount_0f7a4, Cond.initialized RJ6, Cond.code yJ6_bitCount_0f7a4 cJ6_bitCount_0f7a4 1 (some .int), Cond.constant RJ6 265 (1431655765)]
def wsX6_bid_r2 : List Cond := [Cond.constant RJ6 266 (858993459), Cond.constant RJ6 267 (252645135), Cond.methodLink RX6 114 yX6_endDeal, Cond.instanceMethod yX6_endDeal, Cond.selects RX6 yX6_endDeal yX6_endDeal, Cond.initialized RX6, Cond.code yX6_endDeal cX6_endDeal 1 none, Cond.methodLink RX6 117 yX0_isSettled, Cond.instanceMethod yX0_isSettled, Cond.selects RX0 yX0_isSettled yX0_isSettled, Cond.code yX0_isSettled cX0_isSettled 1 (some .boolean), Cond.methodLink RX6 120 yX6_beginGame, Cond.instanceMethod yX6_beginGame, Cond.selects RX6 yX6_beginGame yX6_beginGame, Cond.code yX6_beginGame cX6_beginGame 1 none, Cond.fieldLink RX6 59 "TarockHall" "declarer" "I", Cond.methodLink RX6 194 yX6_beginPlay, Cond.instanceMethod yX6_beginPlay, Cond.selects RX6 yX6_beginPlay yX6_beginPlay, Cond.code yX6_beginPlay cX6_beginPlay 1 none, Cond.fieldLink RX6 46 "TarockHall" "piles" "LTarockHall$Sets;", Cond.fieldLink RX6 191 "TarockHall" "laidAway" "J", Cond.fieldLink RX6 162 "TarockHall" "restOfTalon" "J", Cond.fieldLink RX6 49 "TarockHall" "forehand" "I"]
def wsX6_bid_r3 : List Cond := [Cond.methodLink RX6 158 yX3_put, Cond.instanceMethod yX3_put, Cond.selects RX3 yX3_put yX3_put, Cond.initialized RX3, Cond.code yX3_put cX3_put 4 none, Cond.fieldLink RX3 13 "TarockHall$Sets" "items" "[J", Cond.methodLink RX6 123 yX0_nextBehind, Cond.instanceMethod yX0_nextBehind, Cond.selects RX0 yX0_nextBehind yX0_nextBehind, Cond.code yX0_nextBehind cX0_nextBehind 4 (some .int), Cond.static yX6_behind, Cond.code yX6_behind cX6_behind 1 (some .int), Cond.methodLink RX0 30 yX0_hasPassed, Cond.instanceMethod yX0_hasPassed, Cond.selects RX0 yX0_hasPassed yX0_hasPassed, Cond.code yX0_hasPassed cX0_hasPassed 2 (some .boolean)]
def wsX6_bid : List Cond := .code yX6_bid cX6_bid 2 (some .int) :: ((wsX6_bid_r1 ++ (wsX6_bid_r2 ++ wsX6_bid_r3)) ++ wsX60 ++ wsX00 ++ wsX30 ++ (vx_atS RX6 76 "java/lang/IllegalArgumentException" ["java/lang/RuntimeException", "java/lang/Exception"]).filter goodWord ++ (vx_atS RX6 83 "java/lang/IllegalStateException" ["java/lang/RuntimeException", "java/lang/Exception"]).filter goodWord)
def wsX6_calledKing : List Cond := .code yX6_calledKing cX6_calledKing 1 (some .int) :: ([.fieldLink RX6 62 "TarockHall" "called" "I"] ++ wsX60)
def wsX6_holds : List Cond := .code yX6_holds cX6_holds 3 (some .boolean) :: ([])
def wsX6_ownerOf : List Cond := .code yX6_ownerOf cX6_ownerOf 3 (some .int) :: ([.fieldLink RX6 42 "TarockHall" "hands" "LTarockHall$Sets;", .methodLink RX6 154 yX3_at, .instanceMethod yX3_at, .selects RX3 yX3_at yX3_at, .initialized RX3, .code yX3_at cX3_at 2 (some .long), .fieldLink RX3 13 "TarockHall$Sets" "items" "[J", .methodLink RX6 179 yX6_holds, .static yX6_holds, .initialized RX6, .code yX6_holds cX6_holds 3 (some .boolean)] ++ wsX60 ++ wsX30)
def wsX6_call_r1 : List Cond := [Cond.classLink RX6 126 "java/lang/IndexOutOfBoundsException", Cond.initialized "java/lang/IndexOutOfBoundsException", Cond.classLink RX6 79 "java/lang/IllegalStateException", Cond.initialized "java/lang/IllegalStateException", Cond.fieldLink RX6 53 "TarockHall" "phase" "I", Cond.fieldLink RX6 62 "TarockHall" "called" "I", Cond.fieldLink RX6 65 "TarockHall" "kingOwner" "I", Cond.fieldLink RX6 59 "TarockHall" "declarer" "I", Cond.fieldLink RX6 68 "TarockHall" "partner" "I", Cond.methodLink RX6 133 yX6_calledKing, Cond.instanceMethod yX6_calledKing, Cond.selects RX6 yX6_calledKing yX6_calledKing, Cond.initialized RX6, Cond.code yX6_calledKing cX6_calledKing 1 (some .int), Cond.methodLink RX6 137 yX6_ownerOf, Cond.instanceMethod yX6_ownerOf, Cond.selects RX6 yX6_ownerOf yX6_ownerOf, Cond.code yX6_ownerOf cX6_ownerOf 3 (some .int), Cond.fieldLink RX6 42 "TarockHall" "hands" "LTarockHall$Sets;", Cond.methodLink RX6 154 yX3_at, Cond.instanceMethod yX3_at, Cond.selects RX3 yX3_at yX3_at, Cond.initialized RX3, Cond.code yX3_at cX3_at 2 (some .long)]
def wsX6_call_r2 : List Cond := [Cond.fieldLink RX3 13 "TarockHall$Sets" "items" "[J", Cond.methodLink RX6 179 yX6_holds, Cond.static yX6_holds, Cond.code yX6_holds cX6_holds 3 (some .boolean)]
def wsX6_call : List Cond := .code yX6_call cX6_call 2 (some .int) :: ((wsX6_call_r1 ++ wsX6_call_r2) ++ wsX60 ++ wsX30 ++ (vx_atS RX6 130 "java/lang/IndexOutOfBoundsException" ["java/lang/RuntimeException", "java/lang/Exception"]).filter goodWord ++ (vx_atS RX6 83 "java/lang/IllegalStateException" ["java/lang/RuntimeException", "java/lang/Exception"]).filter goodWord)
def wsX6_groupsAt : List Cond := .code yX6_groupsAt cX6_groupsAt 1 (some .int) :: ([])
def wsX6_groupsNow : List Cond := .code yX6_groupsNow cX6_groupsNow 1 (some .int) :: ([.fieldLink RX6 53 "TarockHall" "phase" "I", .fieldLink RX6 19 "TarockHall" "bidding" "LTarockHall$Bidding;", .methodLink RX6 334 yX6_groupsAt, .static yX6_groupsAt, .initialized RX6, .code yX6_groupsAt cX6_groupsAt 1 (some .int)] ++ wsX60 ++ wsX00)
def wsX6_groupSize : List Cond := .code yX6_groupSize cX6_groupSize 1 (some .int) :: ([])
def wsX6_take_r1 : List Cond := [Cond.classLink RX6 126 "java/lang/IndexOutOfBoundsException", Cond.initialized "java/lang/IndexOutOfBoundsException", Cond.classLink RX6 79 "java/lang/IllegalStateException", Cond.initialized "java/lang/IllegalStateException", Cond.fieldLink RX6 53 "TarockHall" "phase" "I", Cond.fieldLink RX6 19 "TarockHall" "bidding" "LTarockHall$Bidding;", Cond.fieldLink RX6 12 "TarockHall" "deck" "LTarockHall$Deck;", Cond.fieldLink RX6 42 "TarockHall" "hands" "LTarockHall$Sets;", Cond.fieldLink RX6 59 "TarockHall" "declarer" "I", Cond.fieldLink RX6 162 "TarockHall" "restOfTalon" "J", Cond.constantLong RX6 166 (-1), Cond.fieldLink RX6 168 "TarockHall" "toLayAway" "I", Cond.methodLink RX6 140 yX6_groupsNow, Cond.instanceMethod yX6_groupsNow, Cond.selects RX6 yX6_groupsNow yX6_groupsNow, Cond.initialized RX6, Cond.code yX6_groupsNow cX6_groupsNow 1 (some .int), Cond.methodLink RX6 334 yX6_groupsAt, Cond.static yX6_groupsAt, Cond.code yX6_groupsAt cX6_groupsAt 1 (some .int), Cond.methodLink RX6 147 yX6_groupSize, Cond.static yX6_groupSize, Cond.code yX6_groupSize cX6_groupSize 1 (some .int), Cond.methodLink RX6 150 yX1_cardsFrom]
def wsX6_take_r2 : List Cond := [Cond.instanceMethod yX1_cardsFrom, Cond.selects RX1 yX1_cardsFrom yX1_cardsFrom, Cond.initialized RX1, Cond.code yX1_cardsFrom cX1_cardsFrom 6 (some .long), Cond.fieldLink RX1 14 "TarockHall$Deck" "row" "LTarockHall$Row;", Cond.methodLink RX1 28 yX2_at, Cond.instanceMethod yX2_at, Cond.selects RX2 yX2_at yX2_at, Cond.initialized RX2, Cond.code yX2_at cX2_at 2 (some .int), Cond.fieldLink RX2 15 "TarockHall$Row" "items" "[I", Cond.static yX6_only, Cond.code yX6_only cX6_only 1 (some .long), Cond.methodLink RX6 154 yX3_at, Cond.instanceMethod yX3_at, Cond.selects RX3 yX3_at yX3_at, Cond.initialized RX3, Cond.code yX3_at cX3_at 2 (some .long), Cond.fieldLink RX3 13 "TarockHall$Sets" "items" "[J", Cond.methodLink RX6 158 yX3_put, Cond.instanceMethod yX3_put, Cond.selects RX3 yX3_put yX3_put, Cond.code yX3_put cX3_put 4 none]
def wsX6_take : List Cond := .code yX6_take cX6_take 5 (some .int) :: ((wsX6_take_r1 ++ wsX6_take_r2) ++ wsX60 ++ wsX00 ++ wsX10 ++ wsX20 ++ wsX30 ++ (vx_atS RX6 130 "java/lang/IndexOutOfBoundsException" ["java/lang/RuntimeException", "java/lang/Exception"]).filter goodWord ++ (vx_atS RX6 83 "java/lang/IllegalStateException" ["java/lang/RuntimeException", "java/lang/Exception"]).filter goodWord)
def wsX6_isCard : List Cond := .code yX6_isCard cX6_isCard 1 (some .boolean) :: ([])
def wsX6_worth : List Cond := .code yX6_worth cX6_worth 2 (some .int) :: ([.methodLink RX6 344 yX6_suitOf, .static yX6_suitOf, .initialized RX6, .code yX6_suitOf cX6_suitOf 1 (some .int)])
def wsX6_canBeLaidAway : List Cond := .code yX6_canBeLaidAway cX6_canBeLaidAway 1 (some .boolean) :: ([.methodLink RX6 254 yX6_worth, .static yX6_worth, .initialized RX6, .code yX6_worth cX6_worth 2 (some .int), .methodLink RX6 344 yX6_suitOf, .static yX6_suitOf, .code yX6_suitOf cX6_suitOf 1 (some .int)])
def wsX6_discard_r1 : List Cond := [Cond.classLink RX6 126 "java/lang/IndexOutOfBoundsException", Cond.initialized "java/lang/IndexOutOfBoundsException", Cond.classLink RX6 79 "java/lang/IllegalStateException", Cond.initialized "java/lang/IllegalStateException", Cond.fieldLink RX6 53 "TarockHall" "phase" "I", Cond.fieldLink RX6 42 "TarockHall" "hands" "LTarockHall$Sets;", Cond.fieldLink RX6 59 "TarockHall" "declarer" "I", Cond.constantLong RX6 166 (-1), Cond.fieldLink RX6 191 "TarockHall" "laidAway" "J", Cond.fieldLink RX6 168 "TarockHall" "toLayAway" "I", Cond.methodLink RX6 171 yX6_isCard, Cond.static yX6_isCard, Cond.initialized RX6, Cond.code yX6_isCard cX6_isCard 1 (some .boolean), Cond.methodLink RX6 154 yX3_at, Cond.instanceMethod yX3_at, Cond.selects RX3 yX3_at yX3_at, Cond.initialized RX3, Cond.code yX3_at cX3_at 2 (some .long), Cond.fieldLink RX3 13 "TarockHall$Sets" "items" "[J", Cond.methodLink RX6 179 yX6_holds, Cond.static yX6_holds, Cond.code yX6_holds cX6_holds 3 (some .boolean), Cond.methodLink RX6 183 yX6_canBeLaidAway]
def wsX6_discard_r2 : List Cond := [Cond.static yX6_canBeLaidAway, Cond.code yX6_canBeLaidAway cX6_canBeLaidAway 1 (some .boolean), Cond.methodLink RX6 254 yX6_worth, Cond.static yX6_worth, Cond.code yX6_worth cX6_worth 2 (some .int), Cond.methodLink RX6 344 yX6_suitOf, Cond.static yX6_suitOf, Cond.code yX6_suitOf cX6_suitOf 1 (some .int), Cond.methodLink RX6 188 yX6_only, Cond.static yX6_only, Cond.code yX6_only cX6_only 1 (some .long), Cond.methodLink RX6 158 yX3_put, Cond.instanceMethod yX3_put, Cond.selects RX3 yX3_put yX3_put, Cond.code yX3_put cX3_put 4 none, Cond.methodLink RX6 194 yX6_beginPlay, Cond.instanceMethod yX6_beginPlay, Cond.selects RX6 yX6_beginPlay yX6_beginPlay, Cond.code yX6_beginPlay cX6_beginPlay 1 none, Cond.fieldLink RX6 46 "TarockHall" "piles" "LTarockHall$Sets;", Cond.fieldLink RX6 162 "TarockHall" "restOfTalon" "J", Cond.fieldLink RX6 49 "TarockHall" "forehand" "I", Cond.fieldLink RX6 56 "TarockHall" "turn" "I"]
def wsX6_discard : List Cond := .code yX6_discard cX6_discard 4 (some .int) :: ((wsX6_discard_r1 ++ wsX6_discard_r2) ++ wsX60 ++ wsX30 ++ (vx_atS RX6 130 "java/lang/IndexOutOfBoundsException" ["java/lang/RuntimeException", "java/lang/Exception"]).filter goodWord ++ (vx_atS RX6 83 "java/lang/IllegalStateException" ["java/lang/RuntimeException", "java/lang/Exception"]).filter goodWord)
def wsX6_isAnnounced : List Cond := .code yX6_isAnnounced cX6_isAnnounced 2 (some .boolean) :: ([.fieldLink RX6 214 "TarockHall" "announced" "I"] ++ wsX60)
def wsX6_announce : List Cond := .code yX6_announce cX6_announce 2 (some .int) :: ([.classLink RX6 126 "java/lang/IndexOutOfBoundsException", .initialized "java/lang/IndexOutOfBoundsException", .classLink RX6 79 "java/lang/IllegalStateException", .initialized "java/lang/IllegalStateException", .fieldLink RX6 53 "TarockHall" "phase" "I", .fieldLink RX6 199 "TarockHall" "tricks" "I", .fieldLink RX6 26 "TarockHall" "trick" "LTarockHall$Trick;", .fieldLink RX6 19 "TarockHall" "bidding" "LTarockHall$Bidding;", .fieldLink RX6 214 "TarockHall" "announced" "I", .methodLink RX6 207 yX6_isAnnounced, .instanceMethod yX6_isAnnounced, .selects RX6 yX6_isAnnounced yX6_isAnnounced, .initialized RX6, .code yX6_isAnnounced cX6_isAnnounced 2 (some .boolean), .methodLink RX6 217 yJ6_bitCount_0f7a4, .static yJ6_bitCount_0f7a4, .initialized RJ6, .code yJ6_bitCount_0f7a4 cJ6_bitCount_0f7a4 1 (some .int), .constant RJ6 265 (1431655765), .constant RJ6 266 (858993459), .constant RJ6 267 (252645135)] ++ wsX60 ++ wsX50 ++ wsX00 ++ (vx_atS RX6 130 "java/lang/IndexOutOfBoundsException" ["java/lang/RuntimeException", "java/lang/Exception"]).filter goodWord ++ (vx_atS RX6 83 "java/lang/IllegalStateException" ["java/lang/RuntimeException", "java/lang/Exception"]).filter goodWord)
def wsX6_cardsOfSuit : List Cond := .code yX6_cardsOfSuit cX6_cardsOfSuit 5 (some .long) :: ([.constantLong RX6 355 (-4294967296), .constantLong RX6 357 (255)])
def wsX6_playableOf : List Cond := .code yX6_playableOf cX6_playableOf 7 (some .long) :: ([.methodLink RX6 359 yX6_cardsOfSuit, .static yX6_cardsOfSuit, .initialized RX6, .code yX6_cardsOfSuit cX6_cardsOfSuit 5 (some .long), .constantLong RX6 355 (-4294967296), .constantLong RX6 357 (255)])
def wsX6_playableNow_r1 : List Cond := [Cond.fieldLink RX6 53 "TarockHall" "phase" "I", Cond.fieldLink RX6 42 "TarockHall" "hands" "LTarockHall$Sets;", Cond.fieldLink RX6 56 "TarockHall" "turn" "I", Cond.fieldLink RX6 26 "TarockHall" "trick" "LTarockHall$Trick;", Cond.methodLink RX6 154 yX3_at, Cond.instanceMethod yX3_at, Cond.selects RX3 yX3_at yX3_at, Cond.initialized RX3, Cond.code yX3_at cX3_at 2 (some .long), Cond.fieldLink RX3 13 "TarockHall$Sets" "items" "[J", Cond.methodLink RX6 337 yX5_ledSuit, Cond.instanceMethod yX5_ledSuit, Cond.selects RX5 yX5_ledSuit yX5_ledSuit, Cond.initialized RX5, Cond.code yX5_ledSuit cX5_ledSuit 1 (some .int), Cond.fieldLink RX5 24 "TarockHall$Trick" "size" "I", Cond.fieldLink RX5 14 "TarockHall$Trick" "cards" "LTarockHall$Row;", Cond.methodLink RX5 31 yX2_at, Cond.instanceMethod yX2_at, Cond.selects RX2 yX2_at yX2_at, Cond.initialized RX2, Cond.code yX2_at cX2_at 2 (some .int), Cond.fieldLink RX2 15 "TarockHall$Row" "items" "[I", Cond.static yX6_suitOf]
def wsX6_playableNow_r2 : List Cond := [Cond.initialized RX6, Cond.code yX6_suitOf cX6_suitOf 1 (some .int), Cond.methodLink RX6 340 yX6_playableOf, Cond.static yX6_playableOf, Cond.code yX6_playableOf cX6_playableOf 7 (some .long), Cond.methodLink RX6 359 yX6_cardsOfSuit, Cond.static yX6_cardsOfSuit, Cond.code yX6_cardsOfSuit cX6_cardsOfSuit 5 (some .long), Cond.constantLong RX6 355 (-4294967296), Cond.constantLong RX6 357 (255)]
def wsX6_playableNow : List Cond := .code yX6_playableNow cX6_playableNow 1 (some .long) :: ((wsX6_playableNow_r1 ++ wsX6_playableNow_r2) ++ wsX60 ++ wsX30 ++ wsX50 ++ wsX20)
def wsX6_sideOf : List Cond := .code yX6_sideOf cX6_sideOf 2 (some .int) :: ([.fieldLink RX6 59 "TarockHall" "declarer" "I", .fieldLink RX6 68 "TarockHall" "partner" "I"] ++ wsX60)
def wsX6_thirdsOf : List Cond := .code yX6_thirdsOf cX6_thirdsOf 4 (some .int) :: ([.methodLink RX6 179 yX6_holds, .static yX6_holds, .initialized RX6, .code yX6_holds cX6_holds 3 (some .boolean), .methodLink RX6 254 yX6_worth, .static yX6_worth, .code yX6_worth cX6_worth 2 (some .int), .methodLink RX6 344 yX6_suitOf, .static yX6_suitOf, .code yX6_suitOf cX6_suitOf 1 (some .int)])
def wsX6_basePoints : List Cond := .code yX6_basePoints cX6_basePoints 1 (some .int) :: ([])
def wsX6_isWon : List Cond := .code yX6_isWon cX6_isWon 1 (some .boolean) :: ([])
def wsX6_gamePoints : List Cond := .code yX6_gamePoints cX6_gamePoints 3 (some .int) :: ([.methodLink RX6 350 Lib.Math.abs.name, .static Lib.Math.abs.name, .initialized "java/lang/Math", .code Lib.Math.abs.name Lib.Math.abs.code 1 (some .int), .methodLink RX6 347 yX6_basePoints, .static yX6_basePoints, .initialized RX6, .code yX6_basePoints cX6_basePoints 1 (some .int), .methodLink RX6 322 yX6_isWon, .static yX6_isWon, .code yX6_isWon cX6_isWon 1 (some .boolean)])
def wsX6_pagatPoints_r1 : List Cond := [Cond.fieldLink RX6 26 "TarockHall" "trick" "LTarockHall$Trick;", Cond.methodLink RX6 331 yX5_playerOf, Cond.instanceMethod yX5_playerOf, Cond.selects RX5 yX5_playerOf yX5_playerOf, Cond.initialized RX5, Cond.code yX5_playerOf cX5_playerOf 3 (some .int), Cond.fieldLink RX5 24 "TarockHall$Trick" "size" "I", Cond.fieldLink RX5 14 "TarockHall$Trick" "cards" "LTarockHall$Row;", Cond.methodLink RX5 31 yX2_at, Cond.instanceMethod yX2_at, Cond.selects RX2 yX2_at yX2_at, Cond.initialized RX2, Cond.code yX2_at cX2_at 2 (some .int), Cond.fieldLink RX2 15 "TarockHall$Row" "items" "[I", Cond.methodLink RX5 42 yX5_playerAt, Cond.instanceMethod yX5_playerAt, Cond.selects RX5 yX5_playerAt yX5_playerAt, Cond.code yX5_playerAt cX5_playerAt 2 (some .int), Cond.fieldLink RX5 20 "TarockHall$Trick" "leader" "I", Cond.methodLink RX6 285 yX6_sideOf, Cond.instanceMethod yX6_sideOf, Cond.selects RX6 yX6_sideOf yX6_sideOf, Cond.initialized RX6, Cond.code yX6_sideOf cX6_sideOf 2 (some .int)]
def wsX6_pagatPoints_r2 : List Cond := [Cond.fieldLink RX6 59 "TarockHall" "declarer" "I", Cond.fieldLink RX6 68 "TarockHall" "partner" "I", Cond.methodLink RX6 207 yX6_isAnnounced, Cond.instanceMethod yX6_isAnnounced, Cond.selects RX6 yX6_isAnnounced yX6_isAnnounced, Cond.code yX6_isAnnounced cX6_isAnnounced 2 (some .boolean), Cond.fieldLink RX6 214 "TarockHall" "announced" "I"]
def wsX6_pagatPoints : List Cond := .code yX6_pagatPoints cX6_pagatPoints 5 (some .int) :: ((wsX6_pagatPoints_r1 ++ wsX6_pagatPoints_r2) ++ wsX60 ++ wsX50 ++ wsX20)
def wsX6_kingPoints_r1 : List Cond := [Cond.fieldLink RX6 62 "TarockHall" "called" "I", Cond.fieldLink RX6 26 "TarockHall" "trick" "LTarockHall$Trick;", Cond.methodLink RX6 133 yX6_calledKing, Cond.instanceMethod yX6_calledKing, Cond.selects RX6 yX6_calledKing yX6_calledKing, Cond.initialized RX6, Cond.code yX6_calledKing cX6_calledKing 1 (some .int), Cond.methodLink RX6 331 yX5_playerOf, Cond.instanceMethod yX5_playerOf, Cond.selects RX5 yX5_playerOf yX5_playerOf, Cond.initialized RX5, Cond.code yX5_playerOf cX5_playerOf 3 (some .int), Cond.fieldLink RX5 24 "TarockHall$Trick" "size" "I", Cond.fieldLink RX5 14 "TarockHall$Trick" "cards" "LTarockHall$Row;", Cond.methodLink RX5 31 yX2_at, Cond.instanceMethod yX2_at, Cond.selects RX2 yX2_at yX2_at, Cond.initialized RX2, Cond.code yX2_at cX2_at 2 (some .int), Cond.fieldLink RX2 15 "TarockHall$Row" "items" "[I", Cond.methodLink RX5 42 yX5_playerAt, Cond.instanceMethod yX5_playerAt, Cond.selects RX5 yX5_playerAt yX5_playerAt, Cond.code yX5_playerAt cX5_playerAt 2 (some .int)]
def wsX6_kingPoints_r2 : List Cond := [Cond.fieldLink RX5 20 "TarockHall$Trick" "leader" "I", Cond.methodLink RX6 285 yX6_sideOf, Cond.instanceMethod yX6_sideOf, Cond.selects RX6 yX6_sideOf yX6_sideOf, Cond.code yX6_sideOf cX6_sideOf 2 (some .int), Cond.fieldLink RX6 59 "TarockHall" "declarer" "I", Cond.fieldLink RX6 68 "TarockHall" "partner" "I", Cond.methodLink RX6 207 yX6_isAnnounced, Cond.instanceMethod yX6_isAnnounced, Cond.selects RX6 yX6_isAnnounced yX6_isAnnounced, Cond.code yX6_isAnnounced cX6_isAnnounced 2 (some .boolean), Cond.fieldLink RX6 214 "TarockHall" "announced" "I"]
def wsX6_kingPoints : List Cond := .code yX6_kingPoints cX6_kingPoints 4 (some .int) :: ((wsX6_kingPoints_r1 ++ wsX6_kingPoints_r2) ++ wsX60 ++ wsX50 ++ wsX20)
def wsX6_enterResult_r1 : List Cond := [Cond.fieldLink RX6 19 "TarockHall" "bidding" "LTarockHall$Bidding;", Cond.fieldLink RX6 46 "TarockHall" "piles" "LTarockHall$Sets;", Cond.fieldLink RX6 33 "TarockHall" "sheet" "LTarockHall$Sheet;", Cond.fieldLink RX6 59 "TarockHall" "declarer" "I", Cond.fieldLink RX6 68 "TarockHall" "partner" "I", Cond.methodLink RX6 154 yX3_at, Cond.instanceMethod yX3_at, Cond.selects RX3 yX3_at yX3_at, Cond.initialized RX3, Cond.code yX3_at cX3_at 2 (some .long), Cond.fieldLink RX3 13 "TarockHall$Sets" "items" "[J", Cond.methodLink RX6 262 yX6_thirdsOf, Cond.static yX6_thirdsOf, Cond.initialized RX6, Cond.code yX6_thirdsOf cX6_thirdsOf 4 (some .int), Cond.methodLink RX6 179 yX6_holds, Cond.static yX6_holds, Cond.code yX6_holds cX6_holds 3 (some .boolean), Cond.methodLink RX6 254 yX6_worth, Cond.static yX6_worth, Cond.code yX6_worth cX6_worth 2 (some .int), Cond.methodLink RX6 344 yX6_suitOf, Cond.static yX6_suitOf, Cond.code yX6_suitOf cX6_suitOf 1 (some .int)]
def wsX6_enterResult_r2 : List Cond := [Cond.methodLink RX6 312 yX6_gamePoints, Cond.static yX6_gamePoints, Cond.code yX6_gamePoints cX6_gamePoints 3 (some .int), Cond.methodLink RX6 350 Lib.Math.abs.name, Cond.static Lib.Math.abs.name, Cond.initialized "java/lang/Math", Cond.code Lib.Math.abs.name Lib.Math.abs.code 1 (some .int), Cond.methodLink RX6 347 yX6_basePoints, Cond.static yX6_basePoints, Cond.code yX6_basePoints cX6_basePoints 1 (some .int), Cond.methodLink RX6 322 yX6_isWon, Cond.static yX6_isWon, Cond.code yX6_isWon cX6_isWon 1 (some .boolean), Cond.methodLink RX6 316 yX6_pagatPoints, Cond.instanceMethod yX6_pagatPoints, Cond.selects RX6 yX6_pagatPoints yX6_pagatPoints, Cond.code yX6_pagatPoints cX6_pagatPoints 5 (some .int), Cond.fieldLink RX6 26 "TarockHall" "trick" "LTarockHall$Trick;", Cond.methodLink RX6 331 yX5_playerOf, Cond.instanceMethod yX5_playerOf, Cond.selects RX5 yX5_playerOf yX5_playerOf, Cond.initialized RX5, Cond.code yX5_playerOf cX5_playerOf 3 (some .int), Cond.fieldLink RX5 24 "TarockHall$Trick" "size" "I"]
def wsX6_enterResult_r3 : List Cond := [Cond.fieldLink RX5 14 "TarockHall$Trick" "cards" "LTarockHall$Row;", Cond.methodLink RX5 31 yX2_at, Cond.instanceMethod yX2_at, Cond.selects RX2 yX2_at yX2_at, Cond.initialized RX2, Cond.code yX2_at cX2_at 2 (some .int), Cond.fieldLink RX2 15 "TarockHall$Row" "items" "[I", Cond.methodLink RX5 42 yX5_playerAt, Cond.instanceMethod yX5_playerAt, Cond.selects RX5 yX5_playerAt yX5_playerAt, Cond.code yX5_playerAt cX5_playerAt 2 (some .int), Cond.fieldLink RX5 20 "TarockHall$Trick" "leader" "I", Cond.methodLink RX6 285 yX6_sideOf, Cond.instanceMethod yX6_sideOf, Cond.selects RX6 yX6_sideOf yX6_sideOf, Cond.code yX6_sideOf cX6_sideOf 2 (some .int), Cond.methodLink RX6 207 yX6_isAnnounced, Cond.instanceMethod yX6_isAnnounced, Cond.selects RX6 yX6_isAnnounced yX6_isAnnounced, Cond.code yX6_isAnnounced cX6_isAnnounced 2 (some .boolean), Cond.fieldLink RX6 214 "TarockHall" "announced" "I", Cond.methodLink RX6 319 yX6_kingPoints, Cond.instanceMethod yX6_kingPoints, Cond.selects RX6 yX6_kingPoints yX6_kingPoints]
def wsX6_enterResult_r4 : List Cond := [Cond.code yX6_kingPoints cX6_kingPoints 4 (some .int), Cond.fieldLink RX6 62 "TarockHall" "called" "I", Cond.methodLink RX6 133 yX6_calledKing, Cond.instanceMethod yX6_calledKing, Cond.selects RX6 yX6_calledKing yX6_calledKing, Cond.code yX6_calledKing cX6_calledKing 1 (some .int), Cond.methodLink RX6 325 yX4_enter, Cond.instanceMethod yX4_enter, Cond.selects RX4 yX4_enter yX4_enter, Cond.initialized RX4, Cond.code yX4_enter cX4_enter 6 none, Cond.fieldLink RX4 20 "TarockHall$Sheet" "radli" "LTarockHall$Row;", Cond.fieldLink RX4 27 "TarockHall$Sheet" "latest" "I", Cond.methodLink RX4 23 yX2_at, Cond.methodLink RX4 31 yX2_put, Cond.instanceMethod yX2_put, Cond.selects RX2 yX2_put yX2_put, Cond.code yX2_put cX2_put 3 none, Cond.methodLink RX4 35 yX4_addScore, Cond.instanceMethod yX4_addScore, Cond.selects RX4 yX4_addScore yX4_addScore, Cond.code yX4_addScore cX4_addScore 2 none, Cond.fieldLink RX4 14 "TarockHall$Sheet" "scores" "LTarockHall$Row;", Cond.methodLink RX6 328 yX4_giveRadli]
def wsX6_enterResult_r5 : List Cond := [Cond.instanceMethod yX4_giveRadli, Cond.selects RX4 yX4_giveRadli yX4_giveRadli, Cond.code yX4_giveRadli cX4_giveRadli 2 none]
def wsX6_enterResult : List Cond := .code yX6_enterResult cX6_enterResult 5 none :: ((wsX6_enterResult_r1 ++ (wsX6_enterResult_r2 ++ (wsX6_enterResult_r3 ++ (wsX6_enterResult_r4 ++ wsX6_enterResult_r5)))) ++ wsX60 ++ wsX00 ++ wsX30 ++ wsX50 ++ wsX20 ++ wsX40)
def wsX6_endTrick_r1 : List Cond := [Cond.fieldLink RX6 46 "TarockHall" "piles" "LTarockHall$Sets;", Cond.fieldLink RX6 26 "TarockHall" "trick" "LTarockHall$Trick;", Cond.fieldLink RX6 199 "TarockHall" "tricks" "I", Cond.fieldLink RX6 56 "TarockHall" "turn" "I", Cond.methodLink RX6 285 yX6_sideOf, Cond.instanceMethod yX6_sideOf, Cond.selects RX6 yX6_sideOf yX6_sideOf, Cond.initialized RX6, Cond.code yX6_sideOf cX6_sideOf 2 (some .int), Cond.fieldLink RX6 59 "TarockHall" "declarer" "I", Cond.fieldLink RX6 68 "TarockHall" "partner" "I", Cond.methodLink RX6 154 yX3_at, Cond.instanceMethod yX3_at, Cond.selects RX3 yX3_at yX3_at, Cond.initialized RX3, Cond.code yX3_at cX3_at 2 (some .long), Cond.fieldLink RX3 13 "TarockHall$Sets" "items" "[J", Cond.methodLink RX6 306 yX5_cardSet, Cond.instanceMethod yX5_cardSet, Cond.selects RX5 yX5_cardSet yX5_cardSet, Cond.initialized RX5, Cond.code yX5_cardSet cX5_cardSet 4 (some .long), Cond.fieldLink RX5 24 "TarockHall$Trick" "size" "I", Cond.fieldLink RX5 14 "TarockHall$Trick" "cards" "LTarockHall$Row;"]
def wsX6_endTrick_r2 : List Cond := [Cond.methodLink RX5 31 yX2_at, Cond.instanceMethod yX2_at, Cond.selects RX2 yX2_at yX2_at, Cond.initialized RX2, Cond.code yX2_at cX2_at 2 (some .int), Cond.fieldLink RX2 15 "TarockHall$Row" "items" "[I", Cond.static yX6_only, Cond.code yX6_only cX6_only 1 (some .long), Cond.methodLink RX6 158 yX3_put, Cond.instanceMethod yX3_put, Cond.selects RX3 yX3_put yX3_put, Cond.code yX3_put cX3_put 4 none, Cond.methodLink RX6 309 yX6_enterResult, Cond.instanceMethod yX6_enterResult, Cond.selects RX6 yX6_enterResult yX6_enterResult, Cond.code yX6_enterResult cX6_enterResult 5 none, Cond.fieldLink RX6 19 "TarockHall" "bidding" "LTarockHall$Bidding;", Cond.fieldLink RX6 33 "TarockHall" "sheet" "LTarockHall$Sheet;", Cond.methodLink RX6 262 yX6_thirdsOf, Cond.static yX6_thirdsOf, Cond.code yX6_thirdsOf cX6_thirdsOf 4 (some .int), Cond.methodLink RX6 179 yX6_holds, Cond.static yX6_holds, Cond.code yX6_holds cX6_holds 3 (some .boolean)]
def wsX6_endTrick_r3 : List Cond := [Cond.methodLink RX6 254 yX6_worth, Cond.static yX6_worth, Cond.code yX6_worth cX6_worth 2 (some .int), Cond.methodLink RX6 344 yX6_suitOf, Cond.static yX6_suitOf, Cond.code yX6_suitOf cX6_suitOf 1 (some .int), Cond.methodLink RX6 312 yX6_gamePoints, Cond.static yX6_gamePoints, Cond.code yX6_gamePoints cX6_gamePoints 3 (some .int), Cond.methodLink RX6 350 Lib.Math.abs.name, Cond.static Lib.Math.abs.name, Cond.initialized "java/lang/Math", Cond.code Lib.Math.abs.name Lib.Math.abs.code 1 (some .int), Cond.methodLink RX6 347 yX6_basePoints, Cond.static yX6_basePoints, Cond.code yX6_basePoints cX6_basePoints 1 (some .int), Cond.methodLink RX6 322 yX6_isWon, Cond.static yX6_isWon, Cond.code yX6_isWon cX6_isWon 1 (some .boolean), Cond.methodLink RX6 316 yX6_pagatPoints, Cond.instanceMethod yX6_pagatPoints, Cond.selects RX6 yX6_pagatPoints yX6_pagatPoints, Cond.code yX6_pagatPoints cX6_pagatPoints 5 (some .int), Cond.methodLink RX6 331 yX5_playerOf]
def wsX6_endTrick_r4 : List Cond := [Cond.instanceMethod yX5_playerOf, Cond.selects RX5 yX5_playerOf yX5_playerOf, Cond.code yX5_playerOf cX5_playerOf 3 (some .int), Cond.methodLink RX5 42 yX5_playerAt, Cond.instanceMethod yX5_playerAt, Cond.selects RX5 yX5_playerAt yX5_playerAt, Cond.code yX5_playerAt cX5_playerAt 2 (some .int), Cond.fieldLink RX5 20 "TarockHall$Trick" "leader" "I", Cond.methodLink RX6 207 yX6_isAnnounced, Cond.instanceMethod yX6_isAnnounced, Cond.selects RX6 yX6_isAnnounced yX6_isAnnounced, Cond.code yX6_isAnnounced cX6_isAnnounced 2 (some .boolean), Cond.fieldLink RX6 214 "TarockHall" "announced" "I", Cond.methodLink RX6 319 yX6_kingPoints, Cond.instanceMethod yX6_kingPoints, Cond.selects RX6 yX6_kingPoints yX6_kingPoints, Cond.code yX6_kingPoints cX6_kingPoints 4 (some .int), Cond.fieldLink RX6 62 "TarockHall" "called" "I", Cond.methodLink RX6 133 yX6_calledKing, Cond.instanceMethod yX6_calledKing, Cond.selects RX6 yX6_calledKing yX6_calledKing, Cond.code yX6_calledKing cX6_calledKing 1 (some .int), Cond.methodLink RX6 325 yX4_enter, Cond.instanceMethod yX4_enter]
def wsX6_endTrick_r5 : List Cond := [Cond.selects RX4 yX4_enter yX4_enter, Cond.initialized RX4, Cond.code yX4_enter cX4_enter 6 none, Cond.fieldLink RX4 20 "TarockHall$Sheet" "radli" "LTarockHall$Row;", Cond.fieldLink RX4 27 "TarockHall$Sheet" "latest" "I", Cond.methodLink RX4 23 yX2_at, Cond.methodLink RX4 31 yX2_put, Cond.instanceMethod yX2_put, Cond.selects RX2 yX2_put yX2_put, Cond.code yX2_put cX2_put 3 none, Cond.methodLink RX4 35 yX4_addScore, Cond.instanceMethod yX4_addScore, Cond.selects RX4 yX4_addScore yX4_addScore, Cond.code yX4_addScore cX4_addScore 2 none, Cond.fieldLink RX4 14 "TarockHall$Sheet" "scores" "LTarockHall$Row;", Cond.methodLink RX6 328 yX4_giveRadli, Cond.instanceMethod yX4_giveRadli, Cond.selects RX4 yX4_giveRadli yX4_giveRadli, Cond.code yX4_giveRadli cX4_giveRadli 2 none, Cond.methodLink RX6 114 yX6_endDeal, Cond.instanceMethod yX6_endDeal, Cond.selects RX6 yX6_endDeal yX6_endDeal, Cond.code yX6_endDeal cX6_endDeal 1 none, Cond.fieldLink RX6 53 "TarockHall" "phase" "I"]
def wsX6_endTrick_r6 : List Cond := [Cond.methodLink RX6 291 yX5_begin, Cond.instanceMethod yX5_begin, Cond.selects RX5 yX5_begin yX5_begin, Cond.code yX5_begin cX5_begin 2 none]
def wsX6_endTrick : List Cond := .code yX6_endTrick cX6_endTrick 3 none :: ((wsX6_endTrick_r1 ++ (wsX6_endTrick_r2 ++ (wsX6_endTrick_r3 ++ (wsX6_endTrick_r4 ++ (wsX6_endTrick_r5 ++ wsX6_endTrick_r6))))) ++ wsX60 ++ wsX30 ++ wsX50 ++ wsX20 ++ wsX00 ++ wsX40)
def wsX6_addToTrick_r1 : List Cond := [Cond.fieldLink RX6 42 "TarockHall" "hands" "LTarockHall$Sets;", Cond.fieldLink RX6 56 "TarockHall" "turn" "I", Cond.constantLong RX6 166 (-1), Cond.fieldLink RX6 26 "TarockHall" "trick" "LTarockHall$Trick;", Cond.methodLink RX6 154 yX3_at, Cond.instanceMethod yX3_at, Cond.selects RX3 yX3_at yX3_at, Cond.initialized RX3, Cond.code yX3_at cX3_at 2 (some .long), Cond.fieldLink RX3 13 "TarockHall$Sets" "items" "[J", Cond.methodLink RX6 188 yX6_only, Cond.static yX6_only, Cond.initialized RX6, Cond.code yX6_only cX6_only 1 (some .long), Cond.methodLink RX6 158 yX3_put, Cond.instanceMethod yX3_put, Cond.selects RX3 yX3_put yX3_put, Cond.code yX3_put cX3_put 4 none, Cond.methodLink RX6 297 yX5_add, Cond.instanceMethod yX5_add, Cond.selects RX5 yX5_add yX5_add, Cond.initialized RX5, Cond.code yX5_add cX5_add 2 none, Cond.fieldLink RX5 14 "TarockHall$Trick" "cards" "LTarockHall$Row;"]
def wsX6_addToTrick_r2 : List Cond := [Cond.fieldLink RX5 24 "TarockHall$Trick" "size" "I", Cond.methodLink RX5 27 yX2_put, Cond.instanceMethod yX2_put, Cond.selects RX2 yX2_put yX2_put, Cond.initialized RX2, Cond.code yX2_put cX2_put 3 none, Cond.fieldLink RX2 15 "TarockHall$Row" "items" "[I", Cond.methodLink RX6 84 yX6_behind, Cond.static yX6_behind, Cond.code yX6_behind cX6_behind 1 (some .int), Cond.methodLink RX6 300 yX5_winner, Cond.instanceMethod yX5_winner, Cond.selects RX5 yX5_winner yX5_winner, Cond.code yX5_winner cX5_winner 3 (some .int), Cond.methodLink RX5 31 yX2_at, Cond.instanceMethod yX2_at, Cond.selects RX2 yX2_at yX2_at, Cond.code yX2_at cX2_at 2 (some .int), Cond.methodLink RX5 45 yX5_beats, Cond.static yX5_beats, Cond.code yX5_beats cX5_beats 3 (some .boolean), Cond.static yX6_suitOf, Cond.code yX6_suitOf cX6_suitOf 1 (some .int), Cond.methodLink RX5 42 yX5_playerAt]
def wsX6_addToTrick_r3 : List Cond := [Cond.instanceMethod yX5_playerAt, Cond.selects RX5 yX5_playerAt yX5_playerAt, Cond.code yX5_playerAt cX5_playerAt 2 (some .int), Cond.fieldLink RX5 20 "TarockHall$Trick" "leader" "I", Cond.methodLink RX6 303 yX6_endTrick, Cond.instanceMethod yX6_endTrick, Cond.selects RX6 yX6_endTrick yX6_endTrick, Cond.code yX6_endTrick cX6_endTrick 3 none, Cond.fieldLink RX6 46 "TarockHall" "piles" "LTarockHall$Sets;", Cond.fieldLink RX6 199 "TarockHall" "tricks" "I", Cond.methodLink RX6 285 yX6_sideOf, Cond.instanceMethod yX6_sideOf, Cond.selects RX6 yX6_sideOf yX6_sideOf, Cond.code yX6_sideOf cX6_sideOf 2 (some .int), Cond.fieldLink RX6 59 "TarockHall" "declarer" "I", Cond.fieldLink RX6 68 "TarockHall" "partner" "I", Cond.methodLink RX6 306 yX5_cardSet, Cond.instanceMethod yX5_cardSet, Cond.selects RX5 yX5_cardSet yX5_cardSet, Cond.code yX5_cardSet cX5_cardSet 4 (some .long), Cond.methodLink RX6 309 yX6_enterResult, Cond.instanceMethod yX6_enterResult, Cond.selects RX6 yX6_enterResult yX6_enterResult, Cond.code yX6_enterResult cX6_enterResult 5 none]
def wsX6_addToTrick_r4 : List Cond := [Cond.fieldLink RX6 19 "TarockHall" "bidding" "LTarockHall$Bidding;", Cond.fieldLink RX6 33 "TarockHall" "sheet" "LTarockHall$Sheet;", Cond.methodLink RX6 262 yX6_thirdsOf, Cond.static yX6_thirdsOf, Cond.code yX6_thirdsOf cX6_thirdsOf 4 (some .int), Cond.methodLink RX6 179 yX6_holds, Cond.static yX6_holds, Cond.code yX6_holds cX6_holds 3 (some .boolean), Cond.methodLink RX6 254 yX6_worth, Cond.static yX6_worth, Cond.code yX6_worth cX6_worth 2 (some .int), Cond.methodLink RX6 344 yX6_suitOf, Cond.methodLink RX6 312 yX6_gamePoints, Cond.static yX6_gamePoints, Cond.code yX6_gamePoints cX6_gamePoints 3 (some .int), Cond.methodLink RX6 350 Lib.Math.abs.name, Cond.static Lib.Math.abs.name, Cond.initialized "java/lang/Math", Cond.code Lib.Math.abs.name Lib.Math.abs.code 1 (some .int), Cond.methodLink RX6 347 yX6_basePoints, Cond.static yX6_basePoints, Cond.code yX6_basePoints cX6_basePoints 1 (some .int), Cond.methodLink RX6 322 yX6_isWon, Cond.static yX6_isWon]
def wsX6_addToTrick_r5 : List Cond := [Cond.code yX6_isWon cX6_isWon 1 (some .boolean), Cond.methodLink RX6 316 yX6_pagatPoints, Cond.instanceMethod yX6_pagatPoints, Cond.selects RX6 yX6_pagatPoints yX6_pagatPoints, Cond.code yX6_pagatPoints cX6_pagatPoints 5 (some .int), Cond.methodLink RX6 331 yX5_playerOf, Cond.instanceMethod yX5_playerOf, Cond.selects RX5 yX5_playerOf yX5_playerOf, Cond.code yX5_playerOf cX5_playerOf 3 (some .int), Cond.methodLink RX6 207 yX6_isAnnounced, Cond.instanceMethod yX6_isAnnounced, Cond.selects RX6 yX6_isAnnounced yX6_isAnnounced, Cond.code yX6_isAnnounced cX6_isAnnounced 2 (some .boolean), Cond.fieldLink RX6 214 "TarockHall" "announced" "I", Cond.methodLink RX6 319 yX6_kingPoints, Cond.instanceMethod yX6_kingPoints, Cond.selects RX6 yX6_kingPoints yX6_kingPoints, Cond.code yX6_kingPoints cX6_kingPoints 4 (some .int), Cond.fieldLink RX6 62 "TarockHall" "called" "I", Cond.methodLink RX6 133 yX6_calledKing, Cond.instanceMethod yX6_calledKing, Cond.selects RX6 yX6_calledKing yX6_calledKing, Cond.code yX6_calledKing cX6_calledKing 1 (some .int), Cond.methodLink RX6 325 yX4_enter]
def wsX6_addToTrick_r6 : List Cond := [Cond.instanceMethod yX4_enter, Cond.selects RX4 yX4_enter yX4_enter, Cond.initialized RX4, Cond.code yX4_enter cX4_enter 6 none, Cond.fieldLink RX4 20 "TarockHall$Sheet" "radli" "LTarockHall$Row;", Cond.fieldLink RX4 27 "TarockHall$Sheet" "latest" "I", Cond.methodLink RX4 23 yX2_at, Cond.methodLink RX4 31 yX2_put, Cond.methodLink RX4 35 yX4_addScore, Cond.instanceMethod yX4_addScore, Cond.selects RX4 yX4_addScore yX4_addScore, Cond.code yX4_addScore cX4_addScore 2 none, Cond.fieldLink RX4 14 "TarockHall$Sheet" "scores" "LTarockHall$Row;", Cond.methodLink RX6 328 yX4_giveRadli, Cond.instanceMethod yX4_giveRadli, Cond.selects RX4 yX4_giveRadli yX4_giveRadli, Cond.code yX4_giveRadli cX4_giveRadli 2 none, Cond.methodLink RX6 114 yX6_endDeal, Cond.instanceMethod yX6_endDeal, Cond.selects RX6 yX6_endDeal yX6_endDeal, Cond.code yX6_endDeal cX6_endDeal 1 none, Cond.fieldLink RX6 53 "TarockHall" "phase" "I", Cond.methodLink RX6 291 yX5_begin, Cond.instanceMethod yX5_begin]
def wsX6_addToTrick_r7 : List Cond := [Cond.selects RX5 yX5_begin yX5_begin, Cond.code yX5_begin cX5_begin 2 none]
def wsX6_addToTrick : List Cond := .code yX6_addToTrick cX6_addToTrick 3 (some .int) :: ((wsX6_addToTrick_r1 ++ (wsX6_addToTrick_r2 ++ (wsX6_addToTrick_r3 ++ (wsX6_addToTrick_r4 ++ (wsX6_addToTrick_r5 ++ (wsX6_addToTrick_r6 ++ wsX6_addToTrick_r7)))))) ++ wsX60 ++ wsX50 ++ wsX30 ++ wsX20 ++ wsX00 ++ wsX40)
def wsX6_play_r1 : List Cond := [Cond.classLink RX6 126 "java/lang/IndexOutOfBoundsException", Cond.initialized "java/lang/IndexOutOfBoundsException", Cond.classLink RX6 79 "java/lang/IllegalStateException", Cond.initialized "java/lang/IllegalStateException", Cond.methodLink RX6 171 yX6_isCard, Cond.static yX6_isCard, Cond.initialized RX6, Cond.code yX6_isCard cX6_isCard 1 (some .boolean), Cond.methodLink RX6 222 yX6_playableNow, Cond.instanceMethod yX6_playableNow, Cond.selects RX6 yX6_playableNow yX6_playableNow, Cond.code yX6_playableNow cX6_playableNow 1 (some .long), Cond.fieldLink RX6 53 "TarockHall" "phase" "I", Cond.fieldLink RX6 42 "TarockHall" "hands" "LTarockHall$Sets;", Cond.fieldLink RX6 56 "TarockHall" "turn" "I", Cond.fieldLink RX6 26 "TarockHall" "trick" "LTarockHall$Trick;", Cond.methodLink RX6 154 yX3_at, Cond.instanceMethod yX3_at, Cond.selects RX3 yX3_at yX3_at, Cond.initialized RX3, Cond.code yX3_at cX3_at 2 (some .long), Cond.fieldLink RX3 13 "TarockHall$Sets" "items" "[J", Cond.methodLink RX6 337 yX5_ledSuit, Cond.instanceMethod yX5_ledSuit]
def wsX6_play_r2 : List Cond := [Cond.selects RX5 yX5_ledSuit yX5_ledSuit, Cond.initialized RX5, Cond.code yX5_ledSuit cX5_ledSuit 1 (some .int), Cond.fieldLink RX5 24 "TarockHall$Trick" "size" "I", Cond.fieldLink RX5 14 "TarockHall$Trick" "cards" "LTarockHall$Row;", Cond.methodLink RX5 31 yX2_at, Cond.instanceMethod yX2_at, Cond.selects RX2 yX2_at yX2_at, Cond.initialized RX2, Cond.code yX2_at cX2_at 2 (some .int), Cond.fieldLink RX2 15 "TarockHall$Row" "items" "[I", Cond.static yX6_suitOf, Cond.code yX6_suitOf cX6_suitOf 1 (some .int), Cond.methodLink RX6 340 yX6_playableOf, Cond.static yX6_playableOf, Cond.code yX6_playableOf cX6_playableOf 7 (some .long), Cond.methodLink RX6 359 yX6_cardsOfSuit, Cond.static yX6_cardsOfSuit, Cond.code yX6_cardsOfSuit cX6_cardsOfSuit 5 (some .long), Cond.constantLong RX6 355 (-4294967296), Cond.constantLong RX6 357 (255), Cond.methodLink RX6 179 yX6_holds, Cond.static yX6_holds, Cond.code yX6_holds cX6_holds 3 (some .boolean)]
def wsX6_play_r3 : List Cond := [Cond.methodLink RX6 228 yX6_addToTrick, Cond.instanceMethod yX6_addToTrick, Cond.selects RX6 yX6_addToTrick yX6_addToTrick, Cond.code yX6_addToTrick cX6_addToTrick 3 (some .int), Cond.constantLong RX6 166 (-1), Cond.methodLink RX6 188 yX6_only, Cond.static yX6_only, Cond.code yX6_only cX6_only 1 (some .long), Cond.methodLink RX6 158 yX3_put, Cond.instanceMethod yX3_put, Cond.selects RX3 yX3_put yX3_put, Cond.code yX3_put cX3_put 4 none, Cond.methodLink RX6 297 yX5_add, Cond.instanceMethod yX5_add, Cond.selects RX5 yX5_add yX5_add, Cond.code yX5_add cX5_add 2 none, Cond.methodLink RX5 27 yX2_put, Cond.instanceMethod yX2_put, Cond.selects RX2 yX2_put yX2_put, Cond.code yX2_put cX2_put 3 none, Cond.methodLink RX6 84 yX6_behind, Cond.static yX6_behind, Cond.code yX6_behind cX6_behind 1 (some .int), Cond.methodLink RX6 300 yX5_winner]
def wsX6_play_r4 : List Cond := [Cond.instanceMethod yX5_winner, Cond.selects RX5 yX5_winner yX5_winner, Cond.code yX5_winner cX5_winner 3 (some .int), Cond.methodLink RX5 45 yX5_beats, Cond.static yX5_beats, Cond.code yX5_beats cX5_beats 3 (some .boolean), Cond.methodLink RX5 42 yX5_playerAt, Cond.instanceMethod yX5_playerAt, Cond.selects RX5 yX5_playerAt yX5_playerAt, Cond.code yX5_playerAt cX5_playerAt 2 (some .int), Cond.fieldLink RX5 20 "TarockHall$Trick" "leader" "I", Cond.methodLink RX6 303 yX6_endTrick, Cond.instanceMethod yX6_endTrick, Cond.selects RX6 yX6_endTrick yX6_endTrick, Cond.code yX6_endTrick cX6_endTrick 3 none, Cond.fieldLink RX6 46 "TarockHall" "piles" "LTarockHall$Sets;", Cond.fieldLink RX6 199 "TarockHall" "tricks" "I", Cond.methodLink RX6 285 yX6_sideOf, Cond.instanceMethod yX6_sideOf, Cond.selects RX6 yX6_sideOf yX6_sideOf, Cond.code yX6_sideOf cX6_sideOf 2 (some .int), Cond.fieldLink RX6 59 "TarockHall" "declarer" "I", Cond.fieldLink RX6 68 "TarockHall" "partner" "I", Cond.methodLink RX6 306 yX5_cardSet]
def wsX6_play_r5 : List Cond := [Cond.instanceMethod yX5_cardSet, Cond.selects RX5 yX5_cardSet yX5_cardSet, Cond.code yX5_cardSet cX5_cardSet 4 (some .long), Cond.methodLink RX6 309 yX6_enterResult, Cond.instanceMethod yX6_enterResult, Cond.selects RX6 yX6_enterResult yX6_enterResult, Cond.code yX6_enterResult cX6_enterResult 5 none, Cond.fieldLink RX6 19 "TarockHall" "bidding" "LTarockHall$Bidding;", Cond.fieldLink RX6 33 "TarockHall" "sheet" "LTarockHall$Sheet;", Cond.methodLink RX6 262 yX6_thirdsOf, Cond.static yX6_thirdsOf, Cond.code yX6_thirdsOf cX6_thirdsOf 4 (some .int), Cond.methodLink RX6 254 yX6_worth, Cond.static yX6_worth, Cond.code yX6_worth cX6_worth 2 (some .int), Cond.methodLink RX6 344 yX6_suitOf, Cond.methodLink RX6 312 yX6_gamePoints, Cond.static yX6_gamePoints, Cond.code yX6_gamePoints cX6_gamePoints 3 (some .int), Cond.methodLink RX6 350 Lib.Math.abs.name, Cond.static Lib.Math.abs.name, Cond.initialized "java/lang/Math", Cond.code Lib.Math.abs.name Lib.Math.abs.code 1 (some .int), Cond.methodLink RX6 347 yX6_basePoints]
def wsX6_play_r6 : List Cond := [Cond.static yX6_basePoints, Cond.code yX6_basePoints cX6_basePoints 1 (some .int), Cond.methodLink RX6 322 yX6_isWon, Cond.static yX6_isWon, Cond.code yX6_isWon cX6_isWon 1 (some .boolean), Cond.methodLink RX6 316 yX6_pagatPoints, Cond.instanceMethod yX6_pagatPoints, Cond.selects RX6 yX6_pagatPoints yX6_pagatPoints, Cond.code yX6_pagatPoints cX6_pagatPoints 5 (some .int), Cond.methodLink RX6 331 yX5_playerOf, Cond.instanceMethod yX5_playerOf, Cond.selects RX5 yX5_playerOf yX5_playerOf, Cond.code yX5_playerOf cX5_playerOf 3 (some .int), Cond.methodLink RX6 207 yX6_isAnnounced, Cond.instanceMethod yX6_isAnnounced, Cond.selects RX6 yX6_isAnnounced yX6_isAnnounced, Cond.code yX6_isAnnounced cX6_isAnnounced 2 (some .boolean), Cond.fieldLink RX6 214 "TarockHall" "announced" "I", Cond.methodLink RX6 319 yX6_kingPoints, Cond.instanceMethod yX6_kingPoints, Cond.selects RX6 yX6_kingPoints yX6_kingPoints, Cond.code yX6_kingPoints cX6_kingPoints 4 (some .int), Cond.fieldLink RX6 62 "TarockHall" "called" "I", Cond.methodLink RX6 133 yX6_calledKing]
def wsX6_play_r7 : List Cond := [Cond.instanceMethod yX6_calledKing, Cond.selects RX6 yX6_calledKing yX6_calledKing, Cond.code yX6_calledKing cX6_calledKing 1 (some .int), Cond.methodLink RX6 325 yX4_enter, Cond.instanceMethod yX4_enter, Cond.selects RX4 yX4_enter yX4_enter, Cond.initialized RX4, Cond.code yX4_enter cX4_enter 6 none, Cond.fieldLink RX4 20 "TarockHall$Sheet" "radli" "LTarockHall$Row;", Cond.fieldLink RX4 27 "TarockHall$Sheet" "latest" "I", Cond.methodLink RX4 23 yX2_at, Cond.methodLink RX4 31 yX2_put, Cond.methodLink RX4 35 yX4_addScore, Cond.instanceMethod yX4_addScore, Cond.selects RX4 yX4_addScore yX4_addScore, Cond.code yX4_addScore cX4_addScore 2 none, Cond.fieldLink RX4 14 "TarockHall$Sheet" "scores" "LTarockHall$Row;", Cond.methodLink RX6 328 yX4_giveRadli, Cond.instanceMethod yX4_giveRadli, Cond.selects RX4 yX4_giveRadli yX4_giveRadli, Cond.code yX4_giveRadli cX4_giveRadli 2 none, Cond.methodLink RX6 114 yX6_endDeal, Cond.instanceMethod yX6_endDeal, Cond.selects RX6 yX6_endDeal yX6_endDeal]
def wsX6_play_r8 : List Cond := [Cond.code yX6_endDeal cX6_endDeal 1 none, Cond.methodLink RX6 291 yX5_begin, Cond.instanceMethod yX5_begin, Cond.selects RX5 yX5_begin yX5_begin, Cond.code yX5_begin cX5_begin 2 none]
def wsX6_play : List Cond := .code yX6_play cX6_play 2 (some .int) :: ((wsX6_play_r1 ++ (wsX6_play_r2 ++ (wsX6_play_r3 ++ (wsX6_play_r4 ++ (wsX6_play_r5 ++ (wsX6_play_r6 ++ (wsX6_play_r7 ++ wsX6_play_r8))))))) ++ wsX60 ++ wsX30 ++ wsX50 ++ wsX20 ++ wsX00 ++ wsX40 ++ (vx_atS RX6 130 "java/lang/IndexOutOfBoundsException" ["java/lang/RuntimeException", "java/lang/Exception"]).filter goodWord ++ (vx_atS RX6 83 "java/lang/IllegalStateException" ["java/lang/RuntimeException", "java/lang/Exception"]).filter goodWord)
def wsX6_lowestOf : List Cond := .code yX6_lowestOf cX6_lowestOf 3 (some .int) :: ([.methodLink RX6 179 yX6_holds, .static yX6_holds, .initialized RX6, .code yX6_holds cX6_holds 3 (some .boolean)])
def wsX6_playLowest_r1 : List Cond := [Cond.classLink RX6 72 "java/lang/IllegalArgumentException", Cond.initialized "java/lang/IllegalArgumentException", Cond.classLink RX6 79 "java/lang/IllegalStateException", Cond.initialized "java/lang/IllegalStateException", Cond.fieldLink RX6 53 "TarockHall" "phase" "I", Cond.methodLink RX6 222 yX6_playableNow, Cond.instanceMethod yX6_playableNow, Cond.selects RX6 yX6_playableNow yX6_playableNow, Cond.initialized RX6, Cond.code yX6_playableNow cX6_playableNow 1 (some .long), Cond.fieldLink RX6 42 "TarockHall" "hands" "LTarockHall$Sets;", Cond.fieldLink RX6 56 "TarockHall" "turn" "I", Cond.fieldLink RX6 26 "TarockHall" "trick" "LTarockHall$Trick;", Cond.methodLink RX6 154 yX3_at, Cond.instanceMethod yX3_at, Cond.selects RX3 yX3_at yX3_at, Cond.initialized RX3, Cond.code yX3_at cX3_at 2 (some .long), Cond.fieldLink RX3 13 "TarockHall$Sets" "items" "[J", Cond.methodLink RX6 337 yX5_ledSuit, Cond.instanceMethod yX5_ledSuit, Cond.selects RX5 yX5_ledSuit yX5_ledSuit, Cond.initialized RX5, Cond.code yX5_ledSuit cX5_ledSuit 1 (some .int)]
def wsX6_playLowest_r2 : List Cond := [Cond.fieldLink RX5 24 "TarockHall$Trick" "size" "I", Cond.fieldLink RX5 14 "TarockHall$Trick" "cards" "LTarockHall$Row;", Cond.methodLink RX5 31 yX2_at, Cond.instanceMethod yX2_at, Cond.selects RX2 yX2_at yX2_at, Cond.initialized RX2, Cond.code yX2_at cX2_at 2 (some .int), Cond.fieldLink RX2 15 "TarockHall$Row" "items" "[I", Cond.static yX6_suitOf, Cond.code yX6_suitOf cX6_suitOf 1 (some .int), Cond.methodLink RX6 340 yX6_playableOf, Cond.static yX6_playableOf, Cond.code yX6_playableOf cX6_playableOf 7 (some .long), Cond.methodLink RX6 359 yX6_cardsOfSuit, Cond.static yX6_cardsOfSuit, Cond.code yX6_cardsOfSuit cX6_cardsOfSuit 5 (some .long), Cond.constantLong RX6 355 (-4294967296), Cond.constantLong RX6 357 (255), Cond.methodLink RX6 235 yX6_lowestOf, Cond.static yX6_lowestOf, Cond.code yX6_lowestOf cX6_lowestOf 3 (some .int), Cond.methodLink RX6 179 yX6_holds, Cond.static yX6_holds, Cond.code yX6_holds cX6_holds 3 (some .boolean)]
def wsX6_playLowest_r3 : List Cond := [Cond.methodLink RX6 228 yX6_addToTrick, Cond.instanceMethod yX6_addToTrick, Cond.selects RX6 yX6_addToTrick yX6_addToTrick, Cond.code yX6_addToTrick cX6_addToTrick 3 (some .int), Cond.constantLong RX6 166 (-1), Cond.methodLink RX6 188 yX6_only, Cond.static yX6_only, Cond.code yX6_only cX6_only 1 (some .long), Cond.methodLink RX6 158 yX3_put, Cond.instanceMethod yX3_put, Cond.selects RX3 yX3_put yX3_put, Cond.code yX3_put cX3_put 4 none, Cond.methodLink RX6 297 yX5_add, Cond.instanceMethod yX5_add, Cond.selects RX5 yX5_add yX5_add, Cond.code yX5_add cX5_add 2 none, Cond.methodLink RX5 27 yX2_put, Cond.instanceMethod yX2_put, Cond.selects RX2 yX2_put yX2_put, Cond.code yX2_put cX2_put 3 none, Cond.methodLink RX6 84 yX6_behind, Cond.static yX6_behind, Cond.code yX6_behind cX6_behind 1 (some .int), Cond.methodLink RX6 300 yX5_winner]
def wsX6_playLowest_r4 : List Cond := [Cond.instanceMethod yX5_winner, Cond.selects RX5 yX5_winner yX5_winner, Cond.code yX5_winner cX5_winner 3 (some .int), Cond.methodLink RX5 45 yX5_beats, Cond.static yX5_beats, Cond.code yX5_beats cX5_beats 3 (some .boolean), Cond.methodLink RX5 42 yX5_playerAt, Cond.instanceMethod yX5_playerAt, Cond.selects RX5 yX5_playerAt yX5_playerAt, Cond.code yX5_playerAt cX5_playerAt 2 (some .int), Cond.fieldLink RX5 20 "TarockHall$Trick" "leader" "I", Cond.methodLink RX6 303 yX6_endTrick, Cond.instanceMethod yX6_endTrick, Cond.selects RX6 yX6_endTrick yX6_endTrick, Cond.code yX6_endTrick cX6_endTrick 3 none, Cond.fieldLink RX6 46 "TarockHall" "piles" "LTarockHall$Sets;", Cond.fieldLink RX6 199 "TarockHall" "tricks" "I", Cond.methodLink RX6 285 yX6_sideOf, Cond.instanceMethod yX6_sideOf, Cond.selects RX6 yX6_sideOf yX6_sideOf, Cond.code yX6_sideOf cX6_sideOf 2 (some .int), Cond.fieldLink RX6 59 "TarockHall" "declarer" "I", Cond.fieldLink RX6 68 "TarockHall" "partner" "I", Cond.methodLink RX6 306 yX5_cardSet]
def wsX6_playLowest_r5 : List Cond := [Cond.instanceMethod yX5_cardSet, Cond.selects RX5 yX5_cardSet yX5_cardSet, Cond.code yX5_cardSet cX5_cardSet 4 (some .long), Cond.methodLink RX6 309 yX6_enterResult, Cond.instanceMethod yX6_enterResult, Cond.selects RX6 yX6_enterResult yX6_enterResult, Cond.code yX6_enterResult cX6_enterResult 5 none, Cond.fieldLink RX6 19 "TarockHall" "bidding" "LTarockHall$Bidding;", Cond.fieldLink RX6 33 "TarockHall" "sheet" "LTarockHall$Sheet;", Cond.methodLink RX6 262 yX6_thirdsOf, Cond.static yX6_thirdsOf, Cond.code yX6_thirdsOf cX6_thirdsOf 4 (some .int), Cond.methodLink RX6 254 yX6_worth, Cond.static yX6_worth, Cond.code yX6_worth cX6_worth 2 (some .int), Cond.methodLink RX6 344 yX6_suitOf, Cond.methodLink RX6 312 yX6_gamePoints, Cond.static yX6_gamePoints, Cond.code yX6_gamePoints cX6_gamePoints 3 (some .int), Cond.methodLink RX6 350 Lib.Math.abs.name, Cond.static Lib.Math.abs.name, Cond.initialized "java/lang/Math", Cond.code Lib.Math.abs.name Lib.Math.abs.code 1 (some .int), Cond.methodLink RX6 347 yX6_basePoints]
def wsX6_playLowest_r6 : List Cond := [Cond.static yX6_basePoints, Cond.code yX6_basePoints cX6_basePoints 1 (some .int), Cond.methodLink RX6 322 yX6_isWon, Cond.static yX6_isWon, Cond.code yX6_isWon cX6_isWon 1 (some .boolean), Cond.methodLink RX6 316 yX6_pagatPoints, Cond.instanceMethod yX6_pagatPoints, Cond.selects RX6 yX6_pagatPoints yX6_pagatPoints, Cond.code yX6_pagatPoints cX6_pagatPoints 5 (some .int), Cond.methodLink RX6 331 yX5_playerOf, Cond.instanceMethod yX5_playerOf, Cond.selects RX5 yX5_playerOf yX5_playerOf, Cond.code yX5_playerOf cX5_playerOf 3 (some .int), Cond.methodLink RX6 207 yX6_isAnnounced, Cond.instanceMethod yX6_isAnnounced, Cond.selects RX6 yX6_isAnnounced yX6_isAnnounced, Cond.code yX6_isAnnounced cX6_isAnnounced 2 (some .boolean), Cond.fieldLink RX6 214 "TarockHall" "announced" "I", Cond.methodLink RX6 319 yX6_kingPoints, Cond.instanceMethod yX6_kingPoints, Cond.selects RX6 yX6_kingPoints yX6_kingPoints, Cond.code yX6_kingPoints cX6_kingPoints 4 (some .int), Cond.fieldLink RX6 62 "TarockHall" "called" "I", Cond.methodLink RX6 133 yX6_calledKing]
def wsX6_playLowest_r7 : List Cond := [Cond.instanceMethod yX6_calledKing, Cond.selects RX6 yX6_calledKing yX6_calledKing, Cond.code yX6_calledKing cX6_calledKing 1 (some .int), Cond.methodLink RX6 325 yX4_enter, Cond.instanceMethod yX4_enter, Cond.selects RX4 yX4_enter yX4_enter, Cond.initialized RX4, Cond.code yX4_enter cX4_enter 6 none, Cond.fieldLink RX4 20 "TarockHall$Sheet" "radli" "LTarockHall$Row;", Cond.fieldLink RX4 27 "TarockHall$Sheet" "latest" "I", Cond.methodLink RX4 23 yX2_at, Cond.methodLink RX4 31 yX2_put, Cond.methodLink RX4 35 yX4_addScore, Cond.instanceMethod yX4_addScore, Cond.selects RX4 yX4_addScore yX4_addScore, Cond.code yX4_addScore cX4_addScore 2 none, Cond.fieldLink RX4 14 "TarockHall$Sheet" "scores" "LTarockHall$Row;", Cond.methodLink RX6 328 yX4_giveRadli, Cond.instanceMethod yX4_giveRadli, Cond.selects RX4 yX4_giveRadli yX4_giveRadli, Cond.code yX4_giveRadli cX4_giveRadli 2 none, Cond.methodLink RX6 114 yX6_endDeal, Cond.instanceMethod yX6_endDeal, Cond.selects RX6 yX6_endDeal yX6_endDeal]
def wsX6_playLowest_r8 : List Cond := [Cond.code yX6_endDeal cX6_endDeal 1 none, Cond.methodLink RX6 291 yX5_begin, Cond.instanceMethod yX5_begin, Cond.selects RX5 yX5_begin yX5_begin, Cond.code yX5_begin cX5_begin 2 none]
def wsX6_playLowest : List Cond := .code yX6_playLowest cX6_playLowest 4 (some .int) :: ((wsX6_playLowest_r1 ++ (wsX6_playLowest_r2 ++ (wsX6_playLowest_r3 ++ (wsX6_playLowest_r4 ++ (wsX6_playLowest_r5 ++ (wsX6_playLowest_r6 ++ (wsX6_playLowest_r7 ++ wsX6_playLowest_r8))))))) ++ wsX60 ++ wsX30 ++ wsX50 ++ wsX20 ++ wsX00 ++ wsX40 ++ (vx_atS RX6 76 "java/lang/IllegalArgumentException" ["java/lang/RuntimeException", "java/lang/Exception"]).filter goodWord ++ (vx_atS RX6 83 "java/lang/IllegalStateException" ["java/lang/RuntimeException", "java/lang/Exception"]).filter goodWord)
def wsX6_phase : List Cond := .code yX6_phase cX6_phase 1 (some .int) :: ([.fieldLink RX6 53 "TarockHall" "phase" "I"] ++ wsX60)
def wsX6_turn : List Cond := .code yX6_turn cX6_turn 1 (some .int) :: ([.fieldLink RX6 56 "TarockHall" "turn" "I"] ++ wsX60)
def wsX6_declarer : List Cond := .code yX6_declarer cX6_declarer 1 (some .int) :: ([.fieldLink RX6 59 "TarockHall" "declarer" "I"] ++ wsX60)
def wsX6_level : List Cond := .code yX6_level cX6_level 1 (some .int) :: ([.fieldLink RX6 19 "TarockHall" "bidding" "LTarockHall$Bidding;"] ++ wsX60 ++ wsX00)
def wsX6_called : List Cond := .code yX6_called cX6_called 1 (some .int) :: ([.fieldLink RX6 62 "TarockHall" "called" "I"] ++ wsX60)
def wsX6_partner : List Cond := .code yX6_partner cX6_partner 1 (some .int) :: ([.fieldLink RX6 68 "TarockHall" "partner" "I"] ++ wsX60)
def wsX6_isPlayer : List Cond := .code yX6_isPlayer cX6_isPlayer 1 (some .boolean) :: ([])
def wsX6_hand : List Cond := .code yX6_hand cX6_hand 2 (some .long) :: ([.classLink RX6 126 "java/lang/IndexOutOfBoundsException", .initialized "java/lang/IndexOutOfBoundsException", .fieldLink RX6 42 "TarockHall" "hands" "LTarockHall$Sets;", .methodLink RX6 239 yX6_isPlayer, .static yX6_isPlayer, .initialized RX6, .code yX6_isPlayer cX6_isPlayer 1 (some .boolean), .methodLink RX6 154 yX3_at, .instanceMethod yX3_at, .selects RX3 yX3_at yX3_at, .initialized RX3, .code yX3_at cX3_at 2 (some .long), .fieldLink RX3 13 "TarockHall$Sets" "items" "[J"] ++ wsX60 ++ wsX30 ++ (vx_atS RX6 130 "java/lang/IndexOutOfBoundsException" ["java/lang/RuntimeException", "java/lang/Exception"]).filter goodWord)
def wsX6_talonAt : List Cond := .code yX6_talonAt cX6_talonAt 2 (some .int) :: ([.classLink RX6 126 "java/lang/IndexOutOfBoundsException", .initialized "java/lang/IndexOutOfBoundsException", .classLink RX6 79 "java/lang/IllegalStateException", .initialized "java/lang/IllegalStateException", .fieldLink RX6 49 "TarockHall" "forehand" "I", .fieldLink RX6 12 "TarockHall" "deck" "LTarockHall$Deck;", .methodLink RX6 248 yX1_cardAt, .instanceMethod yX1_cardAt, .selects RX1 yX1_cardAt yX1_cardAt, .initialized RX1, .code yX1_cardAt cX1_cardAt 2 (some .int), .fieldLink RX1 14 "TarockHall$Deck" "row" "LTarockHall$Row;", .methodLink RX1 28 yX2_at, .instanceMethod yX2_at, .selects RX2 yX2_at yX2_at, .initialized RX2, .code yX2_at cX2_at 2 (some .int), .fieldLink RX2 15 "TarockHall$Row" "items" "[I"] ++ wsX60 ++ wsX10 ++ wsX20 ++ (vx_atS RX6 130 "java/lang/IndexOutOfBoundsException" ["java/lang/RuntimeException", "java/lang/Exception"]).filter goodWord ++ (vx_atS RX6 83 "java/lang/IllegalStateException" ["java/lang/RuntimeException", "java/lang/Exception"]).filter goodWord)
def wsX6_inTrick : List Cond := .code yX6_inTrick cX6_inTrick 1 (some .int) :: ([.fieldLink RX6 26 "TarockHall" "trick" "LTarockHall$Trick;"] ++ wsX60 ++ wsX50)
def wsX6_trickAt : List Cond := .code yX6_trickAt cX6_trickAt 2 (some .int) :: ([.classLink RX6 126 "java/lang/IndexOutOfBoundsException", .initialized "java/lang/IndexOutOfBoundsException", .fieldLink RX6 26 "TarockHall" "trick" "LTarockHall$Trick;", .methodLink RX6 253 yX5_cardAt, .instanceMethod yX5_cardAt, .selects RX5 yX5_cardAt yX5_cardAt, .initialized RX5, .code yX5_cardAt cX5_cardAt 2 (some .int), .fieldLink RX5 14 "TarockHall$Trick" "cards" "LTarockHall$Row;", .methodLink RX5 31 yX2_at, .instanceMethod yX2_at, .selects RX2 yX2_at yX2_at, .initialized RX2, .code yX2_at cX2_at 2 (some .int), .fieldLink RX2 15 "TarockHall$Row" "items" "[I"] ++ wsX60 ++ wsX50 ++ wsX20 ++ (vx_atS RX6 130 "java/lang/IndexOutOfBoundsException" ["java/lang/RuntimeException", "java/lang/Exception"]).filter goodWord)
def wsX6_canPlay_r1 : List Cond := [Cond.classLink RX6 126 "java/lang/IndexOutOfBoundsException", Cond.initialized "java/lang/IndexOutOfBoundsException", Cond.methodLink RX6 171 yX6_isCard, Cond.static yX6_isCard, Cond.initialized RX6, Cond.code yX6_isCard cX6_isCard 1 (some .boolean), Cond.methodLink RX6 222 yX6_playableNow, Cond.instanceMethod yX6_playableNow, Cond.selects RX6 yX6_playableNow yX6_playableNow, Cond.code yX6_playableNow cX6_playableNow 1 (some .long), Cond.fieldLink RX6 53 "TarockHall" "phase" "I", Cond.fieldLink RX6 42 "TarockHall" "hands" "LTarockHall$Sets;", Cond.fieldLink RX6 56 "TarockHall" "turn" "I", Cond.fieldLink RX6 26 "TarockHall" "trick" "LTarockHall$Trick;", Cond.methodLink RX6 154 yX3_at, Cond.instanceMethod yX3_at, Cond.selects RX3 yX3_at yX3_at, Cond.initialized RX3, Cond.code yX3_at cX3_at 2 (some .long), Cond.fieldLink RX3 13 "TarockHall$Sets" "items" "[J", Cond.methodLink RX6 337 yX5_ledSuit, Cond.instanceMethod yX5_ledSuit, Cond.selects RX5 yX5_ledSuit yX5_ledSuit, Cond.initialized RX5]
def wsX6_canPlay_r2 : List Cond := [Cond.code yX5_ledSuit cX5_ledSuit 1 (some .int), Cond.fieldLink RX5 24 "TarockHall$Trick" "size" "I", Cond.fieldLink RX5 14 "TarockHall$Trick" "cards" "LTarockHall$Row;", Cond.methodLink RX5 31 yX2_at, Cond.instanceMethod yX2_at, Cond.selects RX2 yX2_at yX2_at, Cond.initialized RX2, Cond.code yX2_at cX2_at 2 (some .int), Cond.fieldLink RX2 15 "TarockHall$Row" "items" "[I", Cond.static yX6_suitOf, Cond.code yX6_suitOf cX6_suitOf 1 (some .int), Cond.methodLink RX6 340 yX6_playableOf, Cond.static yX6_playableOf, Cond.code yX6_playableOf cX6_playableOf 7 (some .long), Cond.methodLink RX6 359 yX6_cardsOfSuit, Cond.static yX6_cardsOfSuit, Cond.code yX6_cardsOfSuit cX6_cardsOfSuit 5 (some .long), Cond.constantLong RX6 355 (-4294967296), Cond.constantLong RX6 357 (255), Cond.methodLink RX6 179 yX6_holds, Cond.static yX6_holds, Cond.code yX6_holds cX6_holds 3 (some .boolean)]
def wsX6_canPlay : List Cond := .code yX6_canPlay cX6_canPlay 2 (some .boolean) :: ((wsX6_canPlay_r1 ++ wsX6_canPlay_r2) ++ wsX60 ++ wsX30 ++ wsX50 ++ wsX20 ++ (vx_atS RX6 130 "java/lang/IndexOutOfBoundsException" ["java/lang/RuntimeException", "java/lang/Exception"]).filter goodWord)
def wsX6_tricks : List Cond := .code yX6_tricks cX6_tricks 1 (some .int) :: ([.fieldLink RX6 199 "TarockHall" "tricks" "I"] ++ wsX60)
def wsX6_valueOf : List Cond := .code yX6_valueOf cX6_valueOf 2 (some .int) :: ([.classLink RX6 126 "java/lang/IndexOutOfBoundsException", .initialized "java/lang/IndexOutOfBoundsException", .methodLink RX6 171 yX6_isCard, .static yX6_isCard, .initialized RX6, .code yX6_isCard cX6_isCard 1 (some .boolean), .methodLink RX6 254 yX6_worth, .static yX6_worth, .code yX6_worth cX6_worth 2 (some .int), .methodLink RX6 344 yX6_suitOf, .static yX6_suitOf, .code yX6_suitOf cX6_suitOf 1 (some .int)] ++ (vx_atS RX6 130 "java/lang/IndexOutOfBoundsException" ["java/lang/RuntimeException", "java/lang/Exception"]).filter goodWord)
def wsX6_isSide : List Cond := .code yX6_isSide cX6_isSide 1 (some .boolean) :: ([])
def wsX6_thirds_r1 : List Cond := [Cond.classLink RX6 126 "java/lang/IndexOutOfBoundsException", Cond.initialized "java/lang/IndexOutOfBoundsException", Cond.fieldLink RX6 46 "TarockHall" "piles" "LTarockHall$Sets;", Cond.methodLink RX6 257 yX6_isSide, Cond.static yX6_isSide, Cond.initialized RX6, Cond.code yX6_isSide cX6_isSide 1 (some .boolean), Cond.methodLink RX6 154 yX3_at, Cond.instanceMethod yX3_at, Cond.selects RX3 yX3_at yX3_at, Cond.initialized RX3, Cond.code yX3_at cX3_at 2 (some .long), Cond.fieldLink RX3 13 "TarockHall$Sets" "items" "[J", Cond.methodLink RX6 262 yX6_thirdsOf, Cond.static yX6_thirdsOf, Cond.code yX6_thirdsOf cX6_thirdsOf 4 (some .int), Cond.methodLink RX6 179 yX6_holds, Cond.static yX6_holds, Cond.code yX6_holds cX6_holds 3 (some .boolean), Cond.methodLink RX6 254 yX6_worth, Cond.static yX6_worth, Cond.code yX6_worth cX6_worth 2 (some .int), Cond.methodLink RX6 344 yX6_suitOf, Cond.static yX6_suitOf]
def wsX6_thirds_r2 : List Cond := [Cond.code yX6_suitOf cX6_suitOf 1 (some .int)]
def wsX6_thirds : List Cond := .code yX6_thirds cX6_thirds 2 (some .int) :: ((wsX6_thirds_r1 ++ wsX6_thirds_r2) ++ wsX60 ++ wsX30 ++ (vx_atS RX6 130 "java/lang/IndexOutOfBoundsException" ["java/lang/RuntimeException", "java/lang/Exception"]).filter goodWord)
def wsX6_packPointsOf : List Cond := .code yX6_packPointsOf cX6_packPointsOf 6 (some .int) :: ([.methodLink RX6 179 yX6_holds, .static yX6_holds, .initialized RX6, .code yX6_holds cX6_holds 3 (some .boolean), .methodLink RX6 254 yX6_worth, .static yX6_worth, .code yX6_worth cX6_worth 2 (some .int), .methodLink RX6 344 yX6_suitOf, .static yX6_suitOf, .code yX6_suitOf cX6_suitOf 1 (some .int)])
def wsX6_byPacks_r1 : List Cond := [Cond.classLink RX6 126 "java/lang/IndexOutOfBoundsException", Cond.initialized "java/lang/IndexOutOfBoundsException", Cond.fieldLink RX6 46 "TarockHall" "piles" "LTarockHall$Sets;", Cond.methodLink RX6 257 yX6_isSide, Cond.static yX6_isSide, Cond.initialized RX6, Cond.code yX6_isSide cX6_isSide 1 (some .boolean), Cond.methodLink RX6 154 yX3_at, Cond.instanceMethod yX3_at, Cond.selects RX3 yX3_at yX3_at, Cond.initialized RX3, Cond.code yX3_at cX3_at 2 (some .long), Cond.fieldLink RX3 13 "TarockHall$Sets" "items" "[J", Cond.methodLink RX6 265 yX6_packPointsOf, Cond.static yX6_packPointsOf, Cond.code yX6_packPointsOf cX6_packPointsOf 6 (some .int), Cond.methodLink RX6 179 yX6_holds, Cond.static yX6_holds, Cond.code yX6_holds cX6_holds 3 (some .boolean), Cond.methodLink RX6 254 yX6_worth, Cond.static yX6_worth, Cond.code yX6_worth cX6_worth 2 (some .int), Cond.methodLink RX6 344 yX6_suitOf, Cond.static yX6_suitOf]
def wsX6_byPacks_r2 : List Cond := [Cond.code yX6_suitOf cX6_suitOf 1 (some .int)]
def wsX6_byPacks : List Cond := .code yX6_byPacks cX6_byPacks 2 (some .int) :: ((wsX6_byPacks_r1 ++ wsX6_byPacks_r2) ++ wsX60 ++ wsX30 ++ (vx_atS RX6 130 "java/lang/IndexOutOfBoundsException" ["java/lang/RuntimeException", "java/lang/Exception"]).filter goodWord)
def wsX6_score : List Cond := .code yX6_score cX6_score 2 (some .int) :: ([.classLink RX6 126 "java/lang/IndexOutOfBoundsException", .initialized "java/lang/IndexOutOfBoundsException", .fieldLink RX6 33 "TarockHall" "sheet" "LTarockHall$Sheet;", .methodLink RX6 239 yX6_isPlayer, .static yX6_isPlayer, .initialized RX6, .code yX6_isPlayer cX6_isPlayer 1 (some .boolean), .methodLink RX6 272 yX2_at, .instanceMethod yX2_at, .selects RX2 yX2_at yX2_at, .initialized RX2, .code yX2_at cX2_at 2 (some .int), .fieldLink RX2 15 "TarockHall$Row" "items" "[I"] ++ wsX60 ++ wsX40 ++ wsX20 ++ (vx_atS RX6 130 "java/lang/IndexOutOfBoundsException" ["java/lang/RuntimeException", "java/lang/Exception"]).filter goodWord)
def wsX6_radli : List Cond := .code yX6_radli cX6_radli 2 (some .int) :: ([.classLink RX6 126 "java/lang/IndexOutOfBoundsException", .initialized "java/lang/IndexOutOfBoundsException", .fieldLink RX6 33 "TarockHall" "sheet" "LTarockHall$Sheet;", .methodLink RX6 239 yX6_isPlayer, .static yX6_isPlayer, .initialized RX6, .code yX6_isPlayer cX6_isPlayer 1 (some .boolean), .methodLink RX6 272 yX2_at, .instanceMethod yX2_at, .selects RX2 yX2_at yX2_at, .initialized RX2, .code yX2_at cX2_at 2 (some .int), .fieldLink RX2 15 "TarockHall$Row" "items" "[I"] ++ wsX60 ++ wsX40 ++ wsX20 ++ (vx_atS RX6 130 "java/lang/IndexOutOfBoundsException" ["java/lang/RuntimeException", "java/lang/Exception"]).filter goodWord)
def wsX6_result : List Cond := .code yX6_result cX6_result 1 (some .int) :: ([.fieldLink RX6 33 "TarockHall" "sheet" "LTarockHall$Sheet;"] ++ wsX60 ++ wsX40)
def wsX6_sidesAreOpen : List Cond := .code yX6_sidesAreOpen cX6_sidesAreOpen 1 (some .boolean) :: ([.fieldLink RX6 62 "TarockHall" "called" "I", .fieldLink RX6 65 "TarockHall" "kingOwner" "I", .fieldLink RX6 42 "TarockHall" "hands" "LTarockHall$Sets;", .methodLink RX6 154 yX3_at, .instanceMethod yX3_at, .selects RX3 yX3_at yX3_at, .initialized RX3, .code yX3_at cX3_at 2 (some .long), .fieldLink RX3 13 "TarockHall$Sets" "items" "[J", .methodLink RX6 133 yX6_calledKing, .instanceMethod yX6_calledKing, .selects RX6 yX6_calledKing yX6_calledKing, .initialized RX6, .code yX6_calledKing cX6_calledKing 1 (some .int), .methodLink RX6 179 yX6_holds, .static yX6_holds, .code yX6_holds cX6_holds 3 (some .boolean)] ++ wsX60 ++ wsX30)
def wsX6_knows_r1 : List Cond := [Cond.classLink RX6 126 "java/lang/IndexOutOfBoundsException", Cond.initialized "java/lang/IndexOutOfBoundsException", Cond.fieldLink RX6 59 "TarockHall" "declarer" "I", Cond.fieldLink RX6 53 "TarockHall" "phase" "I", Cond.fieldLink RX6 65 "TarockHall" "kingOwner" "I", Cond.methodLink RX6 239 yX6_isPlayer, Cond.static yX6_isPlayer, Cond.initialized RX6, Cond.code yX6_isPlayer cX6_isPlayer 1 (some .boolean), Cond.methodLink RX6 282 yX6_sidesAreOpen, Cond.instanceMethod yX6_sidesAreOpen, Cond.selects RX6 yX6_sidesAreOpen yX6_sidesAreOpen, Cond.code yX6_sidesAreOpen cX6_sidesAreOpen 1 (some .boolean), Cond.fieldLink RX6 62 "TarockHall" "called" "I", Cond.fieldLink RX6 42 "TarockHall" "hands" "LTarockHall$Sets;", Cond.methodLink RX6 154 yX3_at, Cond.instanceMethod yX3_at, Cond.selects RX3 yX3_at yX3_at, Cond.initialized RX3, Cond.code yX3_at cX3_at 2 (some .long), Cond.fieldLink RX3 13 "TarockHall$Sets" "items" "[J", Cond.methodLink RX6 133 yX6_calledKing, Cond.instanceMethod yX6_calledKing, Cond.selects RX6 yX6_calledKing yX6_calledKing]
def wsX6_knows_r2 : List Cond := [Cond.code yX6_calledKing cX6_calledKing 1 (some .int), Cond.methodLink RX6 179 yX6_holds, Cond.static yX6_holds, Cond.code yX6_holds cX6_holds 3 (some .boolean), Cond.methodLink RX6 285 yX6_sideOf, Cond.instanceMethod yX6_sideOf, Cond.selects RX6 yX6_sideOf yX6_sideOf, Cond.code yX6_sideOf cX6_sideOf 2 (some .int), Cond.fieldLink RX6 68 "TarockHall" "partner" "I"]
def wsX6_knows : List Cond := .code yX6_knows cX6_knows 4 (some .int) :: ((wsX6_knows_r1 ++ wsX6_knows_r2) ++ wsX60 ++ wsX30 ++ (vx_atS RX6 130 "java/lang/IndexOutOfBoundsException" ["java/lang/RuntimeException", "java/lang/Exception"]).filter goodWord)
def wsX7_init : List Cond := .code yX7_init cX7_init 1 none :: ([.methodLink RX7 1 objectInit, .instanceMethod objectInit, .code objectInit ⟨#[0xb1]⟩ 1 none, .fieldLink RX7 9 "TarockHallModel" "phase" "I", .fieldLink RX7 13 "TarockHallModel" "turn" "I", .arrayClass .int, .fieldLink RX7 16 "TarockHallModel" "row" "[I", .arrayClass .long, .fieldLink RX7 20 "TarockHallModel" "hand" "[J", .arrayClass .boolean, .fieldLink RX7 24 "TarockHallModel" "isPassed" "[Z", .fieldLink RX7 28 "TarockHallModel" "bidder" "I", .fieldLink RX7 31 "TarockHallModel" "declarer" "I", .fieldLink RX7 34 "TarockHallModel" "called" "I", .fieldLink RX7 37 "TarockHallModel" "partner" "I", .fieldLink RX7 40 "TarockHallModel" "holder" "I", .fieldLink RX7 43 "TarockHallModel" "isAnnounced" "[Z", .fieldLink RX7 46 "TarockHallModel" "trick" "[I", .fieldLink RX7 49 "TarockHallModel" "won" "[J", .fieldLink RX7 52 "TarockHallModel" "score" "[I", .fieldLink RX7 55 "TarockHallModel" "radli" "[I"] ++ wsX70)
def wsX7_thrown : List Cond := .code yX7_thrown cX7_thrown 1 (some .int) :: ([.fieldLink RX7 58 "TarockHallModel" "thrown" "I"] ++ wsX70)
def wsX7_isFine : List Cond := .code yX7_isFine cX7_isFine 2 (some .boolean) :: ([.fieldLink RX7 58 "TarockHallModel" "thrown" "I"] ++ wsX70)
def wsX7_isIn : List Cond := .code yX7_isIn cX7_isIn 3 (some .boolean) :: ([])
def wsX7_isPlayer : List Cond := .code yX7_isPlayer cX7_isPlayer 1 (some .boolean) :: ([.methodLink RX7 61 yX7_isIn, .static yX7_isIn, .initialized RX7, .code yX7_isIn cX7_isIn 3 (some .boolean)])
def wsX7_isCard : List Cond := .code yX7_isCard cX7_isCard 1 (some .boolean) :: ([.methodLink RX7 61 yX7_isIn, .static yX7_isIn, .initialized RX7, .code yX7_isIn cX7_isIn 3 (some .boolean)])
def wsX7_suit : List Cond := .code yX7_suit cX7_suit 1 (some .int) :: ([])
def wsX7_worth : List Cond := .code yX7_worth cX7_worth 1 (some .int) :: ([])
def wsX7_has : List Cond := .code yX7_has cX7_has 3 (some .boolean) :: ([])
def wsX7_bit : List Cond := .code yX7_bit cX7_bit 1 (some .long) :: ([])
def wsX7_king : List Cond := .code yX7_king cX7_king 1 (some .int) :: ([.fieldLink RX7 34 "TarockHallModel" "called" "I"] ++ wsX70)
def wsX7_deal_r1 : List Cond := [Cond.constant RX7 65 (65535), Cond.fieldLink RX7 9 "TarockHallModel" "phase" "I", Cond.fieldLink RX7 16 "TarockHallModel" "row" "[I", Cond.constant RX7 70 (65536), Cond.fieldLink RX7 71 "TarockHallModel" "deals" "I", Cond.fieldLink RX7 74 "TarockHallModel" "forehand" "I", Cond.fieldLink RX7 20 "TarockHallModel" "hand" "[J", Cond.fieldLink RX7 49 "TarockHallModel" "won" "[J", Cond.fieldLink RX7 24 "TarockHallModel" "isPassed" "[Z", Cond.fieldLink RX7 81 "TarockHallModel" "passes" "I", Cond.fieldLink RX7 84 "TarockHallModel" "level" "I", Cond.fieldLink RX7 28 "TarockHallModel" "bidder" "I", Cond.fieldLink RX7 31 "TarockHallModel" "declarer" "I", Cond.fieldLink RX7 34 "TarockHallModel" "called" "I", Cond.fieldLink RX7 37 "TarockHallModel" "partner" "I", Cond.fieldLink RX7 40 "TarockHallModel" "holder" "I", Cond.fieldLink RX7 87 "TarockHallModel" "isOut" "Z", Cond.fieldLink RX7 91 "TarockHallModel" "laid" "J", Cond.fieldLink RX7 95 "TarockHallModel" "rest" "J", Cond.fieldLink RX7 98 "TarockHallModel" "isBegun" "Z", Cond.fieldLink RX7 43 "TarockHallModel" "isAnnounced" "[Z", Cond.fieldLink RX7 101 "TarockHallModel" "inTrick" "I", Cond.fieldLink RX7 104 "TarockHallModel" "tricks" "I", Cond.fieldLink RX7 13 "TarockHallModel" "turn" "I"]
def wsX7_deal_r2 : List Cond := [Cond.methodLink RX7 61 yX7_isIn, Cond.static yX7_isIn, Cond.initialized RX7, Cond.code yX7_isIn cX7_isIn 3 (some .boolean), Cond.methodLink RX7 66 yX7_isFine, Cond.instanceMethod yX7_isFine, Cond.selects RX7 yX7_isFine yX7_isFine, Cond.code yX7_isFine cX7_isFine 2 (some .boolean), Cond.fieldLink RX7 58 "TarockHallModel" "thrown" "I", Cond.methodLink RX7 77 yX7_bit, Cond.static yX7_bit, Cond.code yX7_bit cX7_bit 1 (some .long)]
def wsX7_deal : List Cond := .code yX7_deal cX7_deal 5 (some .int) :: ((wsX7_deal_r1 ++ wsX7_deal_r2) ++ wsX70)
def wsX7_talon : List Cond := .code yX7_talon cX7_talon 2 (some .int) :: ([.fieldLink RX7 16 "TarockHallModel" "row" "[I"] ++ wsX70)
def wsX7_begins : List Cond := .code yX7_begins cX7_begins 1 none :: ([.fieldLink RX7 9 "TarockHallModel" "phase" "I", .fieldLink RX7 98 "TarockHallModel" "isBegun" "Z", .fieldLink RX7 74 "TarockHallModel" "forehand" "I", .fieldLink RX7 13 "TarockHallModel" "turn" "I", .fieldLink RX7 107 "TarockHallModel" "leader" "I"] ++ wsX70)
def wsX7_declares : List Cond := .code yX7_declares cX7_declares 2 none :: ([.fieldLink RX7 28 "TarockHallModel" "bidder" "I", .fieldLink RX7 31 "TarockHallModel" "declarer" "I", .fieldLink RX7 13 "TarockHallModel" "turn" "I", .fieldLink RX7 84 "TarockHallModel" "level" "I", .fieldLink RX7 95 "TarockHallModel" "rest" "J", .fieldLink RX7 9 "TarockHallModel" "phase" "I", .methodLink RX7 110 yX7_talon, .instanceMethod yX7_talon, .selects RX7 yX7_talon yX7_talon, .initialized RX7, .code yX7_talon cX7_talon 2 (some .int), .fieldLink RX7 16 "TarockHallModel" "row" "[I", .methodLink RX7 77 yX7_bit, .static yX7_bit, .code yX7_bit cX7_bit 1 (some .long), .methodLink RX7 114 yX7_begins, .instanceMethod yX7_begins, .selects RX7 yX7_begins yX7_begins, .code yX7_begins cX7_begins 1 none, .fieldLink RX7 98 "TarockHallModel" "isBegun" "Z", .fieldLink RX7 74 "TarockHallModel" "forehand" "I", .fieldLink RX7 107 "TarockHallModel" "leader" "I"] ++ wsX70)
def wsX7_bid_r1 : List Cond := [Cond.fieldLink RX7 9 "TarockHallModel" "phase" "I", Cond.fieldLink RX7 84 "TarockHallModel" "level" "I", Cond.fieldLink RX7 24 "TarockHallModel" "isPassed" "[Z", Cond.fieldLink RX7 13 "TarockHallModel" "turn" "I", Cond.fieldLink RX7 81 "TarockHallModel" "passes" "I", Cond.fieldLink RX7 28 "TarockHallModel" "bidder" "I", Cond.methodLink RX7 61 yX7_isIn, Cond.static yX7_isIn, Cond.initialized RX7, Cond.code yX7_isIn cX7_isIn 3 (some .boolean), Cond.methodLink RX7 66 yX7_isFine, Cond.instanceMethod yX7_isFine, Cond.selects RX7 yX7_isFine yX7_isFine, Cond.code yX7_isFine cX7_isFine 2 (some .boolean), Cond.fieldLink RX7 58 "TarockHallModel" "thrown" "I", Cond.methodLink RX7 117 yX7_declares, Cond.instanceMethod yX7_declares, Cond.selects RX7 yX7_declares yX7_declares, Cond.code yX7_declares cX7_declares 2 none, Cond.fieldLink RX7 31 "TarockHallModel" "declarer" "I", Cond.fieldLink RX7 95 "TarockHallModel" "rest" "J", Cond.methodLink RX7 110 yX7_talon, Cond.instanceMethod yX7_talon, Cond.selects RX7 yX7_talon yX7_talon]
def wsX7_bid_r2 : List Cond := [Cond.code yX7_talon cX7_talon 2 (some .int), Cond.fieldLink RX7 16 "TarockHallModel" "row" "[I", Cond.methodLink RX7 77 yX7_bit, Cond.static yX7_bit, Cond.code yX7_bit cX7_bit 1 (some .long), Cond.methodLink RX7 114 yX7_begins, Cond.instanceMethod yX7_begins, Cond.selects RX7 yX7_begins yX7_begins, Cond.code yX7_begins cX7_begins 1 none, Cond.fieldLink RX7 98 "TarockHallModel" "isBegun" "Z", Cond.fieldLink RX7 74 "TarockHallModel" "forehand" "I", Cond.fieldLink RX7 107 "TarockHallModel" "leader" "I"]
def wsX7_bid : List Cond := .code yX7_bid cX7_bid 2 (some .int) :: ((wsX7_bid_r1 ++ wsX7_bid_r2) ++ wsX70)
def wsX7_call : List Cond := .code yX7_call cX7_call 3 (some .int) :: ([.fieldLink RX7 9 "TarockHallModel" "phase" "I", .fieldLink RX7 34 "TarockHallModel" "called" "I", .fieldLink RX7 20 "TarockHallModel" "hand" "[J", .fieldLink RX7 40 "TarockHallModel" "holder" "I", .fieldLink RX7 31 "TarockHallModel" "declarer" "I", .fieldLink RX7 37 "TarockHallModel" "partner" "I", .methodLink RX7 61 yX7_isIn, .static yX7_isIn, .initialized RX7, .code yX7_isIn cX7_isIn 3 (some .boolean), .methodLink RX7 66 yX7_isFine, .instanceMethod yX7_isFine, .selects RX7 yX7_isFine yX7_isFine, .code yX7_isFine cX7_isFine 2 (some .boolean), .fieldLink RX7 58 "TarockHallModel" "thrown" "I", .methodLink RX7 120 yX7_king, .instanceMethod yX7_king, .selects RX7 yX7_king yX7_king, .code yX7_king cX7_king 1 (some .int), .methodLink RX7 124 yX7_has, .static yX7_has, .code yX7_has cX7_has 3 (some .boolean)] ++ wsX70)
def wsX7_take : List Cond := .code yX7_take cX7_take 4 (some .int) :: ([.fieldLink RX7 9 "TarockHallModel" "phase" "I", .fieldLink RX7 84 "TarockHallModel" "level" "I", .fieldLink RX7 20 "TarockHallModel" "hand" "[J", .fieldLink RX7 31 "TarockHallModel" "declarer" "I", .fieldLink RX7 95 "TarockHallModel" "rest" "J", .fieldLink RX7 128 "TarockHallModel" "toLay" "I", .methodLink RX7 61 yX7_isIn, .static yX7_isIn, .initialized RX7, .code yX7_isIn cX7_isIn 3 (some .boolean), .methodLink RX7 66 yX7_isFine, .instanceMethod yX7_isFine, .selects RX7 yX7_isFine yX7_isFine, .code yX7_isFine cX7_isFine 2 (some .boolean), .fieldLink RX7 58 "TarockHallModel" "thrown" "I", .methodLink RX7 110 yX7_talon, .instanceMethod yX7_talon, .selects RX7 yX7_talon yX7_talon, .code yX7_talon cX7_talon 2 (some .int), .fieldLink RX7 16 "TarockHallModel" "row" "[I", .methodLink RX7 77 yX7_bit, .static yX7_bit, .code yX7_bit cX7_bit 1 (some .long)] ++ wsX70)
def wsX7_discard_r1 : List Cond := [Cond.fieldLink RX7 9 "TarockHallModel" "phase" "I", Cond.fieldLink RX7 20 "TarockHallModel" "hand" "[J", Cond.fieldLink RX7 31 "TarockHallModel" "declarer" "I", Cond.fieldLink RX7 91 "TarockHallModel" "laid" "J", Cond.fieldLink RX7 128 "TarockHallModel" "toLay" "I", Cond.methodLink RX7 131 yX7_isCard, Cond.static yX7_isCard, Cond.initialized RX7, Cond.code yX7_isCard cX7_isCard 1 (some .boolean), Cond.methodLink RX7 61 yX7_isIn, Cond.static yX7_isIn, Cond.code yX7_isIn cX7_isIn 3 (some .boolean), Cond.methodLink RX7 124 yX7_has, Cond.static yX7_has, Cond.code yX7_has cX7_has 3 (some .boolean), Cond.methodLink RX7 134 yX7_worth, Cond.static yX7_worth, Cond.code yX7_worth cX7_worth 1 (some .int), Cond.methodLink RX7 66 yX7_isFine, Cond.instanceMethod yX7_isFine, Cond.selects RX7 yX7_isFine yX7_isFine, Cond.code yX7_isFine cX7_isFine 2 (some .boolean), Cond.fieldLink RX7 58 "TarockHallModel" "thrown" "I", Cond.methodLink RX7 77 yX7_bit]
def wsX7_discard_r2 : List Cond := [Cond.static yX7_bit, Cond.code yX7_bit cX7_bit 1 (some .long), Cond.methodLink RX7 114 yX7_begins, Cond.instanceMethod yX7_begins, Cond.selects RX7 yX7_begins yX7_begins, Cond.code yX7_begins cX7_begins 1 none, Cond.fieldLink RX7 98 "TarockHallModel" "isBegun" "Z", Cond.fieldLink RX7 74 "TarockHallModel" "forehand" "I", Cond.fieldLink RX7 13 "TarockHallModel" "turn" "I", Cond.fieldLink RX7 107 "TarockHallModel" "leader" "I"]
def wsX7_discard : List Cond := .code yX7_discard cX7_discard 3 (some .int) :: ((wsX7_discard_r1 ++ wsX7_discard_r2) ++ wsX70)
def wsX7_announce : List Cond := .code yX7_announce cX7_announce 4 (some .int) :: ([.fieldLink RX7 9 "TarockHallModel" "phase" "I", .fieldLink RX7 104 "TarockHallModel" "tricks" "I", .fieldLink RX7 101 "TarockHallModel" "inTrick" "I", .fieldLink RX7 43 "TarockHallModel" "isAnnounced" "[Z", .fieldLink RX7 84 "TarockHallModel" "level" "I", .methodLink RX7 61 yX7_isIn, .static yX7_isIn, .initialized RX7, .code yX7_isIn cX7_isIn 3 (some .boolean), .methodLink RX7 66 yX7_isFine, .instanceMethod yX7_isFine, .selects RX7 yX7_isFine yX7_isFine, .code yX7_isFine cX7_isFine 2 (some .boolean), .fieldLink RX7 58 "TarockHallModel" "thrown" "I"] ++ wsX70)
def wsX7_hasSuit : List Cond := .code yX7_hasSuit cX7_hasSuit 5 (some .boolean) :: ([.methodLink RX7 124 yX7_has, .static yX7_has, .initialized RX7, .code yX7_has cX7_has 3 (some .boolean), .methodLink RX7 137 yX7_suit, .static yX7_suit, .code yX7_suit cX7_suit 1 (some .int)])
def wsX7_isPlayable : List Cond := .code yX7_isPlayable cX7_isPlayable 3 (some .boolean) :: ([.fieldLink RX7 9 "TarockHallModel" "phase" "I", .fieldLink RX7 20 "TarockHallModel" "hand" "[J", .fieldLink RX7 13 "TarockHallModel" "turn" "I", .fieldLink RX7 101 "TarockHallModel" "inTrick" "I", .fieldLink RX7 46 "TarockHallModel" "trick" "[I", .methodLink RX7 124 yX7_has, .static yX7_has, .initialized RX7, .code yX7_has cX7_has 3 (some .boolean), .methodLink RX7 137 yX7_suit, .static yX7_suit, .code yX7_suit cX7_suit 1 (some .int), .methodLink RX7 140 yX7_hasSuit, .static yX7_hasSuit, .code yX7_hasSuit cX7_hasSuit 5 (some .boolean)] ++ wsX70)
def wsX7_best : List Cond := .code yX7_best cX7_best 4 (some .int) :: ([.fieldLink RX7 101 "TarockHallModel" "inTrick" "I", .fieldLink RX7 46 "TarockHallModel" "trick" "[I", .methodLink RX7 137 yX7_suit, .static yX7_suit, .initialized RX7, .code yX7_suit cX7_suit 1 (some .int)] ++ wsX70)
def wsX7_sideOf : List Cond := .code yX7_sideOf cX7_sideOf 2 (some .int) :: ([.fieldLink RX7 31 "TarockHallModel" "declarer" "I", .fieldLink RX7 37 "TarockHallModel" "partner" "I"] ++ wsX70)
def wsX7_cardsOf : List Cond := .code yX7_cardsOf cX7_cardsOf 5 (some .long) :: ([.fieldLink RX7 91 "TarockHallModel" "laid" "J", .fieldLink RX7 95 "TarockHallModel" "rest" "J", .fieldLink RX7 49 "TarockHallModel" "won" "[J", .fieldLink RX7 98 "TarockHallModel" "isBegun" "Z", .methodLink RX7 143 yX7_sideOf, .instanceMethod yX7_sideOf, .selects RX7 yX7_sideOf yX7_sideOf, .initialized RX7, .code yX7_sideOf cX7_sideOf 2 (some .int), .fieldLink RX7 31 "TarockHallModel" "declarer" "I", .fieldLink RX7 37 "TarockHallModel" "partner" "I"] ++ wsX70)
def wsX7_counted : List Cond := .code yX7_counted cX7_counted 4 (some .int) :: ([.methodLink RX7 146 yX7_cardsOf, .instanceMethod yX7_cardsOf, .selects RX7 yX7_cardsOf yX7_cardsOf, .initialized RX7, .code yX7_cardsOf cX7_cardsOf 5 (some .long), .fieldLink RX7 91 "TarockHallModel" "laid" "J", .fieldLink RX7 95 "TarockHallModel" "rest" "J", .fieldLink RX7 49 "TarockHallModel" "won" "[J", .fieldLink RX7 98 "TarockHallModel" "isBegun" "Z", .methodLink RX7 143 yX7_sideOf, .instanceMethod yX7_sideOf, .selects RX7 yX7_sideOf yX7_sideOf, .code yX7_sideOf cX7_sideOf 2 (some .int), .fieldLink RX7 31 "TarockHallModel" "declarer" "I", .fieldLink RX7 37 "TarockHallModel" "partner" "I", .methodLink RX7 124 yX7_has, .static yX7_has, .code yX7_has cX7_has 3 (some .boolean), .methodLink RX7 134 yX7_worth, .static yX7_worth, .code yX7_worth cX7_worth 1 (some .int)] ++ wsX70)
def wsX7_placeOf : List Cond := .code yX7_placeOf cX7_placeOf 3 (some .int) :: ([.fieldLink RX7 101 "TarockHallModel" "inTrick" "I", .fieldLink RX7 46 "TarockHallModel" "trick" "[I"] ++ wsX70)
def wsX7_pagatCount : List Cond := .code yX7_pagatCount cX7_pagatCount 4 (some .int) :: ([.fieldLink RX7 107 "TarockHallModel" "leader" "I", .fieldLink RX7 43 "TarockHallModel" "isAnnounced" "[Z", .methodLink RX7 149 yX7_placeOf, .instanceMethod yX7_placeOf, .selects RX7 yX7_placeOf yX7_placeOf, .initialized RX7, .code yX7_placeOf cX7_placeOf 3 (some .int), .fieldLink RX7 101 "TarockHallModel" "inTrick" "I", .fieldLink RX7 46 "TarockHallModel" "trick" "[I", .methodLink RX7 143 yX7_sideOf, .instanceMethod yX7_sideOf, .selects RX7 yX7_sideOf yX7_sideOf, .code yX7_sideOf cX7_sideOf 2 (some .int), .fieldLink RX7 31 "TarockHallModel" "declarer" "I", .fieldLink RX7 37 "TarockHallModel" "partner" "I", .methodLink RX7 152 yX7_best, .instanceMethod yX7_best, .selects RX7 yX7_best yX7_best, .code yX7_best cX7_best 4 (some .int), .methodLink RX7 137 yX7_suit, .static yX7_suit, .code yX7_suit cX7_suit 1 (some .int)] ++ wsX70)
def wsX7_kingCount_r1 : List Cond := [Cond.fieldLink RX7 34 "TarockHallModel" "called" "I", Cond.fieldLink RX7 107 "TarockHallModel" "leader" "I", Cond.fieldLink RX7 43 "TarockHallModel" "isAnnounced" "[Z", Cond.methodLink RX7 120 yX7_king, Cond.instanceMethod yX7_king, Cond.selects RX7 yX7_king yX7_king, Cond.initialized RX7, Cond.code yX7_king cX7_king 1 (some .int), Cond.methodLink RX7 149 yX7_placeOf, Cond.instanceMethod yX7_placeOf, Cond.selects RX7 yX7_placeOf yX7_placeOf, Cond.code yX7_placeOf cX7_placeOf 3 (some .int), Cond.fieldLink RX7 101 "TarockHallModel" "inTrick" "I", Cond.fieldLink RX7 46 "TarockHallModel" "trick" "[I", Cond.methodLink RX7 152 yX7_best, Cond.instanceMethod yX7_best, Cond.selects RX7 yX7_best yX7_best, Cond.code yX7_best cX7_best 4 (some .int), Cond.methodLink RX7 137 yX7_suit, Cond.static yX7_suit, Cond.code yX7_suit cX7_suit 1 (some .int), Cond.methodLink RX7 143 yX7_sideOf, Cond.instanceMethod yX7_sideOf, Cond.selects RX7 yX7_sideOf yX7_sideOf]
def wsX7_kingCount_r2 : List Cond := [Cond.code yX7_sideOf cX7_sideOf 2 (some .int), Cond.fieldLink RX7 31 "TarockHallModel" "declarer" "I", Cond.fieldLink RX7 37 "TarockHallModel" "partner" "I"]
def wsX7_kingCount : List Cond := .code yX7_kingCount cX7_kingCount 3 (some .int) :: ((wsX7_kingCount_r1 ++ wsX7_kingCount_r2) ++ wsX70)
def wsX7_gameCount : List Cond := .code yX7_gameCount cX7_gameCount 4 (some .int) :: ([.fieldLink RX7 84 "TarockHallModel" "level" "I"] ++ wsX70)
def wsX7_scores_r1 : List Cond := [Cond.fieldLink RX7 161 "TarockHallModel" "result" "I", Cond.fieldLink RX7 55 "TarockHallModel" "radli" "[I", Cond.fieldLink RX7 31 "TarockHallModel" "declarer" "I", Cond.fieldLink RX7 52 "TarockHallModel" "score" "[I", Cond.fieldLink RX7 84 "TarockHallModel" "level" "I", Cond.fieldLink RX7 9 "TarockHallModel" "phase" "I", Cond.fieldLink RX7 13 "TarockHallModel" "turn" "I", Cond.methodLink RX7 155 yX7_counted, Cond.instanceMethod yX7_counted, Cond.selects RX7 yX7_counted yX7_counted, Cond.initialized RX7, Cond.code yX7_counted cX7_counted 4 (some .int), Cond.methodLink RX7 146 yX7_cardsOf, Cond.instanceMethod yX7_cardsOf, Cond.selects RX7 yX7_cardsOf yX7_cardsOf, Cond.code yX7_cardsOf cX7_cardsOf 5 (some .long), Cond.fieldLink RX7 91 "TarockHallModel" "laid" "J", Cond.fieldLink RX7 95 "TarockHallModel" "rest" "J", Cond.fieldLink RX7 49 "TarockHallModel" "won" "[J", Cond.fieldLink RX7 98 "TarockHallModel" "isBegun" "Z", Cond.methodLink RX7 143 yX7_sideOf, Cond.instanceMethod yX7_sideOf, Cond.selects RX7 yX7_sideOf yX7_sideOf, Cond.code yX7_sideOf cX7_sideOf 2 (some .int)]
def wsX7_scores_r2 : List Cond := [Cond.fieldLink RX7 37 "TarockHallModel" "partner" "I", Cond.methodLink RX7 124 yX7_has, Cond.static yX7_has, Cond.code yX7_has cX7_has 3 (some .boolean), Cond.methodLink RX7 134 yX7_worth, Cond.static yX7_worth, Cond.code yX7_worth cX7_worth 1 (some .int), Cond.methodLink RX7 158 yX7_gameCount, Cond.instanceMethod yX7_gameCount, Cond.selects RX7 yX7_gameCount yX7_gameCount, Cond.code yX7_gameCount cX7_gameCount 4 (some .int)]
def wsX7_scores : List Cond := .code yX7_scores cX7_scores 4 none :: ((wsX7_scores_r1 ++ wsX7_scores_r2) ++ wsX70)
def wsX7_plays_r1 : List Cond := [Cond.fieldLink RX7 20 "TarockHallModel" "hand" "[J", Cond.fieldLink RX7 13 "TarockHallModel" "turn" "I", Cond.fieldLink RX7 46 "TarockHallModel" "trick" "[I", Cond.fieldLink RX7 101 "TarockHallModel" "inTrick" "I", Cond.fieldLink RX7 87 "TarockHallModel" "isOut" "Z", Cond.fieldLink RX7 34 "TarockHallModel" "called" "I", Cond.fieldLink RX7 107 "TarockHallModel" "leader" "I", Cond.fieldLink RX7 49 "TarockHallModel" "won" "[J", Cond.fieldLink RX7 104 "TarockHallModel" "tricks" "I", Cond.methodLink RX7 77 yX7_bit, Cond.static yX7_bit, Cond.initialized RX7, Cond.code yX7_bit cX7_bit 1 (some .long), Cond.methodLink RX7 120 yX7_king, Cond.instanceMethod yX7_king, Cond.selects RX7 yX7_king yX7_king, Cond.code yX7_king cX7_king 1 (some .int), Cond.methodLink RX7 152 yX7_best, Cond.instanceMethod yX7_best, Cond.selects RX7 yX7_best yX7_best, Cond.code yX7_best cX7_best 4 (some .int), Cond.methodLink RX7 137 yX7_suit, Cond.static yX7_suit, Cond.code yX7_suit cX7_suit 1 (some .int)]
def wsX7_plays_r2 : List Cond := [Cond.methodLink RX7 164 yX7_pagatCount, Cond.instanceMethod yX7_pagatCount, Cond.selects RX7 yX7_pagatCount yX7_pagatCount, Cond.code yX7_pagatCount cX7_pagatCount 4 (some .int), Cond.fieldLink RX7 43 "TarockHallModel" "isAnnounced" "[Z", Cond.methodLink RX7 149 yX7_placeOf, Cond.instanceMethod yX7_placeOf, Cond.selects RX7 yX7_placeOf yX7_placeOf, Cond.code yX7_placeOf cX7_placeOf 3 (some .int), Cond.methodLink RX7 143 yX7_sideOf, Cond.instanceMethod yX7_sideOf, Cond.selects RX7 yX7_sideOf yX7_sideOf, Cond.code yX7_sideOf cX7_sideOf 2 (some .int), Cond.fieldLink RX7 31 "TarockHallModel" "declarer" "I", Cond.fieldLink RX7 37 "TarockHallModel" "partner" "I", Cond.methodLink RX7 167 yX7_kingCount, Cond.instanceMethod yX7_kingCount, Cond.selects RX7 yX7_kingCount yX7_kingCount, Cond.code yX7_kingCount cX7_kingCount 3 (some .int), Cond.methodLink RX7 170 yX7_scores, Cond.instanceMethod yX7_scores, Cond.selects RX7 yX7_scores yX7_scores, Cond.code yX7_scores cX7_scores 4 none, Cond.fieldLink RX7 161 "TarockHallModel" "result" "I"]
def wsX7_plays_r3 : List Cond := [Cond.fieldLink RX7 55 "TarockHallModel" "radli" "[I", Cond.fieldLink RX7 52 "TarockHallModel" "score" "[I", Cond.fieldLink RX7 84 "TarockHallModel" "level" "I", Cond.fieldLink RX7 9 "TarockHallModel" "phase" "I", Cond.methodLink RX7 155 yX7_counted, Cond.instanceMethod yX7_counted, Cond.selects RX7 yX7_counted yX7_counted, Cond.code yX7_counted cX7_counted 4 (some .int), Cond.methodLink RX7 146 yX7_cardsOf, Cond.instanceMethod yX7_cardsOf, Cond.selects RX7 yX7_cardsOf yX7_cardsOf, Cond.code yX7_cardsOf cX7_cardsOf 5 (some .long), Cond.fieldLink RX7 91 "TarockHallModel" "laid" "J", Cond.fieldLink RX7 95 "TarockHallModel" "rest" "J", Cond.fieldLink RX7 98 "TarockHallModel" "isBegun" "Z", Cond.methodLink RX7 124 yX7_has, Cond.static yX7_has, Cond.code yX7_has cX7_has 3 (some .boolean), Cond.methodLink RX7 134 yX7_worth, Cond.static yX7_worth, Cond.code yX7_worth cX7_worth 1 (some .int), Cond.methodLink RX7 158 yX7_gameCount, Cond.instanceMethod yX7_gameCount, Cond.selects RX7 yX7_gameCount yX7_gameCount]
def wsX7_plays_r4 : List Cond := [Cond.code yX7_gameCount cX7_gameCount 4 (some .int)]
def wsX7_plays : List Cond := .code yX7_plays cX7_plays 4 (some .int) :: ((wsX7_plays_r1 ++ (wsX7_plays_r2 ++ (wsX7_plays_r3 ++ wsX7_plays_r4))) ++ wsX70)
def wsX7_play_r1 : List Cond := [Cond.methodLink RX7 131 yX7_isCard, Cond.static yX7_isCard, Cond.initialized RX7, Cond.code yX7_isCard cX7_isCard 1 (some .boolean), Cond.methodLink RX7 61 yX7_isIn, Cond.static yX7_isIn, Cond.code yX7_isIn cX7_isIn 3 (some .boolean), Cond.methodLink RX7 174 yX7_isPlayable, Cond.instanceMethod yX7_isPlayable, Cond.selects RX7 yX7_isPlayable yX7_isPlayable, Cond.code yX7_isPlayable cX7_isPlayable 3 (some .boolean), Cond.fieldLink RX7 9 "TarockHallModel" "phase" "I", Cond.fieldLink RX7 20 "TarockHallModel" "hand" "[J", Cond.fieldLink RX7 13 "TarockHallModel" "turn" "I", Cond.fieldLink RX7 101 "TarockHallModel" "inTrick" "I", Cond.fieldLink RX7 46 "TarockHallModel" "trick" "[I", Cond.methodLink RX7 124 yX7_has, Cond.static yX7_has, Cond.code yX7_has cX7_has 3 (some .boolean), Cond.methodLink RX7 137 yX7_suit, Cond.static yX7_suit, Cond.code yX7_suit cX7_suit 1 (some .int), Cond.methodLink RX7 140 yX7_hasSuit, Cond.static yX7_hasSuit]
def wsX7_play_r2 : List Cond := [Cond.code yX7_hasSuit cX7_hasSuit 5 (some .boolean), Cond.methodLink RX7 66 yX7_isFine, Cond.instanceMethod yX7_isFine, Cond.selects RX7 yX7_isFine yX7_isFine, Cond.code yX7_isFine cX7_isFine 2 (some .boolean), Cond.fieldLink RX7 58 "TarockHallModel" "thrown" "I", Cond.methodLink RX7 177 yX7_plays, Cond.instanceMethod yX7_plays, Cond.selects RX7 yX7_plays yX7_plays, Cond.code yX7_plays cX7_plays 4 (some .int), Cond.fieldLink RX7 87 "TarockHallModel" "isOut" "Z", Cond.fieldLink RX7 34 "TarockHallModel" "called" "I", Cond.fieldLink RX7 107 "TarockHallModel" "leader" "I", Cond.fieldLink RX7 49 "TarockHallModel" "won" "[J", Cond.fieldLink RX7 104 "TarockHallModel" "tricks" "I", Cond.methodLink RX7 77 yX7_bit, Cond.static yX7_bit, Cond.code yX7_bit cX7_bit 1 (some .long), Cond.methodLink RX7 120 yX7_king, Cond.instanceMethod yX7_king, Cond.selects RX7 yX7_king yX7_king, Cond.code yX7_king cX7_king 1 (some .int), Cond.methodLink RX7 152 yX7_best, Cond.instanceMethod yX7_best]
def wsX7_play_r3 : List Cond := [Cond.selects RX7 yX7_best yX7_best, Cond.code yX7_best cX7_best 4 (some .int), Cond.methodLink RX7 164 yX7_pagatCount, Cond.instanceMethod yX7_pagatCount, Cond.selects RX7 yX7_pagatCount yX7_pagatCount, Cond.code yX7_pagatCount cX7_pagatCount 4 (some .int), Cond.fieldLink RX7 43 "TarockHallModel" "isAnnounced" "[Z", Cond.methodLink RX7 149 yX7_placeOf, Cond.instanceMethod yX7_placeOf, Cond.selects RX7 yX7_placeOf yX7_placeOf, Cond.code yX7_placeOf cX7_placeOf 3 (some .int), Cond.methodLink RX7 143 yX7_sideOf, Cond.instanceMethod yX7_sideOf, Cond.selects RX7 yX7_sideOf yX7_sideOf, Cond.code yX7_sideOf cX7_sideOf 2 (some .int), Cond.fieldLink RX7 31 "TarockHallModel" "declarer" "I", Cond.fieldLink RX7 37 "TarockHallModel" "partner" "I", Cond.methodLink RX7 167 yX7_kingCount, Cond.instanceMethod yX7_kingCount, Cond.selects RX7 yX7_kingCount yX7_kingCount, Cond.code yX7_kingCount cX7_kingCount 3 (some .int), Cond.methodLink RX7 170 yX7_scores, Cond.instanceMethod yX7_scores, Cond.selects RX7 yX7_scores yX7_scores]
def wsX7_play_r4 : List Cond := [Cond.code yX7_scores cX7_scores 4 none, Cond.fieldLink RX7 161 "TarockHallModel" "result" "I", Cond.fieldLink RX7 55 "TarockHallModel" "radli" "[I", Cond.fieldLink RX7 52 "TarockHallModel" "score" "[I", Cond.fieldLink RX7 84 "TarockHallModel" "level" "I", Cond.methodLink RX7 155 yX7_counted, Cond.instanceMethod yX7_counted, Cond.selects RX7 yX7_counted yX7_counted, Cond.code yX7_counted cX7_counted 4 (some .int), Cond.methodLink RX7 146 yX7_cardsOf, Cond.instanceMethod yX7_cardsOf, Cond.selects RX7 yX7_cardsOf yX7_cardsOf, Cond.code yX7_cardsOf cX7_cardsOf 5 (some .long), Cond.fieldLink RX7 91 "TarockHallModel" "laid" "J", Cond.fieldLink RX7 95 "TarockHallModel" "rest" "J", Cond.fieldLink RX7 98 "TarockHallModel" "isBegun" "Z", Cond.methodLink RX7 134 yX7_worth, Cond.static yX7_worth, Cond.code yX7_worth cX7_worth 1 (some .int), Cond.methodLink RX7 158 yX7_gameCount, Cond.instanceMethod yX7_gameCount, Cond.selects RX7 yX7_gameCount yX7_gameCount, Cond.code yX7_gameCount cX7_gameCount 4 (some .int)]
def wsX7_play : List Cond := .code yX7_play cX7_play 2 (some .int) :: ((wsX7_play_r1 ++ (wsX7_play_r2 ++ (wsX7_play_r3 ++ wsX7_play_r4))) ++ wsX70)
def wsX7_playLowest_r1 : List Cond := [Cond.fieldLink RX7 9 "TarockHallModel" "phase" "I", Cond.methodLink RX7 61 yX7_isIn, Cond.static yX7_isIn, Cond.initialized RX7, Cond.code yX7_isIn cX7_isIn 3 (some .boolean), Cond.methodLink RX7 66 yX7_isFine, Cond.instanceMethod yX7_isFine, Cond.selects RX7 yX7_isFine yX7_isFine, Cond.code yX7_isFine cX7_isFine 2 (some .boolean), Cond.fieldLink RX7 58 "TarockHallModel" "thrown" "I", Cond.methodLink RX7 174 yX7_isPlayable, Cond.instanceMethod yX7_isPlayable, Cond.selects RX7 yX7_isPlayable yX7_isPlayable, Cond.code yX7_isPlayable cX7_isPlayable 3 (some .boolean), Cond.fieldLink RX7 20 "TarockHallModel" "hand" "[J", Cond.fieldLink RX7 13 "TarockHallModel" "turn" "I", Cond.fieldLink RX7 101 "TarockHallModel" "inTrick" "I", Cond.fieldLink RX7 46 "TarockHallModel" "trick" "[I", Cond.methodLink RX7 124 yX7_has, Cond.static yX7_has, Cond.code yX7_has cX7_has 3 (some .boolean), Cond.methodLink RX7 137 yX7_suit, Cond.static yX7_suit, Cond.code yX7_suit cX7_suit 1 (some .int)]
def wsX7_playLowest_r2 : List Cond := [Cond.methodLink RX7 140 yX7_hasSuit, Cond.static yX7_hasSuit, Cond.code yX7_hasSuit cX7_hasSuit 5 (some .boolean), Cond.methodLink RX7 177 yX7_plays, Cond.instanceMethod yX7_plays, Cond.selects RX7 yX7_plays yX7_plays, Cond.code yX7_plays cX7_plays 4 (some .int), Cond.fieldLink RX7 87 "TarockHallModel" "isOut" "Z", Cond.fieldLink RX7 34 "TarockHallModel" "called" "I", Cond.fieldLink RX7 107 "TarockHallModel" "leader" "I", Cond.fieldLink RX7 49 "TarockHallModel" "won" "[J", Cond.fieldLink RX7 104 "TarockHallModel" "tricks" "I", Cond.methodLink RX7 77 yX7_bit, Cond.static yX7_bit, Cond.code yX7_bit cX7_bit 1 (some .long), Cond.methodLink RX7 120 yX7_king, Cond.instanceMethod yX7_king, Cond.selects RX7 yX7_king yX7_king, Cond.code yX7_king cX7_king 1 (some .int), Cond.methodLink RX7 152 yX7_best, Cond.instanceMethod yX7_best, Cond.selects RX7 yX7_best yX7_best, Cond.code yX7_best cX7_best 4 (some .int), Cond.methodLink RX7 164 yX7_pagatCount]
def wsX7_playLowest_r3 : List Cond := [Cond.instanceMethod yX7_pagatCount, Cond.selects RX7 yX7_pagatCount yX7_pagatCount, Cond.code yX7_pagatCount cX7_pagatCount 4 (some .int), Cond.fieldLink RX7 43 "TarockHallModel" "isAnnounced" "[Z", Cond.methodLink RX7 149 yX7_placeOf, Cond.instanceMethod yX7_placeOf, Cond.selects RX7 yX7_placeOf yX7_placeOf, Cond.code yX7_placeOf cX7_placeOf 3 (some .int), Cond.methodLink RX7 143 yX7_sideOf, Cond.instanceMethod yX7_sideOf, Cond.selects RX7 yX7_sideOf yX7_sideOf, Cond.code yX7_sideOf cX7_sideOf 2 (some .int), Cond.fieldLink RX7 31 "TarockHallModel" "declarer" "I", Cond.fieldLink RX7 37 "TarockHallModel" "partner" "I", Cond.methodLink RX7 167 yX7_kingCount, Cond.instanceMethod yX7_kingCount, Cond.selects RX7 yX7_kingCount yX7_kingCount, Cond.code yX7_kingCount cX7_kingCount 3 (some .int), Cond.methodLink RX7 170 yX7_scores, Cond.instanceMethod yX7_scores, Cond.selects RX7 yX7_scores yX7_scores, Cond.code yX7_scores cX7_scores 4 none, Cond.fieldLink RX7 161 "TarockHallModel" "result" "I", Cond.fieldLink RX7 55 "TarockHallModel" "radli" "[I"]
def wsX7_playLowest_r4 : List Cond := [Cond.fieldLink RX7 52 "TarockHallModel" "score" "[I", Cond.fieldLink RX7 84 "TarockHallModel" "level" "I", Cond.methodLink RX7 155 yX7_counted, Cond.instanceMethod yX7_counted, Cond.selects RX7 yX7_counted yX7_counted, Cond.code yX7_counted cX7_counted 4 (some .int), Cond.methodLink RX7 146 yX7_cardsOf, Cond.instanceMethod yX7_cardsOf, Cond.selects RX7 yX7_cardsOf yX7_cardsOf, Cond.code yX7_cardsOf cX7_cardsOf 5 (some .long), Cond.fieldLink RX7 91 "TarockHallModel" "laid" "J", Cond.fieldLink RX7 95 "TarockHallModel" "rest" "J", Cond.fieldLink RX7 98 "TarockHallModel" "isBegun" "Z", Cond.methodLink RX7 134 yX7_worth, Cond.static yX7_worth, Cond.code yX7_worth cX7_worth 1 (some .int), Cond.methodLink RX7 158 yX7_gameCount, Cond.instanceMethod yX7_gameCount, Cond.selects RX7 yX7_gameCount yX7_gameCount, Cond.code yX7_gameCount cX7_gameCount 4 (some .int)]
def wsX7_playLowest : List Cond := .code yX7_playLowest cX7_playLowest 5 (some .int) :: ((wsX7_playLowest_r1 ++ (wsX7_playLowest_r2 ++ (wsX7_playLowest_r3 ++ wsX7_playLowest_r4))) ++ wsX70)
def wsX7_phase : List Cond := .code yX7_phase cX7_phase 1 (some .int) :: ([.fieldLink RX7 58 "TarockHallModel" "thrown" "I", .fieldLink RX7 9 "TarockHallModel" "phase" "I"] ++ wsX70)
def wsX7_turn : List Cond := .code yX7_turn cX7_turn 1 (some .int) :: ([.fieldLink RX7 58 "TarockHallModel" "thrown" "I", .fieldLink RX7 13 "TarockHallModel" "turn" "I"] ++ wsX70)
def wsX7_declarer : List Cond := .code yX7_declarer cX7_declarer 1 (some .int) :: ([.fieldLink RX7 58 "TarockHallModel" "thrown" "I", .fieldLink RX7 31 "TarockHallModel" "declarer" "I"] ++ wsX70)
def wsX7_level : List Cond := .code yX7_level cX7_level 1 (some .int) :: ([.fieldLink RX7 58 "TarockHallModel" "thrown" "I", .fieldLink RX7 84 "TarockHallModel" "level" "I"] ++ wsX70)
def wsX7_called : List Cond := .code yX7_called cX7_called 1 (some .int) :: ([.fieldLink RX7 58 "TarockHallModel" "thrown" "I", .fieldLink RX7 34 "TarockHallModel" "called" "I"] ++ wsX70)
def wsX7_partner : List Cond := .code yX7_partner cX7_partner 1 (some .int) :: ([.fieldLink RX7 58 "TarockHallModel" "thrown" "I", .fieldLink RX7 37 "TarockHallModel" "partner" "I"] ++ wsX70)
def wsX7_hand : List Cond := .code yX7_hand cX7_hand 2 (some .long) :: ([.fieldLink RX7 20 "TarockHallModel" "hand" "[J", .methodLink RX7 180 yX7_isPlayer, .static yX7_isPlayer, .initialized RX7, .code yX7_isPlayer cX7_isPlayer 1 (some .boolean), .methodLink RX7 61 yX7_isIn, .static yX7_isIn, .code yX7_isIn cX7_isIn 3 (some .boolean), .methodLink RX7 66 yX7_isFine, .instanceMethod yX7_isFine, .selects RX7 yX7_isFine yX7_isFine, .code yX7_isFine cX7_isFine 2 (some .boolean), .fieldLink RX7 58 "TarockHallModel" "thrown" "I"] ++ wsX70)
def wsX7_talonAt : List Cond := .code yX7_talonAt cX7_talonAt 2 (some .int) :: ([.fieldLink RX7 71 "TarockHallModel" "deals" "I", .methodLink RX7 61 yX7_isIn, .static yX7_isIn, .initialized RX7, .code yX7_isIn cX7_isIn 3 (some .boolean), .methodLink RX7 66 yX7_isFine, .instanceMethod yX7_isFine, .selects RX7 yX7_isFine yX7_isFine, .code yX7_isFine cX7_isFine 2 (some .boolean), .fieldLink RX7 58 "TarockHallModel" "thrown" "I", .methodLink RX7 110 yX7_talon, .instanceMethod yX7_talon, .selects RX7 yX7_talon yX7_talon, .code yX7_talon cX7_talon 2 (some .int), .fieldLink RX7 16 "TarockHallModel" "row" "[I"] ++ wsX70)
def wsX7_inTrick : List Cond := .code yX7_inTrick cX7_inTrick 1 (some .int) :: ([.fieldLink RX7 58 "TarockHallModel" "thrown" "I", .fieldLink RX7 101 "TarockHallModel" "inTrick" "I"] ++ wsX70)
def wsX7_trickAt : List Cond := .code yX7_trickAt cX7_trickAt 2 (some .int) :: ([.fieldLink RX7 101 "TarockHallModel" "inTrick" "I", .fieldLink RX7 46 "TarockHallModel" "trick" "[I", .methodLink RX7 61 yX7_isIn, .static yX7_isIn, .initialized RX7, .code yX7_isIn cX7_isIn 3 (some .boolean), .methodLink RX7 66 yX7_isFine, .instanceMethod yX7_isFine, .selects RX7 yX7_isFine yX7_isFine, .code yX7_isFine cX7_isFine 2 (some .boolean), .fieldLink RX7 58 "TarockHallModel" "thrown" "I"] ++ wsX70)
def wsX7_canPlay_r1 : List Cond := [Cond.methodLink RX7 131 yX7_isCard, Cond.static yX7_isCard, Cond.initialized RX7, Cond.code yX7_isCard cX7_isCard 1 (some .boolean), Cond.methodLink RX7 61 yX7_isIn, Cond.static yX7_isIn, Cond.code yX7_isIn cX7_isIn 3 (some .boolean), Cond.methodLink RX7 66 yX7_isFine, Cond.instanceMethod yX7_isFine, Cond.selects RX7 yX7_isFine yX7_isFine, Cond.code yX7_isFine cX7_isFine 2 (some .boolean), Cond.fieldLink RX7 58 "TarockHallModel" "thrown" "I", Cond.methodLink RX7 174 yX7_isPlayable, Cond.instanceMethod yX7_isPlayable, Cond.selects RX7 yX7_isPlayable yX7_isPlayable, Cond.code yX7_isPlayable cX7_isPlayable 3 (some .boolean), Cond.fieldLink RX7 9 "TarockHallModel" "phase" "I", Cond.fieldLink RX7 20 "TarockHallModel" "hand" "[J", Cond.fieldLink RX7 13 "TarockHallModel" "turn" "I", Cond.fieldLink RX7 101 "TarockHallModel" "inTrick" "I", Cond.fieldLink RX7 46 "TarockHallModel" "trick" "[I", Cond.methodLink RX7 124 yX7_has, Cond.static yX7_has, Cond.code yX7_has cX7_has 3 (some .boolean)]
def wsX7_canPlay_r2 : List Cond := [Cond.methodLink RX7 137 yX7_suit, Cond.static yX7_suit, Cond.code yX7_suit cX7_suit 1 (some .int), Cond.methodLink RX7 140 yX7_hasSuit, Cond.static yX7_hasSuit, Cond.code yX7_hasSuit cX7_hasSuit 5 (some .boolean)]
def wsX7_canPlay : List Cond := .code yX7_canPlay cX7_canPlay 2 (some .boolean) :: ((wsX7_canPlay_r1 ++ wsX7_canPlay_r2) ++ wsX70)
def wsX7_tricks : List Cond := .code yX7_tricks cX7_tricks 1 (some .int) :: ([.fieldLink RX7 58 "TarockHallModel" "thrown" "I", .fieldLink RX7 104 "TarockHallModel" "tricks" "I"] ++ wsX70)
def wsX7_valueOf : List Cond := .code yX7_valueOf cX7_valueOf 2 (some .int) :: ([.methodLink RX7 131 yX7_isCard, .static yX7_isCard, .initialized RX7, .code yX7_isCard cX7_isCard 1 (some .boolean), .methodLink RX7 61 yX7_isIn, .static yX7_isIn, .code yX7_isIn cX7_isIn 3 (some .boolean), .methodLink RX7 66 yX7_isFine, .instanceMethod yX7_isFine, .selects RX7 yX7_isFine yX7_isFine, .code yX7_isFine cX7_isFine 2 (some .boolean), .fieldLink RX7 58 "TarockHallModel" "thrown" "I", .methodLink RX7 134 yX7_worth, .static yX7_worth, .code yX7_worth cX7_worth 1 (some .int)] ++ wsX70)
def wsX7_thirds_r1 : List Cond := [Cond.methodLink RX7 61 yX7_isIn, Cond.static yX7_isIn, Cond.initialized RX7, Cond.code yX7_isIn cX7_isIn 3 (some .boolean), Cond.methodLink RX7 66 yX7_isFine, Cond.instanceMethod yX7_isFine, Cond.selects RX7 yX7_isFine yX7_isFine, Cond.code yX7_isFine cX7_isFine 2 (some .boolean), Cond.fieldLink RX7 58 "TarockHallModel" "thrown" "I", Cond.methodLink RX7 155 yX7_counted, Cond.instanceMethod yX7_counted, Cond.selects RX7 yX7_counted yX7_counted, Cond.code yX7_counted cX7_counted 4 (some .int), Cond.methodLink RX7 146 yX7_cardsOf, Cond.instanceMethod yX7_cardsOf, Cond.selects RX7 yX7_cardsOf yX7_cardsOf, Cond.code yX7_cardsOf cX7_cardsOf 5 (some .long), Cond.fieldLink RX7 91 "TarockHallModel" "laid" "J", Cond.fieldLink RX7 95 "TarockHallModel" "rest" "J", Cond.fieldLink RX7 49 "TarockHallModel" "won" "[J", Cond.fieldLink RX7 98 "TarockHallModel" "isBegun" "Z", Cond.methodLink RX7 143 yX7_sideOf, Cond.instanceMethod yX7_sideOf, Cond.selects RX7 yX7_sideOf yX7_sideOf]
def wsX7_thirds_r2 : List Cond := [Cond.code yX7_sideOf cX7_sideOf 2 (some .int), Cond.fieldLink RX7 31 "TarockHallModel" "declarer" "I", Cond.fieldLink RX7 37 "TarockHallModel" "partner" "I", Cond.methodLink RX7 124 yX7_has, Cond.static yX7_has, Cond.code yX7_has cX7_has 3 (some .boolean), Cond.methodLink RX7 134 yX7_worth, Cond.static yX7_worth, Cond.code yX7_worth cX7_worth 1 (some .int)]
def wsX7_thirds : List Cond := .code yX7_thirds cX7_thirds 2 (some .int) :: ((wsX7_thirds_r1 ++ wsX7_thirds_r2) ++ wsX70)
def wsX7_byPacks_r1 : List Cond := [Cond.methodLink RX7 61 yX7_isIn, Cond.static yX7_isIn, Cond.initialized RX7, Cond.code yX7_isIn cX7_isIn 3 (some .boolean), Cond.methodLink RX7 66 yX7_isFine, Cond.instanceMethod yX7_isFine, Cond.selects RX7 yX7_isFine yX7_isFine, Cond.code yX7_isFine cX7_isFine 2 (some .boolean), Cond.fieldLink RX7 58 "TarockHallModel" "thrown" "I", Cond.methodLink RX7 146 yX7_cardsOf, Cond.instanceMethod yX7_cardsOf, Cond.selects RX7 yX7_cardsOf yX7_cardsOf, Cond.code yX7_cardsOf cX7_cardsOf 5 (some .long), Cond.fieldLink RX7 91 "TarockHallModel" "laid" "J", Cond.fieldLink RX7 95 "TarockHallModel" "rest" "J", Cond.fieldLink RX7 49 "TarockHallModel" "won" "[J", Cond.fieldLink RX7 98 "TarockHallModel" "isBegun" "Z", Cond.methodLink RX7 143 yX7_sideOf, Cond.instanceMethod yX7_sideOf, Cond.selects RX7 yX7_sideOf yX7_sideOf, Cond.code yX7_sideOf cX7_sideOf 2 (some .int), Cond.fieldLink RX7 31 "TarockHallModel" "declarer" "I", Cond.fieldLink RX7 37 "TarockHallModel" "partner" "I", Cond.methodLink RX7 124 yX7_has]
def wsX7_byPacks_r2 : List Cond := [Cond.static yX7_has, Cond.code yX7_has cX7_has 3 (some .boolean), Cond.methodLink RX7 134 yX7_worth, Cond.static yX7_worth, Cond.code yX7_worth cX7_worth 1 (some .int)]
def wsX7_byPacks : List Cond := .code yX7_byPacks cX7_byPacks 6 (some .int) :: ((wsX7_byPacks_r1 ++ wsX7_byPacks_r2) ++ wsX70)
def wsX7_score : List Cond := .code yX7_score cX7_score 2 (some .int) :: ([.fieldLink RX7 52 "TarockHallModel" "score" "[I", .methodLink RX7 180 yX7_isPlayer, .static yX7_isPlayer, .initialized RX7, .code yX7_isPlayer cX7_isPlayer 1 (some .boolean), .methodLink RX7 61 yX7_isIn, .static yX7_isIn, .code yX7_isIn cX7_isIn 3 (some .boolean), .methodLink RX7 66 yX7_isFine, .instanceMethod yX7_isFine, .selects RX7 yX7_isFine yX7_isFine, .code yX7_isFine cX7_isFine 2 (some .boolean), .fieldLink RX7 58 "TarockHallModel" "thrown" "I"] ++ wsX70)
def wsX7_radli : List Cond := .code yX7_radli cX7_radli 2 (some .int) :: ([.fieldLink RX7 55 "TarockHallModel" "radli" "[I", .methodLink RX7 180 yX7_isPlayer, .static yX7_isPlayer, .initialized RX7, .code yX7_isPlayer cX7_isPlayer 1 (some .boolean), .methodLink RX7 61 yX7_isIn, .static yX7_isIn, .code yX7_isIn cX7_isIn 3 (some .boolean), .methodLink RX7 66 yX7_isFine, .instanceMethod yX7_isFine, .selects RX7 yX7_isFine yX7_isFine, .code yX7_isFine cX7_isFine 2 (some .boolean), .fieldLink RX7 58 "TarockHallModel" "thrown" "I"] ++ wsX70)
def wsX7_result : List Cond := .code yX7_result cX7_result 1 (some .int) :: ([.fieldLink RX7 58 "TarockHallModel" "thrown" "I", .fieldLink RX7 161 "TarockHallModel" "result" "I"] ++ wsX70)
def wsX7_knows : List Cond := .code yX7_knows cX7_knows 4 (some .int) :: ([.fieldLink RX7 31 "TarockHallModel" "declarer" "I", .fieldLink RX7 9 "TarockHallModel" "phase" "I", .fieldLink RX7 84 "TarockHallModel" "level" "I", .fieldLink RX7 40 "TarockHallModel" "holder" "I", .fieldLink RX7 87 "TarockHallModel" "isOut" "Z", .methodLink RX7 180 yX7_isPlayer, .static yX7_isPlayer, .initialized RX7, .code yX7_isPlayer cX7_isPlayer 1 (some .boolean), .methodLink RX7 61 yX7_isIn, .static yX7_isIn, .code yX7_isIn cX7_isIn 3 (some .boolean), .methodLink RX7 66 yX7_isFine, .instanceMethod yX7_isFine, .selects RX7 yX7_isFine yX7_isFine, .code yX7_isFine cX7_isFine 2 (some .boolean), .fieldLink RX7 58 "TarockHallModel" "thrown" "I", .methodLink RX7 143 yX7_sideOf, .instanceMethod yX7_sideOf, .selects RX7 yX7_sideOf yX7_sideOf, .code yX7_sideOf cX7_sideOf 2 (some .int), .fieldLink RX7 37 "TarockHallModel" "partner" "I"] ++ wsX70)
def wsJ9_abs_0f7a4 : List Cond := .code yJ9_abs_0f7a4 cJ9_abs_0f7a4 1 (some .int) :: ([])
def wsJ9_max_7cf53 : List Cond := .code yJ9_max_7cf53 cJ9_max_7cf53 2 (some .int) :: ([])
def wsL_deal_r1 : List Cond := [Cond.classLink RL 13 "java/lang/IllegalArgumentException", Cond.classLink RL 15 "java/lang/IllegalStateException", Cond.methodLink RL 7 yX6_deal, Cond.instanceMethod yX6_deal, Cond.selects RX6 yX6_deal yX6_deal, Cond.initialized RX6, Cond.code yX6_deal cX6_deal 2 (some .int), Cond.classLink RX6 72 "java/lang/IllegalArgumentException", Cond.initialized "java/lang/IllegalArgumentException", Cond.classLink RX6 79 "java/lang/IllegalStateException", Cond.initialized "java/lang/IllegalStateException", Cond.constant RX6 71 (65536), Cond.fieldLink RX6 53 "TarockHall" "phase" "I", Cond.fieldLink RX6 49 "TarockHall" "forehand" "I", Cond.fieldLink RX6 12 "TarockHall" "deck" "LTarockHall$Deck;", Cond.fieldLink RX6 56 "TarockHall" "turn" "I", Cond.methodLink RX6 84 yX6_behind, Cond.static yX6_behind, Cond.code yX6_behind cX6_behind 1 (some .int), Cond.methodLink RX6 88 yX6_clearDeal, Cond.instanceMethod yX6_clearDeal, Cond.selects RX6 yX6_clearDeal yX6_clearDeal, Cond.code yX6_clearDeal cX6_clearDeal 1 none, Cond.fieldLink RX6 19 "TarockHall" "bidding" "LTarockHall$Bidding;"]
def wsL_deal_r2 : List Cond := [Cond.fieldLink RX6 26 "TarockHall" "trick" "LTarockHall$Trick;", Cond.fieldLink RX6 59 "TarockHall" "declarer" "I", Cond.fieldLink RX6 62 "TarockHall" "called" "I", Cond.fieldLink RX6 65 "TarockHall" "kingOwner" "I", Cond.fieldLink RX6 68 "TarockHall" "partner" "I", Cond.fieldLink RX6 168 "TarockHall" "toLayAway" "I", Cond.fieldLink RX6 191 "TarockHall" "laidAway" "J", Cond.fieldLink RX6 214 "TarockHall" "announced" "I", Cond.fieldLink RX6 199 "TarockHall" "tricks" "I", Cond.fieldLink RX6 46 "TarockHall" "piles" "LTarockHall$Sets;", Cond.methodLink RX6 288 yX0_clear, Cond.instanceMethod yX0_clear, Cond.selects RX0 yX0_clear yX0_clear, Cond.initialized RX0, Cond.code yX0_clear cX0_clear 1 none, Cond.fieldLink RX0 15 "TarockHall$Bidding" "passed" "I", Cond.fieldLink RX0 18 "TarockHall$Bidding" "highest" "I", Cond.fieldLink RX0 9 "TarockHall$Bidding" "bidder" "I", Cond.methodLink RX6 291 yX5_begin, Cond.instanceMethod yX5_begin, Cond.selects RX5 yX5_begin yX5_begin, Cond.initialized RX5, Cond.code yX5_begin cX5_begin 2 none, Cond.fieldLink RX5 20 "TarockHall$Trick" "leader" "I"]
def wsL_deal_r3 : List Cond := [Cond.fieldLink RX5 24 "TarockHall$Trick" "size" "I", Cond.methodLink RX6 158 yX3_put, Cond.instanceMethod yX3_put, Cond.selects RX3 yX3_put yX3_put, Cond.initialized RX3, Cond.code yX3_put cX3_put 4 none, Cond.fieldLink RX3 13 "TarockHall$Sets" "items" "[J", Cond.methodLink RX6 91 yX1_shuffle, Cond.instanceMethod yX1_shuffle, Cond.selects RX1 yX1_shuffle yX1_shuffle, Cond.initialized RX1, Cond.code yX1_shuffle cX1_shuffle 4 none, Cond.fieldLink RX1 14 "TarockHall$Deck" "row" "LTarockHall$Row;", Cond.constant RX1 24 (65536), Cond.methodLink RX1 20 yX2_put, Cond.instanceMethod yX2_put, Cond.selects RX2 yX2_put yX2_put, Cond.initialized RX2, Cond.code yX2_put cX2_put 3 none, Cond.fieldLink RX2 15 "TarockHall$Row" "items" "[I", Cond.methodLink RX1 25 yX1_swap, Cond.instanceMethod yX1_swap, Cond.selects RX1 yX1_swap yX1_swap, Cond.code yX1_swap cX1_swap 4 none]
def wsL_deal_r4 : List Cond := [Cond.methodLink RX1 28 yX2_at, Cond.instanceMethod yX2_at, Cond.selects RX2 yX2_at yX2_at, Cond.code yX2_at cX2_at 2 (some .int), Cond.methodLink RX6 94 yX6_handOut, Cond.instanceMethod yX6_handOut, Cond.selects RX6 yX6_handOut yX6_handOut, Cond.code yX6_handOut cX6_handOut 3 none, Cond.fieldLink RX6 42 "TarockHall" "hands" "LTarockHall$Sets;", Cond.fieldLink RX6 162 "TarockHall" "restOfTalon" "J", Cond.methodLink RX6 150 yX1_cardsFrom, Cond.instanceMethod yX1_cardsFrom, Cond.selects RX1 yX1_cardsFrom yX1_cardsFrom, Cond.code yX1_cardsFrom cX1_cardsFrom 6 (some .long), Cond.static yX6_only, Cond.code yX6_only cX6_only 1 (some .long)]
def wsL_deal : List Cond := .codeWith yL_deal cL_deal 4 (some .int) [(0, 9, 12, 13), (0, 9, 15, 15)] :: ((wsL_deal_r1 ++ (wsL_deal_r2 ++ (wsL_deal_r3 ++ wsL_deal_r4))) ++ wsX60 ++ wsX00 ++ wsX50 ++ wsX30 ++ wsX10 ++ wsX20 ++ (vx_atS RX6 76 "java/lang/IllegalArgumentException" ["java/lang/RuntimeException", "java/lang/Exception"]).filter goodWord ++ (vx_atS RX6 83 "java/lang/IllegalStateException" ["java/lang/RuntimeException", "java/lang/Exception"]).filter goodWord)
def wsL_bid_r1 : List Cond := [Cond.classLink RL 13 "java/lang/IllegalArgumentException", Cond.classLink RL 15 "java/lang/IllegalStateException", Cond.methodLink RL 17 yX6_bid, Cond.instanceMethod yX6_bid, Cond.selects RX6 yX6_bid yX6_bid, Cond.initialized RX6, Cond.code yX6_bid cX6_bid 2 (some .int), Cond.classLink RX6 72 "java/lang/IllegalArgumentException", Cond.initialized "java/lang/IllegalArgumentException", Cond.classLink RX6 79 "java/lang/IllegalStateException", Cond.initialized "java/lang/IllegalStateException", Cond.fieldLink RX6 53 "TarockHall" "phase" "I", Cond.fieldLink RX6 19 "TarockHall" "bidding" "LTarockHall$Bidding;", Cond.fieldLink RX6 56 "TarockHall" "turn" "I", Cond.methodLink RX6 106 yX0_enter, Cond.instanceMethod yX0_enter, Cond.selects RX0 yX0_enter yX0_enter, Cond.initialized RX0, Cond.code yX0_enter cX0_enter 3 none, Cond.fieldLink RX0 15 "TarockHall$Bidding" "passed" "I", Cond.fieldLink RX0 18 "TarockHall$Bidding" "highest" "I", Cond.fieldLink RX0 9 "TarockHall$Bidding" "bidder" "I", Cond.methodLink RX6 110 yX0_allPassed, Cond.instanceMethod yX0_allPassed]
def wsL_bid_r2 : List Cond := [Cond.selects RX0 yX0_allPassed yX0_allPassed, Cond.code yX0_allPassed cX0_allPassed 1 (some .boolean), Cond.methodLink RX0 21 yJ6_bitCount_0f7a4, Cond.static yJ6_bitCount_0f7a4, Cond.initialized RJ6, Cond.code yJ6_bitCount_0f7a4 cJ6_bitCount_0f7a4 1 (some .int), Cond.constant RJ6 265 (1431655765), Cond.constant RJ6 266 (858993459), Cond.constant RJ6 267 (252645135), Cond.methodLink RX6 114 yX6_endDeal, Cond.instanceMethod yX6_endDeal, Cond.selects RX6 yX6_endDeal yX6_endDeal, Cond.code yX6_endDeal cX6_endDeal 1 none, Cond.methodLink RX6 117 yX0_isSettled, Cond.instanceMethod yX0_isSettled, Cond.selects RX0 yX0_isSettled yX0_isSettled, Cond.code yX0_isSettled cX0_isSettled 1 (some .boolean), Cond.methodLink RX6 120 yX6_beginGame, Cond.instanceMethod yX6_beginGame, Cond.selects RX6 yX6_beginGame yX6_beginGame, Cond.code yX6_beginGame cX6_beginGame 1 none, Cond.fieldLink RX6 59 "TarockHall" "declarer" "I", Cond.methodLink RX6 194 yX6_beginPlay, Cond.instanceMethod yX6_beginPlay]
def wsL_bid_r3 : List Cond := [Cond.selects RX6 yX6_beginPlay yX6_beginPlay, Cond.code yX6_beginPlay cX6_beginPlay 1 none, Cond.fieldLink RX6 46 "TarockHall" "piles" "LTarockHall$Sets;", Cond.fieldLink RX6 191 "TarockHall" "laidAway" "J", Cond.fieldLink RX6 162 "TarockHall" "restOfTalon" "J", Cond.fieldLink RX6 49 "TarockHall" "forehand" "I", Cond.methodLink RX6 158 yX3_put, Cond.instanceMethod yX3_put, Cond.selects RX3 yX3_put yX3_put, Cond.initialized RX3, Cond.code yX3_put cX3_put 4 none, Cond.fieldLink RX3 13 "TarockHall$Sets" "items" "[J", Cond.methodLink RX6 123 yX0_nextBehind, Cond.instanceMethod yX0_nextBehind, Cond.selects RX0 yX0_nextBehind yX0_nextBehind, Cond.code yX0_nextBehind cX0_nextBehind 4 (some .int), Cond.static yX6_behind, Cond.code yX6_behind cX6_behind 1 (some .int), Cond.methodLink RX0 30 yX0_hasPassed, Cond.instanceMethod yX0_hasPassed, Cond.selects RX0 yX0_hasPassed yX0_hasPassed, Cond.code yX0_hasPassed cX0_hasPassed 2 (some .boolean)]
def wsL_bid : List Cond := .codeWith yL_bid cL_bid 4 (some .int) [(0, 9, 12, 13), (0, 9, 15, 15)] :: ((wsL_bid_r1 ++ (wsL_bid_r2 ++ wsL_bid_r3)) ++ wsX60 ++ wsX00 ++ wsX30 ++ (vx_atS RX6 76 "java/lang/IllegalArgumentException" ["java/lang/RuntimeException", "java/lang/Exception"]).filter goodWord ++ (vx_atS RX6 83 "java/lang/IllegalStateException" ["java/lang/RuntimeException", "java/lang/Exception"]).filter goodWord)
def wsL_call_r1 : List Cond := [Cond.classLink RL 23 "java/lang/IndexOutOfBoundsException", Cond.classLink RL 15 "java/lang/IllegalStateException", Cond.methodLink RL 20 yX6_call, Cond.instanceMethod yX6_call, Cond.selects RX6 yX6_call yX6_call, Cond.initialized RX6, Cond.code yX6_call cX6_call 2 (some .int), Cond.classLink RX6 126 "java/lang/IndexOutOfBoundsException", Cond.initialized "java/lang/IndexOutOfBoundsException", Cond.classLink RX6 79 "java/lang/IllegalStateException", Cond.initialized "java/lang/IllegalStateException", Cond.fieldLink RX6 53 "TarockHall" "phase" "I", Cond.fieldLink RX6 62 "TarockHall" "called" "I", Cond.fieldLink RX6 65 "TarockHall" "kingOwner" "I", Cond.fieldLink RX6 59 "TarockHall" "declarer" "I", Cond.fieldLink RX6 68 "TarockHall" "partner" "I", Cond.methodLink RX6 133 yX6_calledKing, Cond.instanceMethod yX6_calledKing, Cond.selects RX6 yX6_calledKing yX6_calledKing, Cond.code yX6_calledKing cX6_calledKing 1 (some .int), Cond.methodLink RX6 137 yX6_ownerOf, Cond.instanceMethod yX6_ownerOf, Cond.selects RX6 yX6_ownerOf yX6_ownerOf, Cond.code yX6_ownerOf cX6_ownerOf 3 (some .int)]
def wsL_call_r2 : List Cond := [Cond.fieldLink RX6 42 "TarockHall" "hands" "LTarockHall$Sets;", Cond.methodLink RX6 154 yX3_at, Cond.instanceMethod yX3_at, Cond.selects RX3 yX3_at yX3_at, Cond.initialized RX3, Cond.code yX3_at cX3_at 2 (some .long), Cond.fieldLink RX3 13 "TarockHall$Sets" "items" "[J", Cond.methodLink RX6 179 yX6_holds, Cond.static yX6_holds, Cond.code yX6_holds cX6_holds 3 (some .boolean)]
def wsL_call : List Cond := .codeWith yL_call cL_call 4 (some .int) [(0, 9, 12, 23), (0, 9, 15, 15)] :: ((wsL_call_r1 ++ wsL_call_r2) ++ wsX60 ++ wsX30 ++ (vx_atS RX6 130 "java/lang/IndexOutOfBoundsException" ["java/lang/RuntimeException", "java/lang/Exception"]).filter goodWord ++ (vx_atS RX6 83 "java/lang/IllegalStateException" ["java/lang/RuntimeException", "java/lang/Exception"]).filter goodWord)
def wsL_take_r1 : List Cond := [Cond.classLink RL 23 "java/lang/IndexOutOfBoundsException", Cond.classLink RL 15 "java/lang/IllegalStateException", Cond.methodLink RL 25 yX6_take, Cond.instanceMethod yX6_take, Cond.selects RX6 yX6_take yX6_take, Cond.initialized RX6, Cond.code yX6_take cX6_take 5 (some .int), Cond.classLink RX6 126 "java/lang/IndexOutOfBoundsException", Cond.initialized "java/lang/IndexOutOfBoundsException", Cond.classLink RX6 79 "java/lang/IllegalStateException", Cond.initialized "java/lang/IllegalStateException", Cond.fieldLink RX6 53 "TarockHall" "phase" "I", Cond.fieldLink RX6 19 "TarockHall" "bidding" "LTarockHall$Bidding;", Cond.fieldLink RX6 12 "TarockHall" "deck" "LTarockHall$Deck;", Cond.fieldLink RX6 42 "TarockHall" "hands" "LTarockHall$Sets;", Cond.fieldLink RX6 59 "TarockHall" "declarer" "I", Cond.fieldLink RX6 162 "TarockHall" "restOfTalon" "J", Cond.constantLong RX6 166 (-1), Cond.fieldLink RX6 168 "TarockHall" "toLayAway" "I", Cond.methodLink RX6 140 yX6_groupsNow, Cond.instanceMethod yX6_groupsNow, Cond.selects RX6 yX6_groupsNow yX6_groupsNow, Cond.code yX6_groupsNow cX6_groupsNow 1 (some .int), Cond.methodLink RX6 334 yX6_groupsAt]
def wsL_take_r2 : List Cond := [Cond.static yX6_groupsAt, Cond.code yX6_groupsAt cX6_groupsAt 1 (some .int), Cond.methodLink RX6 147 yX6_groupSize, Cond.static yX6_groupSize, Cond.code yX6_groupSize cX6_groupSize 1 (some .int), Cond.methodLink RX6 150 yX1_cardsFrom, Cond.instanceMethod yX1_cardsFrom, Cond.selects RX1 yX1_cardsFrom yX1_cardsFrom, Cond.initialized RX1, Cond.code yX1_cardsFrom cX1_cardsFrom 6 (some .long), Cond.fieldLink RX1 14 "TarockHall$Deck" "row" "LTarockHall$Row;", Cond.methodLink RX1 28 yX2_at, Cond.instanceMethod yX2_at, Cond.selects RX2 yX2_at yX2_at, Cond.initialized RX2, Cond.code yX2_at cX2_at 2 (some .int), Cond.fieldLink RX2 15 "TarockHall$Row" "items" "[I", Cond.static yX6_only, Cond.code yX6_only cX6_only 1 (some .long), Cond.methodLink RX6 154 yX3_at, Cond.instanceMethod yX3_at, Cond.selects RX3 yX3_at yX3_at, Cond.initialized RX3, Cond.code yX3_at cX3_at 2 (some .long)]
def wsL_take_r3 : List Cond := [Cond.fieldLink RX3 13 "TarockHall$Sets" "items" "[J", Cond.methodLink RX6 158 yX3_put, Cond.instanceMethod yX3_put, Cond.selects RX3 yX3_put yX3_put, Cond.code yX3_put cX3_put 4 none]
def wsL_take : List Cond := .codeWith yL_take cL_take 4 (some .int) [(0, 9, 12, 23), (0, 9, 15, 15)] :: ((wsL_take_r1 ++ (wsL_take_r2 ++ wsL_take_r3)) ++ wsX60 ++ wsX00 ++ wsX10 ++ wsX20 ++ wsX30 ++ (vx_atS RX6 130 "java/lang/IndexOutOfBoundsException" ["java/lang/RuntimeException", "java/lang/Exception"]).filter goodWord ++ (vx_atS RX6 83 "java/lang/IllegalStateException" ["java/lang/RuntimeException", "java/lang/Exception"]).filter goodWord)
def wsL_discard_r1 : List Cond := [Cond.classLink RL 23 "java/lang/IndexOutOfBoundsException", Cond.classLink RL 15 "java/lang/IllegalStateException", Cond.methodLink RL 28 yX6_discard, Cond.instanceMethod yX6_discard, Cond.selects RX6 yX6_discard yX6_discard, Cond.initialized RX6, Cond.code yX6_discard cX6_discard 4 (some .int), Cond.classLink RX6 126 "java/lang/IndexOutOfBoundsException", Cond.initialized "java/lang/IndexOutOfBoundsException", Cond.classLink RX6 79 "java/lang/IllegalStateException", Cond.initialized "java/lang/IllegalStateException", Cond.fieldLink RX6 53 "TarockHall" "phase" "I", Cond.fieldLink RX6 42 "TarockHall" "hands" "LTarockHall$Sets;", Cond.fieldLink RX6 59 "TarockHall" "declarer" "I", Cond.constantLong RX6 166 (-1), Cond.fieldLink RX6 191 "TarockHall" "laidAway" "J", Cond.fieldLink RX6 168 "TarockHall" "toLayAway" "I", Cond.methodLink RX6 171 yX6_isCard, Cond.static yX6_isCard, Cond.code yX6_isCard cX6_isCard 1 (some .boolean), Cond.methodLink RX6 154 yX3_at, Cond.instanceMethod yX3_at, Cond.selects RX3 yX3_at yX3_at, Cond.initialized RX3]
def wsL_discard_r2 : List Cond := [Cond.code yX3_at cX3_at 2 (some .long), Cond.fieldLink RX3 13 "TarockHall$Sets" "items" "[J", Cond.methodLink RX6 179 yX6_holds, Cond.static yX6_holds, Cond.code yX6_holds cX6_holds 3 (some .boolean), Cond.methodLink RX6 183 yX6_canBeLaidAway, Cond.static yX6_canBeLaidAway, Cond.code yX6_canBeLaidAway cX6_canBeLaidAway 1 (some .boolean), Cond.methodLink RX6 254 yX6_worth, Cond.static yX6_worth, Cond.code yX6_worth cX6_worth 2 (some .int), Cond.methodLink RX6 344 yX6_suitOf, Cond.static yX6_suitOf, Cond.code yX6_suitOf cX6_suitOf 1 (some .int), Cond.methodLink RX6 188 yX6_only, Cond.static yX6_only, Cond.code yX6_only cX6_only 1 (some .long), Cond.methodLink RX6 158 yX3_put, Cond.instanceMethod yX3_put, Cond.selects RX3 yX3_put yX3_put, Cond.code yX3_put cX3_put 4 none, Cond.methodLink RX6 194 yX6_beginPlay, Cond.instanceMethod yX6_beginPlay, Cond.selects RX6 yX6_beginPlay yX6_beginPlay]
def wsL_discard_r3 : List Cond := [Cond.code yX6_beginPlay cX6_beginPlay 1 none, Cond.fieldLink RX6 46 "TarockHall" "piles" "LTarockHall$Sets;", Cond.fieldLink RX6 162 "TarockHall" "restOfTalon" "J", Cond.fieldLink RX6 49 "TarockHall" "forehand" "I", Cond.fieldLink RX6 56 "TarockHall" "turn" "I"]
def wsL_discard : List Cond := .codeWith yL_discard cL_discard 4 (some .int) [(0, 9, 12, 23), (0, 9, 15, 15)] :: ((wsL_discard_r1 ++ (wsL_discard_r2 ++ wsL_discard_r3)) ++ wsX60 ++ wsX30 ++ (vx_atS RX6 130 "java/lang/IndexOutOfBoundsException" ["java/lang/RuntimeException", "java/lang/Exception"]).filter goodWord ++ (vx_atS RX6 83 "java/lang/IllegalStateException" ["java/lang/RuntimeException", "java/lang/Exception"]).filter goodWord)
def wsL_announce_r1 : List Cond := [Cond.classLink RL 23 "java/lang/IndexOutOfBoundsException", Cond.classLink RL 15 "java/lang/IllegalStateException", Cond.methodLink RL 31 yX6_announce, Cond.instanceMethod yX6_announce, Cond.selects RX6 yX6_announce yX6_announce, Cond.initialized RX6, Cond.code yX6_announce cX6_announce 2 (some .int), Cond.classLink RX6 126 "java/lang/IndexOutOfBoundsException", Cond.initialized "java/lang/IndexOutOfBoundsException", Cond.classLink RX6 79 "java/lang/IllegalStateException", Cond.initialized "java/lang/IllegalStateException", Cond.fieldLink RX6 53 "TarockHall" "phase" "I", Cond.fieldLink RX6 199 "TarockHall" "tricks" "I", Cond.fieldLink RX6 26 "TarockHall" "trick" "LTarockHall$Trick;", Cond.fieldLink RX6 19 "TarockHall" "bidding" "LTarockHall$Bidding;", Cond.fieldLink RX6 214 "TarockHall" "announced" "I", Cond.methodLink RX6 207 yX6_isAnnounced, Cond.instanceMethod yX6_isAnnounced, Cond.selects RX6 yX6_isAnnounced yX6_isAnnounced, Cond.code yX6_isAnnounced cX6_isAnnounced 2 (some .boolean), Cond.methodLink RX6 217 yJ6_bitCount_0f7a4, Cond.static yJ6_bitCount_0f7a4, Cond.initialized RJ6, Cond.code yJ6_bitCount_0f7a4 cJ6_bitCount_0f7a4 1 (some .int)]
def wsL_announce_r2 : List Cond := [Cond.constant RJ6 265 (1431655765), Cond.constant RJ6 266 (858993459), Cond.constant RJ6 267 (252645135)]
def wsL_announce : List Cond := .codeWith yL_announce cL_announce 4 (some .int) [(0, 9, 12, 23), (0, 9, 15, 15)] :: ((wsL_announce_r1 ++ wsL_announce_r2) ++ wsX60 ++ wsX50 ++ wsX00 ++ (vx_atS RX6 130 "java/lang/IndexOutOfBoundsException" ["java/lang/RuntimeException", "java/lang/Exception"]).filter goodWord ++ (vx_atS RX6 83 "java/lang/IllegalStateException" ["java/lang/RuntimeException", "java/lang/Exception"]).filter goodWord)
def wsL_play_r1 : List Cond := [Cond.classLink RL 23 "java/lang/IndexOutOfBoundsException", Cond.classLink RL 15 "java/lang/IllegalStateException", Cond.methodLink RL 34 yX6_play, Cond.instanceMethod yX6_play, Cond.selects RX6 yX6_play yX6_play, Cond.initialized RX6, Cond.code yX6_play cX6_play 2 (some .int), Cond.classLink RX6 126 "java/lang/IndexOutOfBoundsException", Cond.initialized "java/lang/IndexOutOfBoundsException", Cond.classLink RX6 79 "java/lang/IllegalStateException", Cond.initialized "java/lang/IllegalStateException", Cond.methodLink RX6 171 yX6_isCard, Cond.static yX6_isCard, Cond.code yX6_isCard cX6_isCard 1 (some .boolean), Cond.methodLink RX6 222 yX6_playableNow, Cond.instanceMethod yX6_playableNow, Cond.selects RX6 yX6_playableNow yX6_playableNow, Cond.code yX6_playableNow cX6_playableNow 1 (some .long), Cond.fieldLink RX6 53 "TarockHall" "phase" "I", Cond.fieldLink RX6 42 "TarockHall" "hands" "LTarockHall$Sets;", Cond.fieldLink RX6 56 "TarockHall" "turn" "I", Cond.fieldLink RX6 26 "TarockHall" "trick" "LTarockHall$Trick;", Cond.methodLink RX6 154 yX3_at, Cond.instanceMethod yX3_at]
def wsL_play_r2 : List Cond := [Cond.selects RX3 yX3_at yX3_at, Cond.initialized RX3, Cond.code yX3_at cX3_at 2 (some .long), Cond.fieldLink RX3 13 "TarockHall$Sets" "items" "[J", Cond.methodLink RX6 337 yX5_ledSuit, Cond.instanceMethod yX5_ledSuit, Cond.selects RX5 yX5_ledSuit yX5_ledSuit, Cond.initialized RX5, Cond.code yX5_ledSuit cX5_ledSuit 1 (some .int), Cond.fieldLink RX5 24 "TarockHall$Trick" "size" "I", Cond.fieldLink RX5 14 "TarockHall$Trick" "cards" "LTarockHall$Row;", Cond.methodLink RX5 31 yX2_at, Cond.instanceMethod yX2_at, Cond.selects RX2 yX2_at yX2_at, Cond.initialized RX2, Cond.code yX2_at cX2_at 2 (some .int), Cond.fieldLink RX2 15 "TarockHall$Row" "items" "[I", Cond.static yX6_suitOf, Cond.code yX6_suitOf cX6_suitOf 1 (some .int), Cond.methodLink RX6 340 yX6_playableOf, Cond.static yX6_playableOf, Cond.code yX6_playableOf cX6_playableOf 7 (some .long), Cond.methodLink RX6 359 yX6_cardsOfSuit, Cond.static yX6_cardsOfSuit]
def wsL_play_r3 : List Cond := [Cond.code yX6_cardsOfSuit cX6_cardsOfSuit 5 (some .long), Cond.constantLong RX6 355 (-4294967296), Cond.constantLong RX6 357 (255), Cond.methodLink RX6 179 yX6_holds, Cond.static yX6_holds, Cond.code yX6_holds cX6_holds 3 (some .boolean), Cond.methodLink RX6 228 yX6_addToTrick, Cond.instanceMethod yX6_addToTrick, Cond.selects RX6 yX6_addToTrick yX6_addToTrick, Cond.code yX6_addToTrick cX6_addToTrick 3 (some .int), Cond.constantLong RX6 166 (-1), Cond.methodLink RX6 188 yX6_only, Cond.static yX6_only, Cond.code yX6_only cX6_only 1 (some .long), Cond.methodLink RX6 158 yX3_put, Cond.instanceMethod yX3_put, Cond.selects RX3 yX3_put yX3_put, Cond.code yX3_put cX3_put 4 none, Cond.methodLink RX6 297 yX5_add, Cond.instanceMethod yX5_add, Cond.selects RX5 yX5_add yX5_add, Cond.code yX5_add cX5_add 2 none, Cond.methodLink RX5 27 yX2_put, Cond.instanceMethod yX2_put]
def wsL_play_r4 : List Cond := [Cond.selects RX2 yX2_put yX2_put, Cond.code yX2_put cX2_put 3 none, Cond.methodLink RX6 84 yX6_behind, Cond.static yX6_behind, Cond.code yX6_behind cX6_behind 1 (some .int), Cond.methodLink RX6 300 yX5_winner, Cond.instanceMethod yX5_winner, Cond.selects RX5 yX5_winner yX5_winner, Cond.code yX5_winner cX5_winner 3 (some .int), Cond.methodLink RX5 45 yX5_beats, Cond.static yX5_beats, Cond.code yX5_beats cX5_beats 3 (some .boolean), Cond.methodLink RX5 42 yX5_playerAt, Cond.instanceMethod yX5_playerAt, Cond.selects RX5 yX5_playerAt yX5_playerAt, Cond.code yX5_playerAt cX5_playerAt 2 (some .int), Cond.fieldLink RX5 20 "TarockHall$Trick" "leader" "I", Cond.methodLink RX6 303 yX6_endTrick, Cond.instanceMethod yX6_endTrick, Cond.selects RX6 yX6_endTrick yX6_endTrick, Cond.code yX6_endTrick cX6_endTrick 3 none, Cond.fieldLink RX6 46 "TarockHall" "piles" "LTarockHall$Sets;", Cond.fieldLink RX6 199 "TarockHall" "tricks" "I", Cond.methodLink RX6 285 yX6_sideOf]
def wsL_play_r5 : List Cond := [Cond.instanceMethod yX6_sideOf, Cond.selects RX6 yX6_sideOf yX6_sideOf, Cond.code yX6_sideOf cX6_sideOf 2 (some .int), Cond.fieldLink RX6 59 "TarockHall" "declarer" "I", Cond.fieldLink RX6 68 "TarockHall" "partner" "I", Cond.methodLink RX6 306 yX5_cardSet, Cond.instanceMethod yX5_cardSet, Cond.selects RX5 yX5_cardSet yX5_cardSet, Cond.code yX5_cardSet cX5_cardSet 4 (some .long), Cond.methodLink RX6 309 yX6_enterResult, Cond.instanceMethod yX6_enterResult, Cond.selects RX6 yX6_enterResult yX6_enterResult, Cond.code yX6_enterResult cX6_enterResult 5 none, Cond.fieldLink RX6 19 "TarockHall" "bidding" "LTarockHall$Bidding;", Cond.fieldLink RX6 33 "TarockHall" "sheet" "LTarockHall$Sheet;", Cond.methodLink RX6 262 yX6_thirdsOf, Cond.static yX6_thirdsOf, Cond.code yX6_thirdsOf cX6_thirdsOf 4 (some .int), Cond.methodLink RX6 254 yX6_worth, Cond.static yX6_worth, Cond.code yX6_worth cX6_worth 2 (some .int), Cond.methodLink RX6 344 yX6_suitOf, Cond.methodLink RX6 312 yX6_gamePoints, Cond.static yX6_gamePoints]
def wsL_play_r6 : List Cond := [Cond.code yX6_gamePoints cX6_gamePoints 3 (some .int), Cond.methodLink RX6 350 Lib.Math.abs.name, Cond.static Lib.Math.abs.name, Cond.initialized "java/lang/Math", Cond.code Lib.Math.abs.name Lib.Math.abs.code 1 (some .int), Cond.methodLink RX6 347 yX6_basePoints, Cond.static yX6_basePoints, Cond.code yX6_basePoints cX6_basePoints 1 (some .int), Cond.methodLink RX6 322 yX6_isWon, Cond.static yX6_isWon, Cond.code yX6_isWon cX6_isWon 1 (some .boolean), Cond.methodLink RX6 316 yX6_pagatPoints, Cond.instanceMethod yX6_pagatPoints, Cond.selects RX6 yX6_pagatPoints yX6_pagatPoints, Cond.code yX6_pagatPoints cX6_pagatPoints 5 (some .int), Cond.methodLink RX6 331 yX5_playerOf, Cond.instanceMethod yX5_playerOf, Cond.selects RX5 yX5_playerOf yX5_playerOf, Cond.code yX5_playerOf cX5_playerOf 3 (some .int), Cond.methodLink RX6 207 yX6_isAnnounced, Cond.instanceMethod yX6_isAnnounced, Cond.selects RX6 yX6_isAnnounced yX6_isAnnounced, Cond.code yX6_isAnnounced cX6_isAnnounced 2 (some .boolean), Cond.fieldLink RX6 214 "TarockHall" "announced" "I"]
def wsL_play_r7 : List Cond := [Cond.methodLink RX6 319 yX6_kingPoints, Cond.instanceMethod yX6_kingPoints, Cond.selects RX6 yX6_kingPoints yX6_kingPoints, Cond.code yX6_kingPoints cX6_kingPoints 4 (some .int), Cond.fieldLink RX6 62 "TarockHall" "called" "I", Cond.methodLink RX6 133 yX6_calledKing, Cond.instanceMethod yX6_calledKing, Cond.selects RX6 yX6_calledKing yX6_calledKing, Cond.code yX6_calledKing cX6_calledKing 1 (some .int), Cond.methodLink RX6 325 yX4_enter, Cond.instanceMethod yX4_enter, Cond.selects RX4 yX4_enter yX4_enter, Cond.initialized RX4, Cond.code yX4_enter cX4_enter 6 none, Cond.fieldLink RX4 20 "TarockHall$Sheet" "radli" "LTarockHall$Row;", Cond.fieldLink RX4 27 "TarockHall$Sheet" "latest" "I", Cond.methodLink RX4 23 yX2_at, Cond.methodLink RX4 31 yX2_put, Cond.methodLink RX4 35 yX4_addScore, Cond.instanceMethod yX4_addScore, Cond.selects RX4 yX4_addScore yX4_addScore, Cond.code yX4_addScore cX4_addScore 2 none, Cond.fieldLink RX4 14 "TarockHall$Sheet" "scores" "LTarockHall$Row;", Cond.methodLink RX6 328 yX4_giveRadli]
def wsL_play_r8 : List Cond := [Cond.instanceMethod yX4_giveRadli, Cond.selects RX4 yX4_giveRadli yX4_giveRadli, Cond.code yX4_giveRadli cX4_giveRadli 2 none, Cond.methodLink RX6 114 yX6_endDeal, Cond.instanceMethod yX6_endDeal, Cond.selects RX6 yX6_endDeal yX6_endDeal, Cond.code yX6_endDeal cX6_endDeal 1 none, Cond.methodLink RX6 291 yX5_begin, Cond.instanceMethod yX5_begin, Cond.selects RX5 yX5_begin yX5_begin, Cond.code yX5_begin cX5_begin 2 none]
def wsL_play : List Cond := .codeWith yL_play cL_play 4 (some .int) [(0, 9, 12, 23), (0, 9, 15, 15)] :: ((wsL_play_r1 ++ (wsL_play_r2 ++ (wsL_play_r3 ++ (wsL_play_r4 ++ (wsL_play_r5 ++ (wsL_play_r6 ++ (wsL_play_r7 ++ wsL_play_r8))))))) ++ wsX60 ++ wsX30 ++ wsX50 ++ wsX20 ++ wsX00 ++ wsX40 ++ (vx_atS RX6 130 "java/lang/IndexOutOfBoundsException" ["java/lang/RuntimeException", "java/lang/Exception"]).filter goodWord ++ (vx_atS RX6 83 "java/lang/IllegalStateException" ["java/lang/RuntimeException", "java/lang/Exception"]).filter goodWord)
def wsL_playLowest_r1 : List Cond := [Cond.classLink RL 13 "java/lang/IllegalArgumentException", Cond.classLink RL 15 "java/lang/IllegalStateException", Cond.methodLink RL 37 yX6_playLowest, Cond.instanceMethod yX6_playLowest, Cond.selects RX6 yX6_playLowest yX6_playLowest, Cond.initialized RX6, Cond.code yX6_playLowest cX6_playLowest 4 (some .int), Cond.classLink RX6 72 "java/lang/IllegalArgumentException", Cond.initialized "java/lang/IllegalArgumentException", Cond.classLink RX6 79 "java/lang/IllegalStateException", Cond.initialized "java/lang/IllegalStateException", Cond.fieldLink RX6 53 "TarockHall" "phase" "I", Cond.methodLink RX6 222 yX6_playableNow, Cond.instanceMethod yX6_playableNow, Cond.selects RX6 yX6_playableNow yX6_playableNow, Cond.code yX6_playableNow cX6_playableNow 1 (some .long), Cond.fieldLink RX6 42 "TarockHall" "hands" "LTarockHall$Sets;", Cond.fieldLink RX6 56 "TarockHall" "turn" "I", Cond.fieldLink RX6 26 "TarockHall" "trick" "LTarockHall$Trick;", Cond.methodLink RX6 154 yX3_at, Cond.instanceMethod yX3_at, Cond.selects RX3 yX3_at yX3_at, Cond.initialized RX3, Cond.code yX3_at cX3_at 2 (some .long)]
def wsL_playLowest_r2 : List Cond := [Cond.fieldLink RX3 13 "TarockHall$Sets" "items" "[J", Cond.methodLink RX6 337 yX5_ledSuit, Cond.instanceMethod yX5_ledSuit, Cond.selects RX5 yX5_ledSuit yX5_ledSuit, Cond.initialized RX5, Cond.code yX5_ledSuit cX5_ledSuit 1 (some .int), Cond.fieldLink RX5 24 "TarockHall$Trick" "size" "I", Cond.fieldLink RX5 14 "TarockHall$Trick" "cards" "LTarockHall$Row;", Cond.methodLink RX5 31 yX2_at, Cond.instanceMethod yX2_at, Cond.selects RX2 yX2_at yX2_at, Cond.initialized RX2, Cond.code yX2_at cX2_at 2 (some .int), Cond.fieldLink RX2 15 "TarockHall$Row" "items" "[I", Cond.static yX6_suitOf, Cond.code yX6_suitOf cX6_suitOf 1 (some .int), Cond.methodLink RX6 340 yX6_playableOf, Cond.static yX6_playableOf, Cond.code yX6_playableOf cX6_playableOf 7 (some .long), Cond.methodLink RX6 359 yX6_cardsOfSuit, Cond.static yX6_cardsOfSuit, Cond.code yX6_cardsOfSuit cX6_cardsOfSuit 5 (some .long), Cond.constantLong RX6 355 (-4294967296), Cond.constantLong RX6 357 (255)]
def wsL_playLowest_r3 : List Cond := [Cond.methodLink RX6 235 yX6_lowestOf, Cond.static yX6_lowestOf, Cond.code yX6_lowestOf cX6_lowestOf 3 (some .int), Cond.methodLink RX6 179 yX6_holds, Cond.static yX6_holds, Cond.code yX6_holds cX6_holds 3 (some .boolean), Cond.methodLink RX6 228 yX6_addToTrick, Cond.instanceMethod yX6_addToTrick, Cond.selects RX6 yX6_addToTrick yX6_addToTrick, Cond.code yX6_addToTrick cX6_addToTrick 3 (some .int), Cond.constantLong RX6 166 (-1), Cond.methodLink RX6 188 yX6_only, Cond.static yX6_only, Cond.code yX6_only cX6_only 1 (some .long), Cond.methodLink RX6 158 yX3_put, Cond.instanceMethod yX3_put, Cond.selects RX3 yX3_put yX3_put, Cond.code yX3_put cX3_put 4 none, Cond.methodLink RX6 297 yX5_add, Cond.instanceMethod yX5_add, Cond.selects RX5 yX5_add yX5_add, Cond.code yX5_add cX5_add 2 none, Cond.methodLink RX5 27 yX2_put, Cond.instanceMethod yX2_put]
def wsL_playLowest_r4 : List Cond := [Cond.selects RX2 yX2_put yX2_put, Cond.code yX2_put cX2_put 3 none, Cond.methodLink RX6 84 yX6_behind, Cond.static yX6_behind, Cond.code yX6_behind cX6_behind 1 (some .int), Cond.methodLink RX6 300 yX5_winner, Cond.instanceMethod yX5_winner, Cond.selects RX5 yX5_winner yX5_winner, Cond.code yX5_winner cX5_winner 3 (some .int), Cond.methodLink RX5 45 yX5_beats, Cond.static yX5_beats, Cond.code yX5_beats cX5_beats 3 (some .boolean), Cond.methodLink RX5 42 yX5_playerAt, Cond.instanceMethod yX5_playerAt, Cond.selects RX5 yX5_playerAt yX5_playerAt, Cond.code yX5_playerAt cX5_playerAt 2 (some .int), Cond.fieldLink RX5 20 "TarockHall$Trick" "leader" "I", Cond.methodLink RX6 303 yX6_endTrick, Cond.instanceMethod yX6_endTrick, Cond.selects RX6 yX6_endTrick yX6_endTrick, Cond.code yX6_endTrick cX6_endTrick 3 none, Cond.fieldLink RX6 46 "TarockHall" "piles" "LTarockHall$Sets;", Cond.fieldLink RX6 199 "TarockHall" "tricks" "I", Cond.methodLink RX6 285 yX6_sideOf]
def wsL_playLowest_r5 : List Cond := [Cond.instanceMethod yX6_sideOf, Cond.selects RX6 yX6_sideOf yX6_sideOf, Cond.code yX6_sideOf cX6_sideOf 2 (some .int), Cond.fieldLink RX6 59 "TarockHall" "declarer" "I", Cond.fieldLink RX6 68 "TarockHall" "partner" "I", Cond.methodLink RX6 306 yX5_cardSet, Cond.instanceMethod yX5_cardSet, Cond.selects RX5 yX5_cardSet yX5_cardSet, Cond.code yX5_cardSet cX5_cardSet 4 (some .long), Cond.methodLink RX6 309 yX6_enterResult, Cond.instanceMethod yX6_enterResult, Cond.selects RX6 yX6_enterResult yX6_enterResult, Cond.code yX6_enterResult cX6_enterResult 5 none, Cond.fieldLink RX6 19 "TarockHall" "bidding" "LTarockHall$Bidding;", Cond.fieldLink RX6 33 "TarockHall" "sheet" "LTarockHall$Sheet;", Cond.methodLink RX6 262 yX6_thirdsOf, Cond.static yX6_thirdsOf, Cond.code yX6_thirdsOf cX6_thirdsOf 4 (some .int), Cond.methodLink RX6 254 yX6_worth, Cond.static yX6_worth, Cond.code yX6_worth cX6_worth 2 (some .int), Cond.methodLink RX6 344 yX6_suitOf, Cond.methodLink RX6 312 yX6_gamePoints, Cond.static yX6_gamePoints]
def wsL_playLowest_r6 : List Cond := [Cond.code yX6_gamePoints cX6_gamePoints 3 (some .int), Cond.methodLink RX6 350 Lib.Math.abs.name, Cond.static Lib.Math.abs.name, Cond.initialized "java/lang/Math", Cond.code Lib.Math.abs.name Lib.Math.abs.code 1 (some .int), Cond.methodLink RX6 347 yX6_basePoints, Cond.static yX6_basePoints, Cond.code yX6_basePoints cX6_basePoints 1 (some .int), Cond.methodLink RX6 322 yX6_isWon, Cond.static yX6_isWon, Cond.code yX6_isWon cX6_isWon 1 (some .boolean), Cond.methodLink RX6 316 yX6_pagatPoints, Cond.instanceMethod yX6_pagatPoints, Cond.selects RX6 yX6_pagatPoints yX6_pagatPoints, Cond.code yX6_pagatPoints cX6_pagatPoints 5 (some .int), Cond.methodLink RX6 331 yX5_playerOf, Cond.instanceMethod yX5_playerOf, Cond.selects RX5 yX5_playerOf yX5_playerOf, Cond.code yX5_playerOf cX5_playerOf 3 (some .int), Cond.methodLink RX6 207 yX6_isAnnounced, Cond.instanceMethod yX6_isAnnounced, Cond.selects RX6 yX6_isAnnounced yX6_isAnnounced, Cond.code yX6_isAnnounced cX6_isAnnounced 2 (some .boolean), Cond.fieldLink RX6 214 "TarockHall" "announced" "I"]
def wsL_playLowest_r7 : List Cond := [Cond.methodLink RX6 319 yX6_kingPoints, Cond.instanceMethod yX6_kingPoints, Cond.selects RX6 yX6_kingPoints yX6_kingPoints, Cond.code yX6_kingPoints cX6_kingPoints 4 (some .int), Cond.fieldLink RX6 62 "TarockHall" "called" "I", Cond.methodLink RX6 133 yX6_calledKing, Cond.instanceMethod yX6_calledKing, Cond.selects RX6 yX6_calledKing yX6_calledKing, Cond.code yX6_calledKing cX6_calledKing 1 (some .int), Cond.methodLink RX6 325 yX4_enter, Cond.instanceMethod yX4_enter, Cond.selects RX4 yX4_enter yX4_enter, Cond.initialized RX4, Cond.code yX4_enter cX4_enter 6 none, Cond.fieldLink RX4 20 "TarockHall$Sheet" "radli" "LTarockHall$Row;", Cond.fieldLink RX4 27 "TarockHall$Sheet" "latest" "I", Cond.methodLink RX4 23 yX2_at, Cond.methodLink RX4 31 yX2_put, Cond.methodLink RX4 35 yX4_addScore, Cond.instanceMethod yX4_addScore, Cond.selects RX4 yX4_addScore yX4_addScore, Cond.code yX4_addScore cX4_addScore 2 none, Cond.fieldLink RX4 14 "TarockHall$Sheet" "scores" "LTarockHall$Row;", Cond.methodLink RX6 328 yX4_giveRadli]
def wsL_playLowest_r8 : List Cond := [Cond.instanceMethod yX4_giveRadli, Cond.selects RX4 yX4_giveRadli yX4_giveRadli, Cond.code yX4_giveRadli cX4_giveRadli 2 none, Cond.methodLink RX6 114 yX6_endDeal, Cond.instanceMethod yX6_endDeal, Cond.selects RX6 yX6_endDeal yX6_endDeal, Cond.code yX6_endDeal cX6_endDeal 1 none, Cond.methodLink RX6 291 yX5_begin, Cond.instanceMethod yX5_begin, Cond.selects RX5 yX5_begin yX5_begin, Cond.code yX5_begin cX5_begin 2 none]
def wsL_playLowest : List Cond := .codeWith yL_playLowest cL_playLowest 4 (some .int) [(0, 9, 12, 13), (0, 9, 15, 15)] :: ((wsL_playLowest_r1 ++ (wsL_playLowest_r2 ++ (wsL_playLowest_r3 ++ (wsL_playLowest_r4 ++ (wsL_playLowest_r5 ++ (wsL_playLowest_r6 ++ (wsL_playLowest_r7 ++ wsL_playLowest_r8))))))) ++ wsX60 ++ wsX30 ++ wsX50 ++ wsX20 ++ wsX00 ++ wsX40 ++ (vx_atS RX6 76 "java/lang/IllegalArgumentException" ["java/lang/RuntimeException", "java/lang/Exception"]).filter goodWord ++ (vx_atS RX6 83 "java/lang/IllegalStateException" ["java/lang/RuntimeException", "java/lang/Exception"]).filter goodWord)
def wsL_hand : List Cond := .codeWith yL_hand cL_hand 4 (some .int) [(0, 8, 11, 23)] :: ([.classLink RL 23 "java/lang/IndexOutOfBoundsException", .methodLink RL 40 yX6_hand, .instanceMethod yX6_hand, .selects RX6 yX6_hand yX6_hand, .initialized RX6, .code yX6_hand cX6_hand 2 (some .long), .classLink RX6 126 "java/lang/IndexOutOfBoundsException", .initialized "java/lang/IndexOutOfBoundsException", .fieldLink RX6 42 "TarockHall" "hands" "LTarockHall$Sets;", .methodLink RX6 239 yX6_isPlayer, .static yX6_isPlayer, .code yX6_isPlayer cX6_isPlayer 1 (some .boolean), .methodLink RX6 154 yX3_at, .instanceMethod yX3_at, .selects RX3 yX3_at yX3_at, .initialized RX3, .code yX3_at cX3_at 2 (some .long), .fieldLink RX3 13 "TarockHall$Sets" "items" "[J"] ++ wsX60 ++ wsX30 ++ (vx_atS RX6 130 "java/lang/IndexOutOfBoundsException" ["java/lang/RuntimeException", "java/lang/Exception"]).filter goodWord)
def wsL_talonAt_r1 : List Cond := [Cond.classLink RL 23 "java/lang/IndexOutOfBoundsException", Cond.classLink RL 15 "java/lang/IllegalStateException", Cond.methodLink RL 44 yX6_talonAt, Cond.instanceMethod yX6_talonAt, Cond.selects RX6 yX6_talonAt yX6_talonAt, Cond.initialized RX6, Cond.code yX6_talonAt cX6_talonAt 2 (some .int), Cond.classLink RX6 126 "java/lang/IndexOutOfBoundsException", Cond.initialized "java/lang/IndexOutOfBoundsException", Cond.classLink RX6 79 "java/lang/IllegalStateException", Cond.initialized "java/lang/IllegalStateException", Cond.fieldLink RX6 49 "TarockHall" "forehand" "I", Cond.fieldLink RX6 12 "TarockHall" "deck" "LTarockHall$Deck;", Cond.methodLink RX6 248 yX1_cardAt, Cond.instanceMethod yX1_cardAt, Cond.selects RX1 yX1_cardAt yX1_cardAt, Cond.initialized RX1, Cond.code yX1_cardAt cX1_cardAt 2 (some .int), Cond.fieldLink RX1 14 "TarockHall$Deck" "row" "LTarockHall$Row;", Cond.methodLink RX1 28 yX2_at, Cond.instanceMethod yX2_at, Cond.selects RX2 yX2_at yX2_at, Cond.initialized RX2, Cond.code yX2_at cX2_at 2 (some .int)]
def wsL_talonAt_r2 : List Cond := [Cond.fieldLink RX2 15 "TarockHall$Row" "items" "[I"]
def wsL_talonAt : List Cond := .codeWith yL_talonAt cL_talonAt 4 (some .int) [(0, 9, 12, 23), (0, 9, 15, 15)] :: ((wsL_talonAt_r1 ++ wsL_talonAt_r2) ++ wsX60 ++ wsX10 ++ wsX20 ++ (vx_atS RX6 130 "java/lang/IndexOutOfBoundsException" ["java/lang/RuntimeException", "java/lang/Exception"]).filter goodWord ++ (vx_atS RX6 83 "java/lang/IllegalStateException" ["java/lang/RuntimeException", "java/lang/Exception"]).filter goodWord)
def wsL_trickAt : List Cond := .codeWith yL_trickAt cL_trickAt 4 (some .int) [(0, 9, 12, 23)] :: ([.classLink RL 23 "java/lang/IndexOutOfBoundsException", .methodLink RL 47 yX6_trickAt, .instanceMethod yX6_trickAt, .selects RX6 yX6_trickAt yX6_trickAt, .initialized RX6, .code yX6_trickAt cX6_trickAt 2 (some .int), .classLink RX6 126 "java/lang/IndexOutOfBoundsException", .initialized "java/lang/IndexOutOfBoundsException", .fieldLink RX6 26 "TarockHall" "trick" "LTarockHall$Trick;", .methodLink RX6 253 yX5_cardAt, .instanceMethod yX5_cardAt, .selects RX5 yX5_cardAt yX5_cardAt, .initialized RX5, .code yX5_cardAt cX5_cardAt 2 (some .int), .fieldLink RX5 14 "TarockHall$Trick" "cards" "LTarockHall$Row;", .methodLink RX5 31 yX2_at, .instanceMethod yX2_at, .selects RX2 yX2_at yX2_at, .initialized RX2, .code yX2_at cX2_at 2 (some .int), .fieldLink RX2 15 "TarockHall$Row" "items" "[I"] ++ wsX60 ++ wsX50 ++ wsX20 ++ (vx_atS RX6 130 "java/lang/IndexOutOfBoundsException" ["java/lang/RuntimeException", "java/lang/Exception"]).filter goodWord)
def wsL_canPlay_r1 : List Cond := [Cond.classLink RL 23 "java/lang/IndexOutOfBoundsException", Cond.methodLink RL 50 yX6_canPlay, Cond.instanceMethod yX6_canPlay, Cond.selects RX6 yX6_canPlay yX6_canPlay, Cond.initialized RX6, Cond.code yX6_canPlay cX6_canPlay 2 (some .boolean), Cond.classLink RX6 126 "java/lang/IndexOutOfBoundsException", Cond.initialized "java/lang/IndexOutOfBoundsException", Cond.methodLink RX6 171 yX6_isCard, Cond.static yX6_isCard, Cond.code yX6_isCard cX6_isCard 1 (some .boolean), Cond.methodLink RX6 222 yX6_playableNow, Cond.instanceMethod yX6_playableNow, Cond.selects RX6 yX6_playableNow yX6_playableNow, Cond.code yX6_playableNow cX6_playableNow 1 (some .long), Cond.fieldLink RX6 53 "TarockHall" "phase" "I", Cond.fieldLink RX6 42 "TarockHall" "hands" "LTarockHall$Sets;", Cond.fieldLink RX6 56 "TarockHall" "turn" "I", Cond.fieldLink RX6 26 "TarockHall" "trick" "LTarockHall$Trick;", Cond.methodLink RX6 154 yX3_at, Cond.instanceMethod yX3_at, Cond.selects RX3 yX3_at yX3_at, Cond.initialized RX3, Cond.code yX3_at cX3_at 2 (some .long)]
def wsL_canPlay_r2 : List Cond := [Cond.fieldLink RX3 13 "TarockHall$Sets" "items" "[J", Cond.methodLink RX6 337 yX5_ledSuit, Cond.instanceMethod yX5_ledSuit, Cond.selects RX5 yX5_ledSuit yX5_ledSuit, Cond.initialized RX5, Cond.code yX5_ledSuit cX5_ledSuit 1 (some .int), Cond.fieldLink RX5 24 "TarockHall$Trick" "size" "I", Cond.fieldLink RX5 14 "TarockHall$Trick" "cards" "LTarockHall$Row;", Cond.methodLink RX5 31 yX2_at, Cond.instanceMethod yX2_at, Cond.selects RX2 yX2_at yX2_at, Cond.initialized RX2, Cond.code yX2_at cX2_at 2 (some .int), Cond.fieldLink RX2 15 "TarockHall$Row" "items" "[I", Cond.static yX6_suitOf, Cond.code yX6_suitOf cX6_suitOf 1 (some .int), Cond.methodLink RX6 340 yX6_playableOf, Cond.static yX6_playableOf, Cond.code yX6_playableOf cX6_playableOf 7 (some .long), Cond.methodLink RX6 359 yX6_cardsOfSuit, Cond.static yX6_cardsOfSuit, Cond.code yX6_cardsOfSuit cX6_cardsOfSuit 5 (some .long), Cond.constantLong RX6 355 (-4294967296), Cond.constantLong RX6 357 (255)]
def wsL_canPlay_r3 : List Cond := [Cond.methodLink RX6 179 yX6_holds, Cond.static yX6_holds, Cond.code yX6_holds cX6_holds 3 (some .boolean)]
def wsL_canPlay : List Cond := .codeWith yL_canPlay cL_canPlay 4 (some .int) [(0, 16, 19, 23)] :: ((wsL_canPlay_r1 ++ (wsL_canPlay_r2 ++ wsL_canPlay_r3)) ++ wsX60 ++ wsX30 ++ wsX50 ++ wsX20 ++ (vx_atS RX6 130 "java/lang/IndexOutOfBoundsException" ["java/lang/RuntimeException", "java/lang/Exception"]).filter goodWord)
def wsL_valueOf : List Cond := .codeWith yL_valueOf cL_valueOf 4 (some .int) [(0, 9, 12, 23)] :: ([.classLink RL 23 "java/lang/IndexOutOfBoundsException", .methodLink RL 54 yX6_valueOf, .instanceMethod yX6_valueOf, .selects RX6 yX6_valueOf yX6_valueOf, .initialized RX6, .code yX6_valueOf cX6_valueOf 2 (some .int), .classLink RX6 126 "java/lang/IndexOutOfBoundsException", .initialized "java/lang/IndexOutOfBoundsException", .methodLink RX6 171 yX6_isCard, .static yX6_isCard, .code yX6_isCard cX6_isCard 1 (some .boolean), .methodLink RX6 254 yX6_worth, .static yX6_worth, .code yX6_worth cX6_worth 2 (some .int), .methodLink RX6 344 yX6_suitOf, .static yX6_suitOf, .code yX6_suitOf cX6_suitOf 1 (some .int)] ++ (vx_atS RX6 130 "java/lang/IndexOutOfBoundsException" ["java/lang/RuntimeException", "java/lang/Exception"]).filter goodWord)
def wsL_thirds_r1 : List Cond := [Cond.classLink RL 23 "java/lang/IndexOutOfBoundsException", Cond.methodLink RL 57 yX6_thirds, Cond.instanceMethod yX6_thirds, Cond.selects RX6 yX6_thirds yX6_thirds, Cond.initialized RX6, Cond.code yX6_thirds cX6_thirds 2 (some .int), Cond.classLink RX6 126 "java/lang/IndexOutOfBoundsException", Cond.initialized "java/lang/IndexOutOfBoundsException", Cond.fieldLink RX6 46 "TarockHall" "piles" "LTarockHall$Sets;", Cond.methodLink RX6 257 yX6_isSide, Cond.static yX6_isSide, Cond.code yX6_isSide cX6_isSide 1 (some .boolean), Cond.methodLink RX6 154 yX3_at, Cond.instanceMethod yX3_at, Cond.selects RX3 yX3_at yX3_at, Cond.initialized RX3, Cond.code yX3_at cX3_at 2 (some .long), Cond.fieldLink RX3 13 "TarockHall$Sets" "items" "[J", Cond.methodLink RX6 262 yX6_thirdsOf, Cond.static yX6_thirdsOf, Cond.code yX6_thirdsOf cX6_thirdsOf 4 (some .int), Cond.methodLink RX6 179 yX6_holds, Cond.static yX6_holds, Cond.code yX6_holds cX6_holds 3 (some .boolean)]
def wsL_thirds_r2 : List Cond := [Cond.methodLink RX6 254 yX6_worth, Cond.static yX6_worth, Cond.code yX6_worth cX6_worth 2 (some .int), Cond.methodLink RX6 344 yX6_suitOf, Cond.static yX6_suitOf, Cond.code yX6_suitOf cX6_suitOf 1 (some .int)]
def wsL_thirds : List Cond := .codeWith yL_thirds cL_thirds 4 (some .int) [(0, 9, 12, 23)] :: ((wsL_thirds_r1 ++ wsL_thirds_r2) ++ wsX60 ++ wsX30 ++ (vx_atS RX6 130 "java/lang/IndexOutOfBoundsException" ["java/lang/RuntimeException", "java/lang/Exception"]).filter goodWord)
def wsL_byPacks_r1 : List Cond := [Cond.classLink RL 23 "java/lang/IndexOutOfBoundsException", Cond.methodLink RL 60 yX6_byPacks, Cond.instanceMethod yX6_byPacks, Cond.selects RX6 yX6_byPacks yX6_byPacks, Cond.initialized RX6, Cond.code yX6_byPacks cX6_byPacks 2 (some .int), Cond.classLink RX6 126 "java/lang/IndexOutOfBoundsException", Cond.initialized "java/lang/IndexOutOfBoundsException", Cond.fieldLink RX6 46 "TarockHall" "piles" "LTarockHall$Sets;", Cond.methodLink RX6 257 yX6_isSide, Cond.static yX6_isSide, Cond.code yX6_isSide cX6_isSide 1 (some .boolean), Cond.methodLink RX6 154 yX3_at, Cond.instanceMethod yX3_at, Cond.selects RX3 yX3_at yX3_at, Cond.initialized RX3, Cond.code yX3_at cX3_at 2 (some .long), Cond.fieldLink RX3 13 "TarockHall$Sets" "items" "[J", Cond.methodLink RX6 265 yX6_packPointsOf, Cond.static yX6_packPointsOf, Cond.code yX6_packPointsOf cX6_packPointsOf 6 (some .int), Cond.methodLink RX6 179 yX6_holds, Cond.static yX6_holds, Cond.code yX6_holds cX6_holds 3 (some .boolean)]
def wsL_byPacks_r2 : List Cond := [Cond.methodLink RX6 254 yX6_worth, Cond.static yX6_worth, Cond.code yX6_worth cX6_worth 2 (some .int), Cond.methodLink RX6 344 yX6_suitOf, Cond.static yX6_suitOf, Cond.code yX6_suitOf cX6_suitOf 1 (some .int)]
def wsL_byPacks : List Cond := .codeWith yL_byPacks cL_byPacks 4 (some .int) [(0, 9, 12, 23)] :: ((wsL_byPacks_r1 ++ wsL_byPacks_r2) ++ wsX60 ++ wsX30 ++ (vx_atS RX6 130 "java/lang/IndexOutOfBoundsException" ["java/lang/RuntimeException", "java/lang/Exception"]).filter goodWord)
def wsL_score : List Cond := .codeWith yL_score cL_score 4 (some .int) [(0, 9, 12, 23)] :: ([.classLink RL 23 "java/lang/IndexOutOfBoundsException", .methodLink RL 63 yX6_score, .instanceMethod yX6_score, .selects RX6 yX6_score yX6_score, .initialized RX6, .code yX6_score cX6_score 2 (some .int), .classLink RX6 126 "java/lang/IndexOutOfBoundsException", .initialized "java/lang/IndexOutOfBoundsException", .fieldLink RX6 33 "TarockHall" "sheet" "LTarockHall$Sheet;", .methodLink RX6 239 yX6_isPlayer, .static yX6_isPlayer, .code yX6_isPlayer cX6_isPlayer 1 (some .boolean), .methodLink RX6 272 yX2_at, .instanceMethod yX2_at, .selects RX2 yX2_at yX2_at, .initialized RX2, .code yX2_at cX2_at 2 (some .int), .fieldLink RX2 15 "TarockHall$Row" "items" "[I"] ++ wsX60 ++ wsX40 ++ wsX20 ++ (vx_atS RX6 130 "java/lang/IndexOutOfBoundsException" ["java/lang/RuntimeException", "java/lang/Exception"]).filter goodWord)
def wsL_radli : List Cond := .codeWith yL_radli cL_radli 4 (some .int) [(0, 9, 12, 23)] :: ([.classLink RL 23 "java/lang/IndexOutOfBoundsException", .methodLink RL 66 yX6_radli, .instanceMethod yX6_radli, .selects RX6 yX6_radli yX6_radli, .initialized RX6, .code yX6_radli cX6_radli 2 (some .int), .classLink RX6 126 "java/lang/IndexOutOfBoundsException", .initialized "java/lang/IndexOutOfBoundsException", .fieldLink RX6 33 "TarockHall" "sheet" "LTarockHall$Sheet;", .methodLink RX6 239 yX6_isPlayer, .static yX6_isPlayer, .code yX6_isPlayer cX6_isPlayer 1 (some .boolean), .methodLink RX6 272 yX2_at, .instanceMethod yX2_at, .selects RX2 yX2_at yX2_at, .initialized RX2, .code yX2_at cX2_at 2 (some .int), .fieldLink RX2 15 "TarockHall$Row" "items" "[I"] ++ wsX60 ++ wsX40 ++ wsX20 ++ (vx_atS RX6 130 "java/lang/IndexOutOfBoundsException" ["java/lang/RuntimeException", "java/lang/Exception"]).filter goodWord)
def wsL_knows_r1 : List Cond := [Cond.classLink RL 23 "java/lang/IndexOutOfBoundsException", Cond.methodLink RL 69 yX6_knows, Cond.instanceMethod yX6_knows, Cond.selects RX6 yX6_knows yX6_knows, Cond.initialized RX6, Cond.code yX6_knows cX6_knows 4 (some .int), Cond.classLink RX6 126 "java/lang/IndexOutOfBoundsException", Cond.initialized "java/lang/IndexOutOfBoundsException", Cond.fieldLink RX6 59 "TarockHall" "declarer" "I", Cond.fieldLink RX6 53 "TarockHall" "phase" "I", Cond.fieldLink RX6 65 "TarockHall" "kingOwner" "I", Cond.methodLink RX6 239 yX6_isPlayer, Cond.static yX6_isPlayer, Cond.code yX6_isPlayer cX6_isPlayer 1 (some .boolean), Cond.methodLink RX6 282 yX6_sidesAreOpen, Cond.instanceMethod yX6_sidesAreOpen, Cond.selects RX6 yX6_sidesAreOpen yX6_sidesAreOpen, Cond.code yX6_sidesAreOpen cX6_sidesAreOpen 1 (some .boolean), Cond.fieldLink RX6 62 "TarockHall" "called" "I", Cond.fieldLink RX6 42 "TarockHall" "hands" "LTarockHall$Sets;", Cond.methodLink RX6 154 yX3_at, Cond.instanceMethod yX3_at, Cond.selects RX3 yX3_at yX3_at, Cond.initialized RX3]
def wsL_knows_r2 : List Cond := [Cond.code yX3_at cX3_at 2 (some .long), Cond.fieldLink RX3 13 "TarockHall$Sets" "items" "[J", Cond.methodLink RX6 133 yX6_calledKing, Cond.instanceMethod yX6_calledKing, Cond.selects RX6 yX6_calledKing yX6_calledKing, Cond.code yX6_calledKing cX6_calledKing 1 (some .int), Cond.methodLink RX6 179 yX6_holds, Cond.static yX6_holds, Cond.code yX6_holds cX6_holds 3 (some .boolean), Cond.methodLink RX6 285 yX6_sideOf, Cond.instanceMethod yX6_sideOf, Cond.selects RX6 yX6_sideOf yX6_sideOf, Cond.code yX6_sideOf cX6_sideOf 2 (some .int), Cond.fieldLink RX6 68 "TarockHall" "partner" "I"]
def wsL_knows : List Cond := .codeWith yL_knows cL_knows 5 (some .int) [(0, 10, 13, 23)] :: ((wsL_knows_r1 ++ wsL_knows_r2) ++ wsX60 ++ wsX30 ++ (vx_atS RX6 130 "java/lang/IndexOutOfBoundsException" ["java/lang/RuntimeException", "java/lang/Exception"]).filter goodWord)
def wsL_law0_r1 : List Cond := [Cond.classLink RL 8 RX6, Cond.instantiable RX6 18, Cond.initialized RX6, Cond.classLink RL 74 RX7, Cond.instantiable RX7 29, Cond.initialized RX7, Cond.arrayClass .long, Cond.methodLink RL 73 yX6_init, Cond.instanceMethod yX6_init, Cond.code yX6_init cX6_init 1 none, Cond.methodLink RX6 3 objectInit, Cond.instanceMethod objectInit, Cond.code objectInit ⟨#[0xb1]⟩ 1 none, Cond.classLink RX6 9 RX1, Cond.instantiable RX1 1, Cond.initialized RX1, Cond.fieldLink RX6 12 "TarockHall" "deck" "LTarockHall$Deck;", Cond.classLink RX6 16 RX0, Cond.instantiable RX0 3, Cond.initialized RX0, Cond.fieldLink RX6 19 "TarockHall" "bidding" "LTarockHall$Bidding;", Cond.classLink RX6 23 RX5, Cond.instantiable RX5 3, Cond.initialized RX5]
def wsL_law0_r2 : List Cond := [Cond.fieldLink RX6 26 "TarockHall" "trick" "LTarockHall$Trick;", Cond.classLink RX6 30 RX4, Cond.instantiable RX4 3, Cond.initialized RX4, Cond.fieldLink RX6 33 "TarockHall" "sheet" "LTarockHall$Sheet;", Cond.classLink RX6 37 RX3, Cond.instantiable RX3 1, Cond.initialized RX3, Cond.fieldLink RX6 42 "TarockHall" "hands" "LTarockHall$Sets;", Cond.fieldLink RX6 46 "TarockHall" "piles" "LTarockHall$Sets;", Cond.fieldLink RX6 49 "TarockHall" "forehand" "I", Cond.fieldLink RX6 53 "TarockHall" "phase" "I", Cond.fieldLink RX6 56 "TarockHall" "turn" "I", Cond.fieldLink RX6 59 "TarockHall" "declarer" "I", Cond.fieldLink RX6 62 "TarockHall" "called" "I", Cond.fieldLink RX6 65 "TarockHall" "kingOwner" "I", Cond.fieldLink RX6 68 "TarockHall" "partner" "I", Cond.methodLink RX6 11 yX1_init, Cond.instanceMethod yX1_init, Cond.code yX1_init cX1_init 1 none, Cond.methodLink RX1 3 objectInit, Cond.classLink RX1 9 RX2, Cond.instantiable RX2 1, Cond.initialized RX2]
def wsL_law0_r3 : List Cond := [Cond.fieldLink RX1 14 "TarockHall$Deck" "row" "LTarockHall$Row;", Cond.methodLink RX1 11 yX2_init, Cond.instanceMethod yX2_init, Cond.code yX2_init cX2_init 2 none, Cond.methodLink RX2 3 objectInit, Cond.methodLink RX2 9 Lib.Math.max.name, Cond.static Lib.Math.max.name, Cond.initialized "java/lang/Math", Cond.code Lib.Math.max.name Lib.Math.max.code 2 (some .int), Cond.arrayClass .int, Cond.fieldLink RX2 15 "TarockHall$Row" "items" "[I", Cond.methodLink RX6 18 yX0_init, Cond.instanceMethod yX0_init, Cond.code yX0_init cX0_init 1 none, Cond.methodLink RX0 3 objectInit, Cond.fieldLink RX0 9 "TarockHall$Bidding" "bidder" "I", Cond.methodLink RX6 25 yX5_init, Cond.instanceMethod yX5_init, Cond.code yX5_init cX5_init 1 none, Cond.methodLink RX5 3 objectInit, Cond.classLink RX5 9 RX2, Cond.fieldLink RX5 14 "TarockHall$Trick" "cards" "LTarockHall$Row;", Cond.methodLink RX5 11 yX2_init, Cond.methodLink RX6 32 yX4_init]
def wsL_law0_r4 : List Cond := [Cond.instanceMethod yX4_init, Cond.code yX4_init cX4_init 1 none, Cond.methodLink RX4 3 objectInit, Cond.classLink RX4 9 RX2, Cond.fieldLink RX4 14 "TarockHall$Sheet" "scores" "LTarockHall$Row;", Cond.fieldLink RX4 20 "TarockHall$Sheet" "radli" "LTarockHall$Row;", Cond.methodLink RX4 11 yX2_init, Cond.methodLink RX6 39 yX3_init, Cond.instanceMethod yX3_init, Cond.code yX3_init cX3_init 2 none, Cond.methodLink RX3 1 objectInit, Cond.methodLink RX3 7 Lib.Math.max.name, Cond.fieldLink RX3 13 "TarockHall$Sets" "items" "[J", Cond.methodLink RL 76 yX7_init, Cond.instanceMethod yX7_init, Cond.code yX7_init cX7_init 1 none, Cond.methodLink RX7 1 objectInit, Cond.fieldLink RX7 9 "TarockHallModel" "phase" "I", Cond.fieldLink RX7 13 "TarockHallModel" "turn" "I", Cond.fieldLink RX7 16 "TarockHallModel" "row" "[I", Cond.fieldLink RX7 20 "TarockHallModel" "hand" "[J", Cond.arrayClass .boolean, Cond.fieldLink RX7 24 "TarockHallModel" "isPassed" "[Z", Cond.fieldLink RX7 28 "TarockHallModel" "bidder" "I"]
def wsL_law0_r5 : List Cond := [Cond.fieldLink RX7 31 "TarockHallModel" "declarer" "I", Cond.fieldLink RX7 34 "TarockHallModel" "called" "I", Cond.fieldLink RX7 37 "TarockHallModel" "partner" "I", Cond.fieldLink RX7 40 "TarockHallModel" "holder" "I", Cond.fieldLink RX7 43 "TarockHallModel" "isAnnounced" "[Z", Cond.fieldLink RX7 46 "TarockHallModel" "trick" "[I", Cond.fieldLink RX7 49 "TarockHallModel" "won" "[J", Cond.fieldLink RX7 52 "TarockHallModel" "score" "[I", Cond.fieldLink RX7 55 "TarockHallModel" "radli" "[I", Cond.methodLink RL 77 yL_deal, Cond.static yL_deal, Cond.initialized RL, Cond.codeWith yL_deal cL_deal 4 (some .int) [(0, 9, 12, 13), (0, 9, 15, 15)], Cond.classLink RL 13 "java/lang/IllegalArgumentException", Cond.classLink RL 15 "java/lang/IllegalStateException", Cond.methodLink RL 7 yX6_deal, Cond.instanceMethod yX6_deal, Cond.selects RX6 yX6_deal yX6_deal, Cond.code yX6_deal cX6_deal 2 (some .int), Cond.classLink RX6 72 "java/lang/IllegalArgumentException", Cond.initialized "java/lang/IllegalArgumentException", Cond.classLink RX6 79 "java/lang/IllegalStateException", Cond.initialized "java/lang/IllegalStateException", Cond.constant RX6 71 (65536)]
def wsL_law0_r6 : List Cond := [Cond.methodLink RX6 84 yX6_behind, Cond.static yX6_behind, Cond.code yX6_behind cX6_behind 1 (some .int), Cond.methodLink RX6 88 yX6_clearDeal, Cond.instanceMethod yX6_clearDeal, Cond.selects RX6 yX6_clearDeal yX6_clearDeal, Cond.code yX6_clearDeal cX6_clearDeal 1 none, Cond.fieldLink RX6 168 "TarockHall" "toLayAway" "I", Cond.fieldLink RX6 191 "TarockHall" "laidAway" "J", Cond.fieldLink RX6 214 "TarockHall" "announced" "I", Cond.fieldLink RX6 199 "TarockHall" "tricks" "I", Cond.methodLink RX6 288 yX0_clear, Cond.instanceMethod yX0_clear, Cond.selects RX0 yX0_clear yX0_clear, Cond.code yX0_clear cX0_clear 1 none, Cond.fieldLink RX0 15 "TarockHall$Bidding" "passed" "I", Cond.fieldLink RX0 18 "TarockHall$Bidding" "highest" "I", Cond.methodLink RX6 291 yX5_begin, Cond.instanceMethod yX5_begin, Cond.selects RX5 yX5_begin yX5_begin, Cond.code yX5_begin cX5_begin 2 none, Cond.fieldLink RX5 20 "TarockHall$Trick" "leader" "I", Cond.fieldLink RX5 24 "TarockHall$Trick" "size" "I", Cond.methodLink RX6 158 yX3_put]
def wsL_law0_r7 : List Cond := [Cond.instanceMethod yX3_put, Cond.selects RX3 yX3_put yX3_put, Cond.code yX3_put cX3_put 4 none, Cond.methodLink RX6 91 yX1_shuffle, Cond.instanceMethod yX1_shuffle, Cond.selects RX1 yX1_shuffle yX1_shuffle, Cond.code yX1_shuffle cX1_shuffle 4 none, Cond.constant RX1 24 (65536), Cond.methodLink RX1 20 yX2_put, Cond.instanceMethod yX2_put, Cond.selects RX2 yX2_put yX2_put, Cond.code yX2_put cX2_put 3 none, Cond.methodLink RX1 25 yX1_swap, Cond.instanceMethod yX1_swap, Cond.selects RX1 yX1_swap yX1_swap, Cond.code yX1_swap cX1_swap 4 none, Cond.methodLink RX1 28 yX2_at, Cond.instanceMethod yX2_at, Cond.selects RX2 yX2_at yX2_at, Cond.code yX2_at cX2_at 2 (some .int), Cond.methodLink RX6 94 yX6_handOut, Cond.instanceMethod yX6_handOut, Cond.selects RX6 yX6_handOut yX6_handOut, Cond.code yX6_handOut cX6_handOut 3 none]
def wsL_law0_r8 : List Cond := [Cond.fieldLink RX6 162 "TarockHall" "restOfTalon" "J", Cond.methodLink RX6 150 yX1_cardsFrom, Cond.instanceMethod yX1_cardsFrom, Cond.selects RX1 yX1_cardsFrom yX1_cardsFrom, Cond.code yX1_cardsFrom cX1_cardsFrom 6 (some .long), Cond.static yX6_only, Cond.code yX6_only cX6_only 1 (some .long), Cond.methodLink RL 82 yX7_deal, Cond.instanceMethod yX7_deal, Cond.selects RX7 yX7_deal yX7_deal, Cond.code yX7_deal cX7_deal 5 (some .int), Cond.constant RX7 65 (65535), Cond.constant RX7 70 (65536), Cond.fieldLink RX7 71 "TarockHallModel" "deals" "I", Cond.fieldLink RX7 74 "TarockHallModel" "forehand" "I", Cond.fieldLink RX7 81 "TarockHallModel" "passes" "I", Cond.fieldLink RX7 84 "TarockHallModel" "level" "I", Cond.fieldLink RX7 87 "TarockHallModel" "isOut" "Z", Cond.fieldLink RX7 91 "TarockHallModel" "laid" "J", Cond.fieldLink RX7 95 "TarockHallModel" "rest" "J", Cond.fieldLink RX7 98 "TarockHallModel" "isBegun" "Z", Cond.fieldLink RX7 101 "TarockHallModel" "inTrick" "I", Cond.fieldLink RX7 104 "TarockHallModel" "tricks" "I", Cond.methodLink RX7 61 yX7_isIn]
def wsL_law0_r9 : List Cond := [Cond.static yX7_isIn, Cond.code yX7_isIn cX7_isIn 3 (some .boolean), Cond.methodLink RX7 66 yX7_isFine, Cond.instanceMethod yX7_isFine, Cond.selects RX7 yX7_isFine yX7_isFine, Cond.code yX7_isFine cX7_isFine 2 (some .boolean), Cond.fieldLink RX7 58 "TarockHallModel" "thrown" "I", Cond.methodLink RX7 77 yX7_bit, Cond.static yX7_bit, Cond.code yX7_bit cX7_bit 1 (some .long), Cond.methodLink RL 83 yX7_thrown, Cond.instanceMethod yX7_thrown, Cond.selects RX7 yX7_thrown yX7_thrown, Cond.code yX7_thrown cX7_thrown 1 (some .int), Cond.methodLink RL 87 yL_bid, Cond.static yL_bid, Cond.codeWith yL_bid cL_bid 4 (some .int) [(0, 9, 12, 13), (0, 9, 15, 15)], Cond.methodLink RL 17 yX6_bid, Cond.instanceMethod yX6_bid, Cond.selects RX6 yX6_bid yX6_bid, Cond.code yX6_bid cX6_bid 2 (some .int), Cond.methodLink RX6 106 yX0_enter, Cond.instanceMethod yX0_enter, Cond.selects RX0 yX0_enter yX0_enter]
def wsL_law0_r10 : List Cond := [Cond.code yX0_enter cX0_enter 3 none, Cond.methodLink RX6 110 yX0_allPassed, Cond.instanceMethod yX0_allPassed, Cond.selects RX0 yX0_allPassed yX0_allPassed, Cond.code yX0_allPassed cX0_allPassed 1 (some .boolean), Cond.methodLink RX0 21 yJ6_bitCount_0f7a4, Cond.static yJ6_bitCount_0f7a4, Cond.initialized RJ6, Cond.code yJ6_bitCount_0f7a4 cJ6_bitCount_0f7a4 1 (some .int), Cond.constant RJ6 265 (1431655765), Cond.constant RJ6 266 (858993459), Cond.constant RJ6 267 (252645135), Cond.methodLink RX6 114 yX6_endDeal, Cond.instanceMethod yX6_endDeal, Cond.selects RX6 yX6_endDeal yX6_endDeal, Cond.code yX6_endDeal cX6_endDeal 1 none, Cond.methodLink RX6 117 yX0_isSettled, Cond.instanceMethod yX0_isSettled, Cond.selects RX0 yX0_isSettled yX0_isSettled, Cond.code yX0_isSettled cX0_isSettled 1 (some .boolean), Cond.methodLink RX6 120 yX6_beginGame, Cond.instanceMethod yX6_beginGame, Cond.selects RX6 yX6_beginGame yX6_beginGame, Cond.code yX6_beginGame cX6_beginGame 1 none]
def wsL_law0_r11 : List Cond := [Cond.methodLink RX6 194 yX6_beginPlay, Cond.instanceMethod yX6_beginPlay, Cond.selects RX6 yX6_beginPlay yX6_beginPlay, Cond.code yX6_beginPlay cX6_beginPlay 1 none, Cond.methodLink RX6 123 yX0_nextBehind, Cond.instanceMethod yX0_nextBehind, Cond.selects RX0 yX0_nextBehind yX0_nextBehind, Cond.code yX0_nextBehind cX0_nextBehind 4 (some .int), Cond.methodLink RX0 30 yX0_hasPassed, Cond.instanceMethod yX0_hasPassed, Cond.selects RX0 yX0_hasPassed yX0_hasPassed, Cond.code yX0_hasPassed cX0_hasPassed 2 (some .boolean), Cond.methodLink RL 89 yX7_bid, Cond.instanceMethod yX7_bid, Cond.selects RX7 yX7_bid yX7_bid, Cond.code yX7_bid cX7_bid 2 (some .int), Cond.methodLink RX7 117 yX7_declares, Cond.instanceMethod yX7_declares, Cond.selects RX7 yX7_declares yX7_declares, Cond.code yX7_declares cX7_declares 2 none, Cond.methodLink RX7 110 yX7_talon, Cond.instanceMethod yX7_talon, Cond.selects RX7 yX7_talon yX7_talon, Cond.code yX7_talon cX7_talon 2 (some .int)]
def wsL_law0_r12 : List Cond := [Cond.methodLink RX7 114 yX7_begins, Cond.instanceMethod yX7_begins, Cond.selects RX7 yX7_begins yX7_begins, Cond.code yX7_begins cX7_begins 1 none, Cond.fieldLink RX7 107 "TarockHallModel" "leader" "I", Cond.methodLink RL 90 yL_call, Cond.static yL_call, Cond.codeWith yL_call cL_call 4 (some .int) [(0, 9, 12, 23), (0, 9, 15, 15)], Cond.classLink RL 23 "java/lang/IndexOutOfBoundsException", Cond.methodLink RL 20 yX6_call, Cond.instanceMethod yX6_call, Cond.selects RX6 yX6_call yX6_call, Cond.code yX6_call cX6_call 2 (some .int), Cond.classLink RX6 126 "java/lang/IndexOutOfBoundsException", Cond.initialized "java/lang/IndexOutOfBoundsException", Cond.methodLink RX6 133 yX6_calledKing, Cond.instanceMethod yX6_calledKing, Cond.selects RX6 yX6_calledKing yX6_calledKing, Cond.code yX6_calledKing cX6_calledKing 1 (some .int), Cond.methodLink RX6 137 yX6_ownerOf, Cond.instanceMethod yX6_ownerOf, Cond.selects RX6 yX6_ownerOf yX6_ownerOf, Cond.code yX6_ownerOf cX6_ownerOf 3 (some .int), Cond.methodLink RX6 154 yX3_at]
def wsL_law0_r13 : List Cond := [Cond.instanceMethod yX3_at, Cond.selects RX3 yX3_at yX3_at, Cond.code yX3_at cX3_at 2 (some .long), Cond.methodLink RX6 179 yX6_holds, Cond.static yX6_holds, Cond.code yX6_holds cX6_holds 3 (some .boolean), Cond.methodLink RL 92 yX7_call, Cond.instanceMethod yX7_call, Cond.selects RX7 yX7_call yX7_call, Cond.code yX7_call cX7_call 3 (some .int), Cond.methodLink RX7 120 yX7_king, Cond.instanceMethod yX7_king, Cond.selects RX7 yX7_king yX7_king, Cond.code yX7_king cX7_king 1 (some .int), Cond.methodLink RX7 124 yX7_has, Cond.static yX7_has, Cond.code yX7_has cX7_has 3 (some .boolean), Cond.methodLink RL 93 yL_take, Cond.static yL_take, Cond.codeWith yL_take cL_take 4 (some .int) [(0, 9, 12, 23), (0, 9, 15, 15)], Cond.methodLink RL 25 yX6_take, Cond.instanceMethod yX6_take, Cond.selects RX6 yX6_take yX6_take, Cond.code yX6_take cX6_take 5 (some .int)]
def wsL_law0_r14 : List Cond := [Cond.constantLong RX6 166 (-1), Cond.methodLink RX6 140 yX6_groupsNow, Cond.instanceMethod yX6_groupsNow, Cond.selects RX6 yX6_groupsNow yX6_groupsNow, Cond.code yX6_groupsNow cX6_groupsNow 1 (some .int), Cond.methodLink RX6 334 yX6_groupsAt, Cond.static yX6_groupsAt, Cond.code yX6_groupsAt cX6_groupsAt 1 (some .int), Cond.methodLink RX6 147 yX6_groupSize, Cond.static yX6_groupSize, Cond.code yX6_groupSize cX6_groupSize 1 (some .int), Cond.methodLink RL 95 yX7_take, Cond.instanceMethod yX7_take, Cond.selects RX7 yX7_take yX7_take, Cond.code yX7_take cX7_take 4 (some .int), Cond.fieldLink RX7 128 "TarockHallModel" "toLay" "I", Cond.methodLink RL 96 yL_discard, Cond.static yL_discard, Cond.codeWith yL_discard cL_discard 4 (some .int) [(0, 9, 12, 23), (0, 9, 15, 15)], Cond.methodLink RL 28 yX6_discard, Cond.instanceMethod yX6_discard, Cond.selects RX6 yX6_discard yX6_discard, Cond.code yX6_discard cX6_discard 4 (some .int), Cond.methodLink RX6 171 yX6_isCard]
def wsL_law0_r15 : List Cond := [Cond.static yX6_isCard, Cond.code yX6_isCard cX6_isCard 1 (some .boolean), Cond.methodLink RX6 183 yX6_canBeLaidAway, Cond.static yX6_canBeLaidAway, Cond.code yX6_canBeLaidAway cX6_canBeLaidAway 1 (some .boolean), Cond.methodLink RX6 254 yX6_worth, Cond.static yX6_worth, Cond.code yX6_worth cX6_worth 2 (some .int), Cond.methodLink RX6 344 yX6_suitOf, Cond.static yX6_suitOf, Cond.code yX6_suitOf cX6_suitOf 1 (some .int), Cond.methodLink RX6 188 yX6_only, Cond.methodLink RL 98 yX7_discard, Cond.instanceMethod yX7_discard, Cond.selects RX7 yX7_discard yX7_discard, Cond.code yX7_discard cX7_discard 3 (some .int), Cond.methodLink RX7 131 yX7_isCard, Cond.static yX7_isCard, Cond.code yX7_isCard cX7_isCard 1 (some .boolean), Cond.methodLink RX7 134 yX7_worth, Cond.static yX7_worth, Cond.code yX7_worth cX7_worth 1 (some .int), Cond.methodLink RL 99 yL_announce, Cond.static yL_announce]
def wsL_law0_r16 : List Cond := [Cond.codeWith yL_announce cL_announce 4 (some .int) [(0, 9, 12, 23), (0, 9, 15, 15)], Cond.methodLink RL 31 yX6_announce, Cond.instanceMethod yX6_announce, Cond.selects RX6 yX6_announce yX6_announce, Cond.code yX6_announce cX6_announce 2 (some .int), Cond.methodLink RX6 207 yX6_isAnnounced, Cond.instanceMethod yX6_isAnnounced, Cond.selects RX6 yX6_isAnnounced yX6_isAnnounced, Cond.code yX6_isAnnounced cX6_isAnnounced 2 (some .boolean), Cond.methodLink RX6 217 yJ6_bitCount_0f7a4, Cond.methodLink RL 101 yX7_announce, Cond.instanceMethod yX7_announce, Cond.selects RX7 yX7_announce yX7_announce, Cond.code yX7_announce cX7_announce 4 (some .int), Cond.methodLink RL 102 yL_play, Cond.static yL_play, Cond.codeWith yL_play cL_play 4 (some .int) [(0, 9, 12, 23), (0, 9, 15, 15)], Cond.methodLink RL 34 yX6_play, Cond.instanceMethod yX6_play, Cond.selects RX6 yX6_play yX6_play, Cond.code yX6_play cX6_play 2 (some .int), Cond.methodLink RX6 222 yX6_playableNow, Cond.instanceMethod yX6_playableNow, Cond.selects RX6 yX6_playableNow yX6_playableNow]
def wsL_law0_r17 : List Cond := [Cond.code yX6_playableNow cX6_playableNow 1 (some .long), Cond.methodLink RX6 337 yX5_ledSuit, Cond.instanceMethod yX5_ledSuit, Cond.selects RX5 yX5_ledSuit yX5_ledSuit, Cond.code yX5_ledSuit cX5_ledSuit 1 (some .int), Cond.methodLink RX5 31 yX2_at, Cond.methodLink RX6 340 yX6_playableOf, Cond.static yX6_playableOf, Cond.code yX6_playableOf cX6_playableOf 7 (some .long), Cond.methodLink RX6 359 yX6_cardsOfSuit, Cond.static yX6_cardsOfSuit, Cond.code yX6_cardsOfSuit cX6_cardsOfSuit 5 (some .long), Cond.constantLong RX6 355 (-4294967296), Cond.constantLong RX6 357 (255), Cond.methodLink RX6 228 yX6_addToTrick, Cond.instanceMethod yX6_addToTrick, Cond.selects RX6 yX6_addToTrick yX6_addToTrick, Cond.code yX6_addToTrick cX6_addToTrick 3 (some .int), Cond.methodLink RX6 297 yX5_add, Cond.instanceMethod yX5_add, Cond.selects RX5 yX5_add yX5_add, Cond.code yX5_add cX5_add 2 none, Cond.methodLink RX5 27 yX2_put, Cond.methodLink RX6 300 yX5_winner]
def wsL_law0_r18 : List Cond := [Cond.instanceMethod yX5_winner, Cond.selects RX5 yX5_winner yX5_winner, Cond.code yX5_winner cX5_winner 3 (some .int), Cond.methodLink RX5 45 yX5_beats, Cond.static yX5_beats, Cond.code yX5_beats cX5_beats 3 (some .boolean), Cond.methodLink RX5 42 yX5_playerAt, Cond.instanceMethod yX5_playerAt, Cond.selects RX5 yX5_playerAt yX5_playerAt, Cond.code yX5_playerAt cX5_playerAt 2 (some .int), Cond.methodLink RX6 303 yX6_endTrick, Cond.instanceMethod yX6_endTrick, Cond.selects RX6 yX6_endTrick yX6_endTrick, Cond.code yX6_endTrick cX6_endTrick 3 none, Cond.methodLink RX6 285 yX6_sideOf, Cond.instanceMethod yX6_sideOf, Cond.selects RX6 yX6_sideOf yX6_sideOf, Cond.code yX6_sideOf cX6_sideOf 2 (some .int), Cond.methodLink RX6 306 yX5_cardSet, Cond.instanceMethod yX5_cardSet, Cond.selects RX5 yX5_cardSet yX5_cardSet, Cond.code yX5_cardSet cX5_cardSet 4 (some .long), Cond.methodLink RX6 309 yX6_enterResult, Cond.instanceMethod yX6_enterResult]
def wsL_law0_r19 : List Cond := [Cond.selects RX6 yX6_enterResult yX6_enterResult, Cond.code yX6_enterResult cX6_enterResult 5 none, Cond.methodLink RX6 262 yX6_thirdsOf, Cond.static yX6_thirdsOf, Cond.code yX6_thirdsOf cX6_thirdsOf 4 (some .int), Cond.methodLink RX6 312 yX6_gamePoints, Cond.static yX6_gamePoints, Cond.code yX6_gamePoints cX6_gamePoints 3 (some .int), Cond.methodLink RX6 350 Lib.Math.abs.name, Cond.static Lib.Math.abs.name, Cond.code Lib.Math.abs.name Lib.Math.abs.code 1 (some .int), Cond.methodLink RX6 347 yX6_basePoints, Cond.static yX6_basePoints, Cond.code yX6_basePoints cX6_basePoints 1 (some .int), Cond.methodLink RX6 322 yX6_isWon, Cond.static yX6_isWon, Cond.code yX6_isWon cX6_isWon 1 (some .boolean), Cond.methodLink RX6 316 yX6_pagatPoints, Cond.instanceMethod yX6_pagatPoints, Cond.selects RX6 yX6_pagatPoints yX6_pagatPoints, Cond.code yX6_pagatPoints cX6_pagatPoints 5 (some .int), Cond.methodLink RX6 331 yX5_playerOf, Cond.instanceMethod yX5_playerOf, Cond.selects RX5 yX5_playerOf yX5_playerOf]
def wsL_law0_r20 : List Cond := [Cond.code yX5_playerOf cX5_playerOf 3 (some .int), Cond.methodLink RX6 319 yX6_kingPoints, Cond.instanceMethod yX6_kingPoints, Cond.selects RX6 yX6_kingPoints yX6_kingPoints, Cond.code yX6_kingPoints cX6_kingPoints 4 (some .int), Cond.methodLink RX6 325 yX4_enter, Cond.instanceMethod yX4_enter, Cond.selects RX4 yX4_enter yX4_enter, Cond.code yX4_enter cX4_enter 6 none, Cond.fieldLink RX4 27 "TarockHall$Sheet" "latest" "I", Cond.methodLink RX4 23 yX2_at, Cond.methodLink RX4 31 yX2_put, Cond.methodLink RX4 35 yX4_addScore, Cond.instanceMethod yX4_addScore, Cond.selects RX4 yX4_addScore yX4_addScore, Cond.code yX4_addScore cX4_addScore 2 none, Cond.methodLink RX6 328 yX4_giveRadli, Cond.instanceMethod yX4_giveRadli, Cond.selects RX4 yX4_giveRadli yX4_giveRadli, Cond.code yX4_giveRadli cX4_giveRadli 2 none, Cond.methodLink RL 104 yX7_play, Cond.instanceMethod yX7_play, Cond.selects RX7 yX7_play yX7_play, Cond.code yX7_play cX7_play 2 (some .int)]
def wsL_law0_r21 : List Cond := [Cond.methodLink RX7 174 yX7_isPlayable, Cond.instanceMethod yX7_isPlayable, Cond.selects RX7 yX7_isPlayable yX7_isPlayable, Cond.code yX7_isPlayable cX7_isPlayable 3 (some .boolean), Cond.methodLink RX7 137 yX7_suit, Cond.static yX7_suit, Cond.code yX7_suit cX7_suit 1 (some .int), Cond.methodLink RX7 140 yX7_hasSuit, Cond.static yX7_hasSuit, Cond.code yX7_hasSuit cX7_hasSuit 5 (some .boolean), Cond.methodLink RX7 177 yX7_plays, Cond.instanceMethod yX7_plays, Cond.selects RX7 yX7_plays yX7_plays, Cond.code yX7_plays cX7_plays 4 (some .int), Cond.methodLink RX7 152 yX7_best, Cond.instanceMethod yX7_best, Cond.selects RX7 yX7_best yX7_best, Cond.code yX7_best cX7_best 4 (some .int), Cond.methodLink RX7 164 yX7_pagatCount, Cond.instanceMethod yX7_pagatCount, Cond.selects RX7 yX7_pagatCount yX7_pagatCount, Cond.code yX7_pagatCount cX7_pagatCount 4 (some .int), Cond.methodLink RX7 149 yX7_placeOf, Cond.instanceMethod yX7_placeOf]
def wsL_law0_r22 : List Cond := [Cond.selects RX7 yX7_placeOf yX7_placeOf, Cond.code yX7_placeOf cX7_placeOf 3 (some .int), Cond.methodLink RX7 143 yX7_sideOf, Cond.instanceMethod yX7_sideOf, Cond.selects RX7 yX7_sideOf yX7_sideOf, Cond.code yX7_sideOf cX7_sideOf 2 (some .int), Cond.methodLink RX7 167 yX7_kingCount, Cond.instanceMethod yX7_kingCount, Cond.selects RX7 yX7_kingCount yX7_kingCount, Cond.code yX7_kingCount cX7_kingCount 3 (some .int), Cond.methodLink RX7 170 yX7_scores, Cond.instanceMethod yX7_scores, Cond.selects RX7 yX7_scores yX7_scores, Cond.code yX7_scores cX7_scores 4 none, Cond.fieldLink RX7 161 "TarockHallModel" "result" "I", Cond.methodLink RX7 155 yX7_counted, Cond.instanceMethod yX7_counted, Cond.selects RX7 yX7_counted yX7_counted, Cond.code yX7_counted cX7_counted 4 (some .int), Cond.methodLink RX7 146 yX7_cardsOf, Cond.instanceMethod yX7_cardsOf, Cond.selects RX7 yX7_cardsOf yX7_cardsOf, Cond.code yX7_cardsOf cX7_cardsOf 5 (some .long), Cond.methodLink RX7 158 yX7_gameCount]
def wsL_law0_r23 : List Cond := [Cond.instanceMethod yX7_gameCount, Cond.selects RX7 yX7_gameCount yX7_gameCount, Cond.code yX7_gameCount cX7_gameCount 4 (some .int), Cond.methodLink RL 105 yL_playLowest, Cond.static yL_playLowest, Cond.codeWith yL_playLowest cL_playLowest 4 (some .int) [(0, 9, 12, 13), (0, 9, 15, 15)], Cond.methodLink RL 37 yX6_playLowest, Cond.instanceMethod yX6_playLowest, Cond.selects RX6 yX6_playLowest yX6_playLowest, Cond.code yX6_playLowest cX6_playLowest 4 (some .int), Cond.methodLink RX6 235 yX6_lowestOf, Cond.static yX6_lowestOf, Cond.code yX6_lowestOf cX6_lowestOf 3 (some .int), Cond.methodLink RL 107 yX7_playLowest, Cond.instanceMethod yX7_playLowest, Cond.selects RX7 yX7_playLowest yX7_playLowest, Cond.code yX7_playLowest cX7_playLowest 5 (some .int), Cond.methodLink RL 108 yX6_phase, Cond.instanceMethod yX6_phase, Cond.selects RX6 yX6_phase yX6_phase, Cond.code yX6_phase cX6_phase 1 (some .int), Cond.methodLink RL 111 yX7_phase, Cond.instanceMethod yX7_phase, Cond.selects RX7 yX7_phase yX7_phase]
def wsL_law0_r24 : List Cond := [Cond.code yX7_phase cX7_phase 1 (some .int), Cond.methodLink RL 112 yX6_turn, Cond.instanceMethod yX6_turn, Cond.selects RX6 yX6_turn yX6_turn, Cond.code yX6_turn cX6_turn 1 (some .int), Cond.methodLink RL 115 yX7_turn, Cond.instanceMethod yX7_turn, Cond.selects RX7 yX7_turn yX7_turn, Cond.code yX7_turn cX7_turn 1 (some .int), Cond.methodLink RL 116 yX6_declarer, Cond.instanceMethod yX6_declarer, Cond.selects RX6 yX6_declarer yX6_declarer, Cond.code yX6_declarer cX6_declarer 1 (some .int), Cond.methodLink RL 119 yX7_declarer, Cond.instanceMethod yX7_declarer, Cond.selects RX7 yX7_declarer yX7_declarer, Cond.code yX7_declarer cX7_declarer 1 (some .int), Cond.methodLink RL 120 yX6_level, Cond.instanceMethod yX6_level, Cond.selects RX6 yX6_level yX6_level, Cond.code yX6_level cX6_level 1 (some .int), Cond.methodLink RL 123 yX7_level, Cond.instanceMethod yX7_level, Cond.selects RX7 yX7_level yX7_level]
def wsL_law0_r25 : List Cond := [Cond.code yX7_level cX7_level 1 (some .int), Cond.methodLink RL 124 yX6_called, Cond.instanceMethod yX6_called, Cond.selects RX6 yX6_called yX6_called, Cond.code yX6_called cX6_called 1 (some .int), Cond.methodLink RL 127 yX7_called, Cond.instanceMethod yX7_called, Cond.selects RX7 yX7_called yX7_called, Cond.code yX7_called cX7_called 1 (some .int), Cond.methodLink RL 128 yX6_partner, Cond.instanceMethod yX6_partner, Cond.selects RX6 yX6_partner yX6_partner, Cond.code yX6_partner cX6_partner 1 (some .int), Cond.methodLink RL 131 yX7_partner, Cond.instanceMethod yX7_partner, Cond.selects RX7 yX7_partner yX7_partner, Cond.code yX7_partner cX7_partner 1 (some .int), Cond.methodLink RL 132 yL_hand, Cond.static yL_hand, Cond.codeWith yL_hand cL_hand 4 (some .int) [(0, 8, 11, 23)], Cond.methodLink RL 40 yX6_hand, Cond.instanceMethod yX6_hand, Cond.selects RX6 yX6_hand yX6_hand, Cond.code yX6_hand cX6_hand 2 (some .long)]
def wsL_law0_r26 : List Cond := [Cond.methodLink RX6 239 yX6_isPlayer, Cond.static yX6_isPlayer, Cond.code yX6_isPlayer cX6_isPlayer 1 (some .boolean), Cond.methodLink RL 134 yX7_hand, Cond.instanceMethod yX7_hand, Cond.selects RX7 yX7_hand yX7_hand, Cond.code yX7_hand cX7_hand 2 (some .long), Cond.methodLink RX7 180 yX7_isPlayer, Cond.static yX7_isPlayer, Cond.code yX7_isPlayer cX7_isPlayer 1 (some .boolean), Cond.methodLink RL 135 yL_talonAt, Cond.static yL_talonAt, Cond.codeWith yL_talonAt cL_talonAt 4 (some .int) [(0, 9, 12, 23), (0, 9, 15, 15)], Cond.methodLink RL 44 yX6_talonAt, Cond.instanceMethod yX6_talonAt, Cond.selects RX6 yX6_talonAt yX6_talonAt, Cond.code yX6_talonAt cX6_talonAt 2 (some .int), Cond.methodLink RX6 248 yX1_cardAt, Cond.instanceMethod yX1_cardAt, Cond.selects RX1 yX1_cardAt yX1_cardAt, Cond.code yX1_cardAt cX1_cardAt 2 (some .int), Cond.methodLink RL 137 yX7_talonAt, Cond.instanceMethod yX7_talonAt, Cond.selects RX7 yX7_talonAt yX7_talonAt]
def wsL_law0_r27 : List Cond := [Cond.code yX7_talonAt cX7_talonAt 2 (some .int), Cond.methodLink RL 138 yX6_inTrick, Cond.instanceMethod yX6_inTrick, Cond.selects RX6 yX6_inTrick yX6_inTrick, Cond.code yX6_inTrick cX6_inTrick 1 (some .int), Cond.methodLink RL 141 yX7_inTrick, Cond.instanceMethod yX7_inTrick, Cond.selects RX7 yX7_inTrick yX7_inTrick, Cond.code yX7_inTrick cX7_inTrick 1 (some .int), Cond.methodLink RL 142 yL_trickAt, Cond.static yL_trickAt, Cond.codeWith yL_trickAt cL_trickAt 4 (some .int) [(0, 9, 12, 23)], Cond.methodLink RL 47 yX6_trickAt, Cond.instanceMethod yX6_trickAt, Cond.selects RX6 yX6_trickAt yX6_trickAt, Cond.code yX6_trickAt cX6_trickAt 2 (some .int), Cond.methodLink RX6 253 yX5_cardAt, Cond.instanceMethod yX5_cardAt, Cond.selects RX5 yX5_cardAt yX5_cardAt, Cond.code yX5_cardAt cX5_cardAt 2 (some .int), Cond.methodLink RL 144 yX7_trickAt, Cond.instanceMethod yX7_trickAt, Cond.selects RX7 yX7_trickAt yX7_trickAt, Cond.code yX7_trickAt cX7_trickAt 2 (some .int)]
def wsL_law0_r28 : List Cond := [Cond.methodLink RL 145 yL_canPlay, Cond.static yL_canPlay, Cond.codeWith yL_canPlay cL_canPlay 4 (some .int) [(0, 16, 19, 23)], Cond.methodLink RL 50 yX6_canPlay, Cond.instanceMethod yX6_canPlay, Cond.selects RX6 yX6_canPlay yX6_canPlay, Cond.code yX6_canPlay cX6_canPlay 2 (some .boolean), Cond.methodLink RL 147 yX7_canPlay, Cond.instanceMethod yX7_canPlay, Cond.selects RX7 yX7_canPlay yX7_canPlay, Cond.code yX7_canPlay cX7_canPlay 2 (some .boolean), Cond.methodLink RL 148 yX6_tricks, Cond.instanceMethod yX6_tricks, Cond.selects RX6 yX6_tricks yX6_tricks, Cond.code yX6_tricks cX6_tricks 1 (some .int), Cond.methodLink RL 151 yX7_tricks, Cond.instanceMethod yX7_tricks, Cond.selects RX7 yX7_tricks yX7_tricks, Cond.code yX7_tricks cX7_tricks 1 (some .int), Cond.methodLink RL 152 yL_valueOf, Cond.static yL_valueOf, Cond.codeWith yL_valueOf cL_valueOf 4 (some .int) [(0, 9, 12, 23)], Cond.methodLink RL 54 yX6_valueOf, Cond.instanceMethod yX6_valueOf]
def wsL_law0_r29 : List Cond := [Cond.selects RX6 yX6_valueOf yX6_valueOf, Cond.code yX6_valueOf cX6_valueOf 2 (some .int), Cond.methodLink RL 154 yX7_valueOf, Cond.instanceMethod yX7_valueOf, Cond.selects RX7 yX7_valueOf yX7_valueOf, Cond.code yX7_valueOf cX7_valueOf 2 (some .int), Cond.methodLink RL 155 yL_thirds, Cond.static yL_thirds, Cond.codeWith yL_thirds cL_thirds 4 (some .int) [(0, 9, 12, 23)], Cond.methodLink RL 57 yX6_thirds, Cond.instanceMethod yX6_thirds, Cond.selects RX6 yX6_thirds yX6_thirds, Cond.code yX6_thirds cX6_thirds 2 (some .int), Cond.methodLink RX6 257 yX6_isSide, Cond.static yX6_isSide, Cond.code yX6_isSide cX6_isSide 1 (some .boolean), Cond.methodLink RL 157 yX7_thirds, Cond.instanceMethod yX7_thirds, Cond.selects RX7 yX7_thirds yX7_thirds, Cond.code yX7_thirds cX7_thirds 2 (some .int), Cond.methodLink RL 158 yL_byPacks, Cond.static yL_byPacks, Cond.codeWith yL_byPacks cL_byPacks 4 (some .int) [(0, 9, 12, 23)], Cond.methodLink RL 60 yX6_byPacks]
def wsL_law0_r30 : List Cond := [Cond.instanceMethod yX6_byPacks, Cond.selects RX6 yX6_byPacks yX6_byPacks, Cond.code yX6_byPacks cX6_byPacks 2 (some .int), Cond.methodLink RX6 265 yX6_packPointsOf, Cond.static yX6_packPointsOf, Cond.code yX6_packPointsOf cX6_packPointsOf 6 (some .int), Cond.methodLink RL 160 yX7_byPacks, Cond.instanceMethod yX7_byPacks, Cond.selects RX7 yX7_byPacks yX7_byPacks, Cond.code yX7_byPacks cX7_byPacks 6 (some .int), Cond.methodLink RL 161 yL_score, Cond.static yL_score, Cond.codeWith yL_score cL_score 4 (some .int) [(0, 9, 12, 23)], Cond.methodLink RL 63 yX6_score, Cond.instanceMethod yX6_score, Cond.selects RX6 yX6_score yX6_score, Cond.code yX6_score cX6_score 2 (some .int), Cond.methodLink RX6 272 yX2_at, Cond.methodLink RL 163 yX7_score, Cond.instanceMethod yX7_score, Cond.selects RX7 yX7_score yX7_score, Cond.code yX7_score cX7_score 2 (some .int), Cond.methodLink RL 164 yL_radli, Cond.static yL_radli]
def wsL_law0_r31 : List Cond := [Cond.codeWith yL_radli cL_radli 4 (some .int) [(0, 9, 12, 23)], Cond.methodLink RL 66 yX6_radli, Cond.instanceMethod yX6_radli, Cond.selects RX6 yX6_radli yX6_radli, Cond.code yX6_radli cX6_radli 2 (some .int), Cond.methodLink RL 166 yX7_radli, Cond.instanceMethod yX7_radli, Cond.selects RX7 yX7_radli yX7_radli, Cond.code yX7_radli cX7_radli 2 (some .int), Cond.methodLink RL 167 yX6_result, Cond.instanceMethod yX6_result, Cond.selects RX6 yX6_result yX6_result, Cond.code yX6_result cX6_result 1 (some .int), Cond.methodLink RL 170 yX7_result, Cond.instanceMethod yX7_result, Cond.selects RX7 yX7_result yX7_result, Cond.code yX7_result cX7_result 1 (some .int), Cond.methodLink RL 171 yL_knows, Cond.static yL_knows, Cond.codeWith yL_knows cL_knows 5 (some .int) [(0, 10, 13, 23)], Cond.methodLink RL 69 yX6_knows, Cond.instanceMethod yX6_knows, Cond.selects RX6 yX6_knows yX6_knows, Cond.code yX6_knows cX6_knows 4 (some .int)]
def wsL_law0_r32 : List Cond := [Cond.methodLink RX6 282 yX6_sidesAreOpen, Cond.instanceMethod yX6_sidesAreOpen, Cond.selects RX6 yX6_sidesAreOpen yX6_sidesAreOpen, Cond.code yX6_sidesAreOpen cX6_sidesAreOpen 1 (some .boolean), Cond.methodLink RL 174 yX7_knows, Cond.instanceMethod yX7_knows, Cond.selects RX7 yX7_knows yX7_knows, Cond.code yX7_knows cX7_knows 4 (some .int)]
def wsL_law0 : List Cond := (wsL_law0_r1 ++ (wsL_law0_r2 ++ (wsL_law0_r3 ++ (wsL_law0_r4 ++ (wsL_law0_r5 ++ (wsL_law0_r6 ++ (wsL_law0_r7 ++ (wsL_law0_r8 ++ (wsL_law0_r9 ++ (wsL_law0_r10 ++ (wsL_law0_r11 ++ (wsL_law0_r12 ++ (wsL_law0_r13 ++ (wsL_law0_r14 ++ (wsL_law0_r15 ++ (wsL_law0_r16 ++ (wsL_law0_r17 ++ (wsL_law0_r18 ++ (wsL_law0_r19 ++ (wsL_law0_r20 ++ (wsL_law0_r21 ++ (wsL_law0_r22 ++ (wsL_law0_r23 ++ (wsL_law0_r24 ++ (wsL_law0_r25 ++ (wsL_law0_r26 ++ (wsL_law0_r27 ++ (wsL_law0_r28 ++ (wsL_law0_r29 ++ (wsL_law0_r30 ++ (wsL_law0_r31 ++ wsL_law0_r32))))))))))))))))))))))))))))))) ++ wsX60 ++ wsX70 ++ wsX10 ++ wsX00 ++ wsX50 ++ wsX40 ++ wsX30 ++ wsX20 ++ ([] : List Cond)
def wsL_law : List Cond := wsL_law0 ++ (vx_atS RX6 76 "java/lang/IllegalArgumentException" ["java/lang/RuntimeException", "java/lang/Exception"]).filter goodWord ++ (vx_atS RX6 83 "java/lang/IllegalStateException" ["java/lang/RuntimeException", "java/lang/Exception"]).filter goodWord ++ (vx_atS RX6 130 "java/lang/IndexOutOfBoundsException" ["java/lang/RuntimeException", "java/lang/Exception"]).filter goodWord
abbrev vwCl : List vw_C := [(RX0, TX0, 3), (RX1, TX1, 1), (RX2, TX2, 1), (RX3, TX3, 1), (RX4, TX4, 3), (RX5, TX5, 3), (RX6, TX6, 18), (RX7, TX7, 29)]
end
section
theorem tk_places {big ws : List Cond} (ps : List Nat) (h : ws = ps.filterMap (fun i => big[i]?)) : ∀ w ∈ ws, w ∈ big := by
  intro w hw
  rw [h] at hw
  obtain ⟨i, -, hi⟩ := List.mem_filterMap.mp hw
  exact List.mem_of_getElem? hi
theorem tk_app {big a b : List Cond} (ha : ∀ w ∈ a, w ∈ big) (hb : ∀ w ∈ b, w ∈ big) : ∀ w ∈ a ++ b, w ∈ big := fun w h => (List.mem_append.mp h).elim (ha w) (hb w)
theorem tk_nil {big : List Cond} : ∀ w ∈ ([] : List Cond), w ∈ big := fun _ h => nomatch h
set_option maxRecDepth 20000 in
theorem wsL_law0_r1_in : ∀ w ∈ wsL_law0_r1, w ∈ lw_tbl := tk_places [55, 56, 39, 750, 751, 47, 156, 57, 58, 59, 60, 61, 62, 63, 64, 40, 157, 87, 88, 43, 158, 105, 106, 44] rfl
set_option maxRecDepth 20000 in
theorem wsL_law0_r2_in : ∀ w ∈ wsL_law0_r2, w ∈ lw_tbl := tk_places [159, 124, 125, 45, 160, 145, 146, 46, 161, 162, 163, 164, 165, 166, 167, 168, 169, 65, 66, 67, 68, 69, 70, 41] rfl
set_option maxRecDepth 20000 in
theorem wsL_law0_r3_in : ∀ w ∈ wsL_law0_r3, w ∈ lw_tbl := tk_places [83, 71, 72, 73, 74, 75, 76, 42, 77, 82, 78, 89, 90, 91, 92, 96, 107, 108, 109, 110, 111, 113, 112, 126] rfl
set_option maxRecDepth 20000 in
theorem wsL_law0_r4_in : ∀ w ∈ wsL_law0_r4, w ∈ lw_tbl := tk_places [127, 128, 129, 130, 132, 134, 131, 147, 148, 149, 150, 151, 152, 752, 753, 754, 755, 757, 760, 761, 762, 844, 763, 766] rfl
set_option maxRecDepth 20000 in
theorem wsL_law0_r5_in : ∀ w ∈ wsL_law0_r5, w ∈ lw_tbl := tk_places [767, 768, 769, 770, 776, 777, 781, 782, 783, 248, 249, 38, 250, 251, 252, 253, 254, 255, 256, 258, 51, 326, 52, 257] rfl
set_option maxRecDepth 20000 in
theorem wsL_law0_r6_in : ∀ w ∈ wsL_law0_r6, w ∈ lw_tbl := tk_places [342, 343, 344, 345, 347, 1, 348, 170, 171, 173, 174, 349, 350, 351, 352, 93, 94, 353, 354, 355, 356, 114, 115, 357] rfl
set_option maxRecDepth 20000 in
theorem wsL_law0_r7_in : ∀ w ∈ wsL_law0_r7, w ∈ lw_tbl := tk_places [358, 359, 360, 361, 362, 363, 364, 369, 365, 366, 367, 368, 370, 372, 2, 373, 374, 375, 376, 377, 378, 380, 3, 381] rfl
set_option maxRecDepth 20000 in
theorem wsL_law0_r8_in : ∀ w ∈ wsL_law0_r8, w ∈ lw_tbl := tk_places [172, 382, 383, 384, 385, 387, 388, 849, 850, 851, 852, 853, 861, 758, 759, 764, 765, 771, 773, 774, 775, 778, 780, 854] rfl
set_option maxRecDepth 20000 in
theorem wsL_law0_r9_in : ∀ w ∈ wsL_law0_r9, w ∈ lw_tbl := tk_places [855, 856, 857, 859, 22, 860, 756, 862, 863, 864, 845, 846, 847, 848, 389, 390, 391, 392, 393, 394, 395, 399, 400, 401] rfl
set_option maxRecDepth 20000 in
theorem wsL_law0_r10_in : ∀ w ∈ wsL_law0_r10, w ∈ lw_tbl := tk_places [402, 403, 404, 405, 406, 407, 408, 53, 409, 410, 411, 412, 413, 415, 4, 416, 417, 418, 419, 420, 421, 423, 5, 424] rfl
set_option maxRecDepth 20000 in
theorem wsL_law0_r11_in : ∀ w ∈ wsL_law0_r11, w ∈ lw_tbl := tk_places [425, 427, 6, 428, 429, 430, 431, 432, 434, 436, 7, 437, 865, 866, 867, 868, 869, 871, 23, 872, 873, 875, 24, 876] rfl
set_option maxRecDepth 20000 in
theorem wsL_law0_r12_in : ∀ w ∈ wsL_law0_r12, w ∈ lw_tbl := tk_places [877, 879, 25, 880, 779, 438, 439, 440, 441, 442, 443, 444, 445, 446, 54, 463, 465, 8, 466, 467, 469, 9, 470, 471] rfl
set_option maxRecDepth 20000 in
theorem wsL_law0_r13_in : ∀ w ∈ wsL_law0_r13, w ∈ lw_tbl := tk_places [472, 473, 474, 475, 476, 477, 881, 882, 883, 884, 885, 887, 26, 888, 889, 890, 891, 478, 479, 480, 481, 482, 483, 484] rfl
set_option maxRecDepth 20000 in
theorem wsL_law0_r14_in : ∀ w ∈ wsL_law0_r14, w ∈ lw_tbl := tk_places [497, 485, 487, 10, 488, 489, 490, 491, 494, 495, 496, 892, 893, 894, 895, 772, 498, 499, 500, 501, 502, 503, 504, 505] rfl
set_option maxRecDepth 20000 in
theorem wsL_law0_r15_in : ∀ w ∈ wsL_law0_r15, w ∈ lw_tbl := tk_places [506, 507, 510, 511, 512, 513, 514, 515, 516, 517, 518, 520, 896, 897, 898, 899, 900, 901, 902, 903, 904, 905, 521, 522] rfl
set_option maxRecDepth 20000 in
theorem wsL_law0_r16_in : ∀ w ∈ wsL_law0_r16, w ∈ lw_tbl := tk_places [523, 524, 525, 526, 527, 530, 532, 11, 533, 536, 906, 907, 908, 909, 537, 538, 539, 540, 541, 542, 543, 544, 546, 12] rfl
set_option maxRecDepth 20000 in
theorem wsL_law0_r17_in : ∀ w ∈ wsL_law0_r17, w ∈ lw_tbl := tk_places [547, 548, 549, 550, 551, 552, 554, 555, 556, 557, 558, 559, 560, 561, 563, 565, 13, 566, 567, 568, 569, 570, 571, 572] rfl
set_option maxRecDepth 20000 in
theorem wsL_law0_r18_in : ∀ w ∈ wsL_law0_r18, w ∈ lw_tbl := tk_places [573, 574, 575, 576, 577, 578, 579, 581, 14, 582, 583, 585, 15, 586, 587, 589, 16, 590, 591, 592, 593, 594, 596, 598] rfl
set_option maxRecDepth 20000 in
theorem wsL_law0_r19_in : ∀ w ∈ wsL_law0_r19, w ∈ lw_tbl := tk_places [17, 599, 600, 601, 602, 603, 604, 605, 609, 610, 611, 606, 607, 608, 612, 613, 614, 615, 617, 18, 618, 619, 620, 621] rfl
set_option maxRecDepth 20000 in
theorem wsL_law0_r20_in : ∀ w ∈ wsL_law0_r20, w ∈ lw_tbl := tk_places [622, 623, 625, 19, 626, 627, 628, 629, 630, 136, 631, 632, 633, 635, 20, 636, 637, 638, 639, 640, 910, 911, 912, 913] rfl
set_option maxRecDepth 20000 in
theorem wsL_law0_r21_in : ∀ w ∈ wsL_law0_r21, w ∈ lw_tbl := tk_places [914, 916, 27, 917, 918, 919, 920, 921, 922, 923, 924, 926, 28, 927, 928, 930, 29, 931, 932, 934, 30, 935, 936, 938] rfl
set_option maxRecDepth 20000 in
theorem wsL_law0_r22_in : ∀ w ∈ wsL_law0_r22, w ∈ lw_tbl := tk_places [31, 939, 940, 942, 32, 943, 944, 946, 33, 947, 948, 950, 34, 951, 784, 952, 954, 35, 955, 956, 958, 36, 959, 960] rfl
set_option maxRecDepth 20000 in
theorem wsL_law0_r23_in : ∀ w ∈ wsL_law0_r23, w ∈ lw_tbl := tk_places [962, 37, 963, 641, 642, 643, 644, 645, 646, 647, 650, 651, 652, 964, 965, 966, 967, 212, 213, 214, 215, 968, 969, 970] rfl
set_option maxRecDepth 20000 in
theorem wsL_law0_r24_in : ∀ w ∈ wsL_law0_r24, w ∈ lw_tbl := tk_places [971, 216, 217, 218, 219, 972, 973, 974, 975, 220, 221, 222, 223, 976, 977, 978, 979, 224, 225, 226, 227, 980, 981, 982] rfl
set_option maxRecDepth 20000 in
theorem wsL_law0_r25_in : ∀ w ∈ wsL_law0_r25, w ∈ lw_tbl := tk_places [983, 228, 229, 230, 231, 984, 985, 986, 987, 232, 233, 234, 235, 988, 989, 990, 991, 653, 654, 655, 656, 657, 658, 659] rfl
set_option maxRecDepth 20000 in
theorem wsL_law0_r26_in : ∀ w ∈ wsL_law0_r26, w ∈ lw_tbl := tk_places [660, 661, 662, 992, 993, 994, 995, 996, 997, 998, 664, 665, 666, 667, 668, 669, 670, 673, 674, 675, 676, 999, 1000, 1001] rfl
set_option maxRecDepth 20000 in
theorem wsL_law0_r27_in : ∀ w ∈ wsL_law0_r27, w ∈ lw_tbl := tk_places [1002, 236, 237, 238, 239, 1003, 1004, 1005, 1006, 677, 678, 679, 680, 681, 682, 683, 685, 686, 687, 688, 1007, 1008, 1009, 1010] rfl
set_option maxRecDepth 20000 in
theorem wsL_law0_r28_in : ∀ w ∈ wsL_law0_r28, w ∈ lw_tbl := tk_places [689, 690, 691, 692, 693, 694, 695, 1011, 1012, 1013, 1014, 240, 241, 242, 243, 1015, 1016, 1017, 1018, 696, 697, 698, 699, 700] rfl
set_option maxRecDepth 20000 in
theorem wsL_law0_r29_in : ∀ w ∈ wsL_law0_r29, w ∈ lw_tbl := tk_places [701, 702, 1019, 1020, 1021, 1022, 703, 704, 705, 706, 707, 708, 709, 710, 711, 712, 1023, 1024, 1025, 1026, 714, 715, 716, 717] rfl
set_option maxRecDepth 20000 in
theorem wsL_law0_r30_in : ∀ w ∈ wsL_law0_r30, w ∈ lw_tbl := tk_places [718, 719, 720, 721, 722, 723, 1027, 1028, 1029, 1030, 724, 725, 726, 727, 728, 729, 730, 731, 1031, 1032, 1033, 1034, 732, 733] rfl
set_option maxRecDepth 20000 in
theorem wsL_law0_r31_in : ∀ w ∈ wsL_law0_r31, w ∈ lw_tbl := tk_places [734, 735, 736, 737, 738, 1035, 1036, 1037, 1038, 244, 245, 246, 247, 1039, 1040, 1041, 1042, 739, 740, 741, 742, 743, 744, 745] rfl
set_option maxRecDepth 20000 in
theorem wsL_law0_r32_in : ∀ w ∈ wsL_law0_r32, w ∈ lw_tbl := tk_places [746, 748, 21, 749, 1043, 1044, 1045, 1046] rfl
set_option maxRecDepth 20000 in
theorem wsX60_in : ∀ w ∈ wsX60, w ∈ lw_tbl := tk_places [175, 177, 179, 181, 183, 185, 187, 189, 191, 193, 195, 197, 199, 201, 203, 205, 207, 209] rfl
set_option maxRecDepth 20000 in
theorem wsX70_in : ∀ w ∈ wsX70, w ∈ lw_tbl := tk_places [785, 787, 789, 791, 793, 795, 797, 799, 801, 803, 805, 807, 809, 811, 813, 815, 817, 819, 821, 823, 825, 827, 829, 831, 833, 835, 837, 839, 841] rfl
set_option maxRecDepth 20000 in
theorem wsX10_in : ∀ w ∈ wsX10, w ∈ lw_tbl := tk_places [84] rfl
set_option maxRecDepth 20000 in
theorem wsX00_in : ∀ w ∈ wsX00, w ∈ lw_tbl := tk_places [98, 100, 102] rfl
set_option maxRecDepth 20000 in
theorem wsX50_in : ∀ w ∈ wsX50, w ∈ lw_tbl := tk_places [117, 119, 121] rfl
set_option maxRecDepth 20000 in
theorem wsX40_in : ∀ w ∈ wsX40, w ∈ lw_tbl := tk_places [138, 140, 142] rfl
set_option maxRecDepth 20000 in
theorem wsX30_in : ∀ w ∈ wsX30, w ∈ lw_tbl := tk_places [153] rfl
set_option maxRecDepth 20000 in
theorem wsX20_in : ∀ w ∈ wsX20, w ∈ lw_tbl := tk_places [79] rfl
theorem wsL_law_in0 : ∀ w ∈ wsL_law0, w ∈ lw_tbl := (tk_app (tk_app (tk_app (tk_app (tk_app (tk_app (tk_app (tk_app (tk_app (tk_app wsL_law0_r1_in (tk_app wsL_law0_r2_in (tk_app wsL_law0_r3_in (tk_app wsL_law0_r4_in (tk_app wsL_law0_r5_in (tk_app wsL_law0_r6_in (tk_app wsL_law0_r7_in (tk_app wsL_law0_r8_in (tk_app wsL_law0_r9_in (tk_app wsL_law0_r10_in (tk_app wsL_law0_r11_in (tk_app wsL_law0_r12_in (tk_app wsL_law0_r13_in (tk_app wsL_law0_r14_in (tk_app wsL_law0_r15_in (tk_app wsL_law0_r16_in (tk_app wsL_law0_r17_in (tk_app wsL_law0_r18_in (tk_app wsL_law0_r19_in (tk_app wsL_law0_r20_in (tk_app wsL_law0_r21_in (tk_app wsL_law0_r22_in (tk_app wsL_law0_r23_in (tk_app wsL_law0_r24_in (tk_app wsL_law0_r25_in (tk_app wsL_law0_r26_in (tk_app wsL_law0_r27_in (tk_app wsL_law0_r28_in (tk_app wsL_law0_r29_in (tk_app wsL_law0_r30_in (tk_app wsL_law0_r31_in wsL_law0_r32_in))))))))))))))))))))))))))))))) wsX60_in) wsX70_in) wsX10_in) wsX00_in) wsX50_in) wsX40_in) wsX30_in) wsX20_in) tk_nil)
end
section
theorem wsL_law_x0 : ∀ w ∈ (vx_atS RX6 76 "java/lang/IllegalArgumentException" ["java/lang/RuntimeException", "java/lang/Exception"]).filter goodWord, w ∈ lw_tbl := by decide +kernel
theorem wsL_law_x1 : ∀ w ∈ (vx_atS RX6 83 "java/lang/IllegalStateException" ["java/lang/RuntimeException", "java/lang/Exception"]).filter goodWord, w ∈ lw_tbl := by decide +kernel
theorem wsL_law_x2 : ∀ w ∈ (vx_atS RX6 130 "java/lang/IndexOutOfBoundsException" ["java/lang/RuntimeException", "java/lang/Exception"]).filter goodWord, w ∈ lw_tbl := by decide +kernel
theorem wsL_law_in : ∀ w ∈ wsL_law, w ∈ lw_tbl := fun w h => (List.mem_append.mp h).elim (fun h => (List.mem_append.mp h).elim (fun h => (List.mem_append.mp h).elim (fun h => wsL_law_in0 w h) (fun h => wsL_law_x0 w h)) (fun h => wsL_law_x1 w h)) (fun h => wsL_law_x2 w h)
theorem inlX0 : ∀ w ∈ wsX00, w ∈ wsL_law := fun _ h => List.mem_append_left _ (List.mem_append_left _ (List.mem_append_left _ (List.mem_append_left _ (List.mem_append_left _ (List.mem_append_left _ (List.mem_append_left _ (List.mem_append_left _ (List.mem_append_right _ h))))))))
theorem inX0 : ∀ w ∈ wsX00, w ∈ lw_tbl := fun w h => wsL_law_in w (inlX0 w h)
theorem inlX1 : ∀ w ∈ wsX10, w ∈ wsL_law := fun _ h => List.mem_append_left _ (List.mem_append_left _ (List.mem_append_left _ (List.mem_append_left _ (List.mem_append_left _ (List.mem_append_left _ (List.mem_append_left _ (List.mem_append_left _ (List.mem_append_left _ (List.mem_append_right _ h)))))))))
theorem inX1 : ∀ w ∈ wsX10, w ∈ lw_tbl := fun w h => wsL_law_in w (inlX1 w h)
theorem inlX2 : ∀ w ∈ wsX20, w ∈ wsL_law := fun _ h => List.mem_append_left _ (List.mem_append_left _ (List.mem_append_left _ (List.mem_append_left _ (List.mem_append_right _ h))))
theorem inX2 : ∀ w ∈ wsX20, w ∈ lw_tbl := fun w h => wsL_law_in w (inlX2 w h)
theorem inlX3 : ∀ w ∈ wsX30, w ∈ wsL_law := fun _ h => List.mem_append_left _ (List.mem_append_left _ (List.mem_append_left _ (List.mem_append_left _ (List.mem_append_left _ (List.mem_append_right _ h)))))
theorem inX3 : ∀ w ∈ wsX30, w ∈ lw_tbl := fun w h => wsL_law_in w (inlX3 w h)
theorem inlX4 : ∀ w ∈ wsX40, w ∈ wsL_law := fun _ h => List.mem_append_left _ (List.mem_append_left _ (List.mem_append_left _ (List.mem_append_left _ (List.mem_append_left _ (List.mem_append_left _ (List.mem_append_right _ h))))))
theorem inX4 : ∀ w ∈ wsX40, w ∈ lw_tbl := fun w h => wsL_law_in w (inlX4 w h)
theorem inlX5 : ∀ w ∈ wsX50, w ∈ wsL_law := fun _ h => List.mem_append_left _ (List.mem_append_left _ (List.mem_append_left _ (List.mem_append_left _ (List.mem_append_left _ (List.mem_append_left _ (List.mem_append_left _ (List.mem_append_right _ h)))))))
theorem inX5 : ∀ w ∈ wsX50, w ∈ lw_tbl := fun w h => wsL_law_in w (inlX5 w h)
theorem inlX6 : ∀ w ∈ wsX60, w ∈ wsL_law := fun _ h => List.mem_append_left _ (List.mem_append_left _ (List.mem_append_left _ (List.mem_append_left _ (List.mem_append_left _ (List.mem_append_left _ (List.mem_append_left _ (List.mem_append_left _ (List.mem_append_left _ (List.mem_append_left _ (List.mem_append_left _ (List.mem_append_right _ h)))))))))))
theorem inX6 : ∀ w ∈ wsX60, w ∈ lw_tbl := fun w h => wsL_law_in w (inlX6 w h)
theorem inlX7 : ∀ w ∈ wsX70, w ∈ wsL_law := fun _ h => List.mem_append_left _ (List.mem_append_left _ (List.mem_append_left _ (List.mem_append_left _ (List.mem_append_left _ (List.mem_append_left _ (List.mem_append_left _ (List.mem_append_left _ (List.mem_append_left _ (List.mem_append_left _ (List.mem_append_right _ h))))))))))
theorem inX7 : ∀ w ∈ wsX70, w ∈ lw_tbl := fun w h => wsL_law_in w (inlX7 w h)
theorem inJ6 : ∀ w ∈ wsJ60, w ∈ lw_tbl := by decide +kernel
theorem inJ9 : ∀ w ∈ wsJ90, w ∈ lw_tbl := by decide +kernel
theorem inJ0 : ∀ w ∈ wsJ00, w ∈ lw_tbl := by decide +kernel
end
section
theorem dX0_init_0 : decode cX0_init 0 = .ok (.aload_n 0, 1) := by decide +kernel
theorem dX0_init_1 : decode cX0_init 1 = .ok (.invokespecial 3, 3) := by decide +kernel
theorem dX0_init_4 : decode cX0_init 4 = .ok (.aload_n 0, 1) := by decide +kernel
theorem dX0_init_5 : decode cX0_init 5 = .ok (.iconst (-1), 1) := by decide +kernel
theorem dX0_init_6 : decode cX0_init 6 = .ok (.putfield 9, 3) := by decide +kernel
theorem dX0_init_9 : decode cX0_init 9 = .ok (.return_, 1) := by decide +kernel
theorem dX0_clear_0 : decode cX0_clear 0 = .ok (.aload_n 0, 1) := by decide +kernel
theorem dX0_clear_1 : decode cX0_clear 1 = .ok (.iconst 0, 1) := by decide +kernel
theorem dX0_clear_2 : decode cX0_clear 2 = .ok (.putfield 15, 3) := by decide +kernel
theorem dX0_clear_5 : decode cX0_clear 5 = .ok (.aload_n 0, 1) := by decide +kernel
theorem dX0_clear_6 : decode cX0_clear 6 = .ok (.iconst 0, 1) := by decide +kernel
theorem dX0_clear_7 : decode cX0_clear 7 = .ok (.putfield 18, 3) := by decide +kernel
theorem dX0_clear_10 : decode cX0_clear 10 = .ok (.aload_n 0, 1) := by decide +kernel
theorem dX0_clear_11 : decode cX0_clear 11 = .ok (.iconst (-1), 1) := by decide +kernel
theorem dX0_clear_12 : decode cX0_clear 12 = .ok (.putfield 9, 3) := by decide +kernel
theorem dX0_clear_15 : decode cX0_clear 15 = .ok (.return_, 1) := by decide +kernel
theorem dX0_enter_0 : decode cX0_enter 0 = .ok (.iload_n 2, 1) := by decide +kernel
theorem dX0_enter_1 : decode cX0_enter 1 = .ok (.ifCond .ne 18, 3) := by decide +kernel
theorem dX0_enter_4 : decode cX0_enter 4 = .ok (.aload_n 0, 1) := by decide +kernel
theorem dX0_enter_5 : decode cX0_enter 5 = .ok (.dup, 1) := by decide +kernel
theorem dX0_enter_6 : decode cX0_enter 6 = .ok (.getfield 15, 3) := by decide +kernel
theorem dX0_enter_9 : decode cX0_enter 9 = .ok (.iconst 1, 1) := by decide +kernel
theorem dX0_enter_10 : decode cX0_enter 10 = .ok (.iload_n 1, 1) := by decide +kernel
theorem dX0_enter_11 : decode cX0_enter 11 = .ok (.ishl, 1) := by decide +kernel
theorem dX0_enter_12 : decode cX0_enter 12 = .ok (.ior, 1) := by decide +kernel
theorem dX0_enter_13 : decode cX0_enter 13 = .ok (.putfield 15, 3) := by decide +kernel
theorem dX0_enter_16 : decode cX0_enter 16 = .ok (.goto 13, 3) := by decide +kernel
theorem dX0_enter_19 : decode cX0_enter 19 = .ok (.aload_n 0, 1) := by decide +kernel
theorem dX0_enter_20 : decode cX0_enter 20 = .ok (.iload_n 2, 1) := by decide +kernel
theorem dX0_enter_21 : decode cX0_enter 21 = .ok (.putfield 18, 3) := by decide +kernel
theorem dX0_enter_24 : decode cX0_enter 24 = .ok (.aload_n 0, 1) := by decide +kernel
theorem dX0_enter_25 : decode cX0_enter 25 = .ok (.iload_n 1, 1) := by decide +kernel
theorem dX0_enter_26 : decode cX0_enter 26 = .ok (.putfield 9, 3) := by decide +kernel
theorem dX0_enter_29 : decode cX0_enter 29 = .ok (.return_, 1) := by decide +kernel
set_option maxRecDepth 20000 in
theorem ggX0_allPassed_J6_bitCount_0f7a4 : GoodIn wsX0_allPassed wsJ6_bitCount_0f7a4 := goodIn_r _ [5, 6, 7, 8] (by decide +kernel) (by decide +kernel)
set_option maxRecDepth 20000 in
theorem gX0_allPassed_J6_bitCount_0f7a4 : GoodIn wsX0_allPassed (va_wsS RX0 21 yJ6_bitCount_0f7a4 wsJ6_bitCount_0f7a4) := goodIn_app (goodIn_of _ (by decide +kernel)) ggX0_allPassed_J6_bitCount_0f7a4
theorem dX0_allPassed_0 : decode cX0_allPassed 0 = .ok (.aload_n 0, 1) := by decide +kernel
theorem dX0_allPassed_1 : decode cX0_allPassed 1 = .ok (.getfield 15, 3) := by decide +kernel
theorem dX0_allPassed_4 : decode cX0_allPassed 4 = .ok (.invokestatic 21, 3) := by decide +kernel
theorem dX0_allPassed_7 : decode cX0_allPassed 7 = .ok (.iconst 4, 1) := by decide +kernel
theorem dX0_allPassed_8 : decode cX0_allPassed 8 = .ok (.if_icmp .ne 7, 3) := by decide +kernel
theorem dX0_allPassed_11 : decode cX0_allPassed 11 = .ok (.iconst 1, 1) := by decide +kernel
theorem dX0_allPassed_12 : decode cX0_allPassed 12 = .ok (.goto 4, 3) := by decide +kernel
theorem dX0_allPassed_15 : decode cX0_allPassed 15 = .ok (.iconst 0, 1) := by decide +kernel
theorem dX0_allPassed_16 : decode cX0_allPassed 16 = .ok (.ireturn, 1) := by decide +kernel
set_option maxRecDepth 20000 in
theorem ggX0_isSettled_J6_bitCount_0f7a4 : GoodIn wsX0_isSettled wsJ6_bitCount_0f7a4 := goodIn_r _ [6, 7, 8, 9] (by decide +kernel) (by decide +kernel)
set_option maxRecDepth 20000 in
theorem gX0_isSettled_J6_bitCount_0f7a4 : GoodIn wsX0_isSettled (va_wsS RX0 21 yJ6_bitCount_0f7a4 wsJ6_bitCount_0f7a4) := goodIn_app (goodIn_of _ (by decide +kernel)) ggX0_isSettled_J6_bitCount_0f7a4
theorem dX0_isSettled_0 : decode cX0_isSettled 0 = .ok (.aload_n 0, 1) := by decide +kernel
theorem dX0_isSettled_1 : decode cX0_isSettled 1 = .ok (.getfield 9, 3) := by decide +kernel
theorem dX0_isSettled_4 : decode cX0_isSettled 4 = .ok (.iconst (-1), 1) := by decide +kernel
theorem dX0_isSettled_5 : decode cX0_isSettled 5 = .ok (.if_icmp .eq 18, 3) := by decide +kernel
theorem dX0_isSettled_8 : decode cX0_isSettled 8 = .ok (.aload_n 0, 1) := by decide +kernel
theorem dX0_isSettled_9 : decode cX0_isSettled 9 = .ok (.getfield 15, 3) := by decide +kernel
theorem dX0_isSettled_12 : decode cX0_isSettled 12 = .ok (.invokestatic 21, 3) := by decide +kernel
theorem dX0_isSettled_15 : decode cX0_isSettled 15 = .ok (.iconst 3, 1) := by decide +kernel
theorem dX0_isSettled_16 : decode cX0_isSettled 16 = .ok (.if_icmp .ne 7, 3) := by decide +kernel
theorem dX0_isSettled_19 : decode cX0_isSettled 19 = .ok (.iconst 1, 1) := by decide +kernel
theorem dX0_isSettled_20 : decode cX0_isSettled 20 = .ok (.goto 4, 3) := by decide +kernel
theorem dX0_isSettled_23 : decode cX0_isSettled 23 = .ok (.iconst 0, 1) := by decide +kernel
theorem dX0_isSettled_24 : decode cX0_isSettled 24 = .ok (.ireturn, 1) := by decide +kernel
set_option maxRecDepth 20000 in
theorem ggX0_nextBehind_X6_behind : GoodIn wsX0_nextBehind wsX6_behind := goodIn_r _ [3] (by decide +kernel) (by decide +kernel)
set_option maxRecDepth 20000 in
theorem gX0_nextBehind_X6_behind_n27 : GoodIn wsX0_nextBehind (wsX6_behind) := ggX0_nextBehind_X6_behind
set_option maxRecDepth 20000 in
theorem ggX0_nextBehind_X0_hasPassed : GoodIn wsX0_nextBehind wsX0_hasPassed := goodIn_r _ [8, 9, 10, 11, 12] (by decide +kernel) (by decide +kernel)
set_option maxRecDepth 20000 in
theorem gX0_nextBehind_X0_hasPassed : GoodIn wsX0_nextBehind (wsV RX0 30 RX0 yX0_hasPassed wsX0_hasPassed) := goodIn_app (goodIn_of _ (by decide +kernel)) ggX0_nextBehind_X0_hasPassed
theorem dX0_nextBehind_0 : decode cX0_nextBehind 0 = .ok (.iload_n 1, 1) := by decide +kernel
theorem dX0_nextBehind_1 : decode cX0_nextBehind 1 = .ok (.invokestatic 27, 3) := by decide +kernel
theorem dX0_nextBehind_4 : decode cX0_nextBehind 4 = .ok (.istore_n 2, 1) := by decide +kernel
theorem dX0_nextBehind_5 : decode cX0_nextBehind 5 = .ok (.iconst 1, 1) := by decide +kernel
theorem dX0_nextBehind_6 : decode cX0_nextBehind 6 = .ok (.istore_n 3, 1) := by decide +kernel
theorem dX0_nextBehind_7 : decode cX0_nextBehind 7 = .ok (.iload_n 3, 1) := by decide +kernel
theorem dX0_nextBehind_8 : decode cX0_nextBehind 8 = .ok (.iconst 4, 1) := by decide +kernel
theorem dX0_nextBehind_9 : decode cX0_nextBehind 9 = .ok (.if_icmp .ge 22, 3) := by decide +kernel
theorem dX0_nextBehind_12 : decode cX0_nextBehind 12 = .ok (.aload_n 0, 1) := by decide +kernel
theorem dX0_nextBehind_13 : decode cX0_nextBehind 13 = .ok (.iload_n 2, 1) := by decide +kernel
theorem dX0_nextBehind_14 : decode cX0_nextBehind 14 = .ok (.invokevirtual 30, 3) := by decide +kernel
theorem dX0_nextBehind_17 : decode cX0_nextBehind 17 = .ok (.ifCond .eq 14, 3) := by decide +kernel
theorem dX0_nextBehind_20 : decode cX0_nextBehind 20 = .ok (.iload_n 2, 1) := by decide +kernel
theorem dX0_nextBehind_21 : decode cX0_nextBehind 21 = .ok (.invokestatic 27, 3) := by decide +kernel
theorem dX0_nextBehind_24 : decode cX0_nextBehind 24 = .ok (.istore_n 2, 1) := by decide +kernel
theorem dX0_nextBehind_25 : decode cX0_nextBehind 25 = .ok (.iinc 3 1, 3) := by decide +kernel
theorem dX0_nextBehind_28 : decode cX0_nextBehind 28 = .ok (.goto (-21), 3) := by decide +kernel
theorem dX0_nextBehind_31 : decode cX0_nextBehind 31 = .ok (.iload_n 2, 1) := by decide +kernel
theorem dX0_nextBehind_32 : decode cX0_nextBehind 32 = .ok (.ireturn, 1) := by decide +kernel
theorem dX0_hasPassed_0 : decode cX0_hasPassed 0 = .ok (.aload_n 0, 1) := by decide +kernel
theorem dX0_hasPassed_1 : decode cX0_hasPassed 1 = .ok (.getfield 15, 3) := by decide +kernel
theorem dX0_hasPassed_4 : decode cX0_hasPassed 4 = .ok (.iload_n 1, 1) := by decide +kernel
theorem dX0_hasPassed_5 : decode cX0_hasPassed 5 = .ok (.ishr, 1) := by decide +kernel
theorem dX0_hasPassed_6 : decode cX0_hasPassed 6 = .ok (.iconst 1, 1) := by decide +kernel
theorem dX0_hasPassed_7 : decode cX0_hasPassed 7 = .ok (.iand, 1) := by decide +kernel
theorem dX0_hasPassed_8 : decode cX0_hasPassed 8 = .ok (.iconst 1, 1) := by decide +kernel
theorem dX0_hasPassed_9 : decode cX0_hasPassed 9 = .ok (.if_icmp .ne 7, 3) := by decide +kernel
theorem dX0_hasPassed_12 : decode cX0_hasPassed 12 = .ok (.iconst 1, 1) := by decide +kernel
theorem dX0_hasPassed_13 : decode cX0_hasPassed 13 = .ok (.goto 4, 3) := by decide +kernel
theorem dX0_hasPassed_16 : decode cX0_hasPassed 16 = .ok (.iconst 0, 1) := by decide +kernel
theorem dX0_hasPassed_17 : decode cX0_hasPassed 17 = .ok (.ireturn, 1) := by decide +kernel
set_option maxRecDepth 20000 in
theorem ggX1_init_X2_init : GoodIn wsX1_init wsX2_init := goodIn_r _ [10, 11, 2, 3, 12, 13, 14, 15, 16, 17, 18] (by decide +kernel) (by decide +kernel)
set_option maxRecDepth 20000 in
theorem gX1_init_X2_init : GoodIn wsX1_init (wsX2_init) := ggX1_init_X2_init
theorem dX1_init_0 : decode cX1_init 0 = .ok (.aload_n 0, 1) := by decide +kernel
theorem dX1_init_1 : decode cX1_init 1 = .ok (.invokespecial 3, 3) := by decide +kernel
theorem dX1_init_4 : decode cX1_init 4 = .ok (.aload_n 0, 1) := by decide +kernel
theorem dX1_init_5 : decode cX1_init 5 = .ok (.new 9, 3) := by decide +kernel
theorem dX1_init_8 : decode cX1_init 8 = .ok (.dup, 1) := by decide +kernel
theorem dX1_init_9 : decode cX1_init 9 = .ok (.bipush 54, 2) := by decide +kernel
theorem dX1_init_11 : decode cX1_init 11 = .ok (.invokespecial 11, 3) := by decide +kernel
theorem dX1_init_14 : decode cX1_init 14 = .ok (.putfield 14, 3) := by decide +kernel
theorem dX1_init_17 : decode cX1_init 17 = .ok (.return_, 1) := by decide +kernel
set_option maxRecDepth 20000 in
theorem ggX1_shuffle_X2_put : GoodIn wsX1_shuffle wsX2_put := goodIn_r _ [7, 8, 19] (by decide +kernel) (by decide +kernel)
set_option maxRecDepth 20000 in
theorem gX1_shuffle_X2_put : GoodIn wsX1_shuffle (wsV RX1 20 RX2 yX2_put wsX2_put) := goodIn_app (goodIn_of _ (by decide +kernel)) ggX1_shuffle_X2_put
set_option maxRecDepth 20000 in
theorem ggX1_shuffle_X1_swap : GoodIn wsX1_shuffle wsX1_swap := goodIn_r _ [13, 1, 14, 15, 16, 6, 17, 8, 3, 4, 5, 7, 18, 19] (by decide +kernel) (by decide +kernel)
set_option maxRecDepth 20000 in
theorem gX1_shuffle_X1_swap : GoodIn wsX1_shuffle (wsV RX1 25 RX1 yX1_swap wsX1_swap) := goodIn_app (goodIn_of _ (by decide +kernel)) ggX1_shuffle_X1_swap
theorem dX1_shuffle_0 : decode cX1_shuffle 0 = .ok (.iconst 0, 1) := by decide +kernel
theorem dX1_shuffle_1 : decode cX1_shuffle 1 = .ok (.istore_n 2, 1) := by decide +kernel
theorem dX1_shuffle_2 : decode cX1_shuffle 2 = .ok (.iload_n 2, 1) := by decide +kernel
theorem dX1_shuffle_3 : decode cX1_shuffle 3 = .ok (.bipush 54, 2) := by decide +kernel
theorem dX1_shuffle_5 : decode cX1_shuffle 5 = .ok (.if_icmp .ge 18, 3) := by decide +kernel
theorem dX1_shuffle_8 : decode cX1_shuffle 8 = .ok (.aload_n 0, 1) := by decide +kernel
theorem dX1_shuffle_9 : decode cX1_shuffle 9 = .ok (.getfield 14, 3) := by decide +kernel
theorem dX1_shuffle_12 : decode cX1_shuffle 12 = .ok (.iload_n 2, 1) := by decide +kernel
theorem dX1_shuffle_13 : decode cX1_shuffle 13 = .ok (.iload_n 2, 1) := by decide +kernel
theorem dX1_shuffle_14 : decode cX1_shuffle 14 = .ok (.invokevirtual 20, 3) := by decide +kernel
theorem dX1_shuffle_17 : decode cX1_shuffle 17 = .ok (.iinc 2 1, 3) := by decide +kernel
theorem dX1_shuffle_20 : decode cX1_shuffle 20 = .ok (.goto (-18), 3) := by decide +kernel
theorem dX1_shuffle_23 : decode cX1_shuffle 23 = .ok (.iload_n 1, 1) := by decide +kernel
theorem dX1_shuffle_24 : decode cX1_shuffle 24 = .ok (.istore_n 2, 1) := by decide +kernel
theorem dX1_shuffle_25 : decode cX1_shuffle 25 = .ok (.bipush 53, 2) := by decide +kernel
theorem dX1_shuffle_27 : decode cX1_shuffle 27 = .ok (.istore_n 3, 1) := by decide +kernel
theorem dX1_shuffle_28 : decode cX1_shuffle 28 = .ok (.iload_n 3, 1) := by decide +kernel
theorem dX1_shuffle_29 : decode cX1_shuffle 29 = .ok (.iconst 1, 1) := by decide +kernel
theorem dX1_shuffle_30 : decode cX1_shuffle 30 = .ok (.if_icmp .lt 32, 3) := by decide +kernel
theorem dX1_shuffle_33 : decode cX1_shuffle 33 = .ok (.sipush 25173, 3) := by decide +kernel
theorem dX1_shuffle_36 : decode cX1_shuffle 36 = .ok (.iload_n 2, 1) := by decide +kernel
theorem dX1_shuffle_37 : decode cX1_shuffle 37 = .ok (.imul, 1) := by decide +kernel
theorem dX1_shuffle_38 : decode cX1_shuffle 38 = .ok (.sipush 13849, 3) := by decide +kernel
theorem dX1_shuffle_41 : decode cX1_shuffle 41 = .ok (.iadd, 1) := by decide +kernel
theorem dX1_shuffle_42 : decode cX1_shuffle 42 = .ok (.ldc 24, 2) := by decide +kernel
theorem dX1_shuffle_44 : decode cX1_shuffle 44 = .ok (.irem, 1) := by decide +kernel
theorem dX1_shuffle_45 : decode cX1_shuffle 45 = .ok (.istore_n 2, 1) := by decide +kernel
theorem dX1_shuffle_46 : decode cX1_shuffle 46 = .ok (.aload_n 0, 1) := by decide +kernel
theorem dX1_shuffle_47 : decode cX1_shuffle 47 = .ok (.iload_n 3, 1) := by decide +kernel
theorem dX1_shuffle_48 : decode cX1_shuffle 48 = .ok (.iload_n 2, 1) := by decide +kernel
theorem dX1_shuffle_49 : decode cX1_shuffle 49 = .ok (.iload_n 3, 1) := by decide +kernel
theorem dX1_shuffle_50 : decode cX1_shuffle 50 = .ok (.iconst 1, 1) := by decide +kernel
theorem dX1_shuffle_51 : decode cX1_shuffle 51 = .ok (.iadd, 1) := by decide +kernel
theorem dX1_shuffle_52 : decode cX1_shuffle 52 = .ok (.irem, 1) := by decide +kernel
theorem dX1_shuffle_53 : decode cX1_shuffle 53 = .ok (.invokevirtual 25, 3) := by decide +kernel
theorem dX1_shuffle_56 : decode cX1_shuffle 56 = .ok (.iinc 3 (-1), 3) := by decide +kernel
theorem dX1_shuffle_59 : decode cX1_shuffle 59 = .ok (.goto (-31), 3) := by decide +kernel
theorem dX1_shuffle_62 : decode cX1_shuffle 62 = .ok (.return_, 1) := by decide +kernel
set_option maxRecDepth 20000 in
theorem ggX1_swap_X2_at : GoodIn wsX1_swap wsX2_at := goodIn_r _ [6, 7, 13] (by decide +kernel) (by decide +kernel)
set_option maxRecDepth 20000 in
theorem gX1_swap_X2_at : GoodIn wsX1_swap (wsV RX1 28 RX2 yX2_at wsX2_at) := goodIn_app (goodIn_of _ (by decide +kernel)) ggX1_swap_X2_at
set_option maxRecDepth 20000 in
theorem ggX1_swap_X2_put : GoodIn wsX1_swap wsX2_put := goodIn_r _ [11, 7, 13] (by decide +kernel) (by decide +kernel)
set_option maxRecDepth 20000 in
theorem gX1_swap_X2_put : GoodIn wsX1_swap (wsV RX1 20 RX2 yX2_put wsX2_put) := goodIn_app (goodIn_of _ (by decide +kernel)) ggX1_swap_X2_put
theorem dX1_swap_0 : decode cX1_swap 0 = .ok (.aload_n 0, 1) := by decide +kernel
theorem dX1_swap_1 : decode cX1_swap 1 = .ok (.getfield 14, 3) := by decide +kernel
theorem dX1_swap_4 : decode cX1_swap 4 = .ok (.iload_n 1, 1) := by decide +kernel
theorem dX1_swap_5 : decode cX1_swap 5 = .ok (.invokevirtual 28, 3) := by decide +kernel
theorem dX1_swap_8 : decode cX1_swap 8 = .ok (.istore_n 3, 1) := by decide +kernel
theorem dX1_swap_9 : decode cX1_swap 9 = .ok (.aload_n 0, 1) := by decide +kernel
theorem dX1_swap_10 : decode cX1_swap 10 = .ok (.getfield 14, 3) := by decide +kernel
theorem dX1_swap_13 : decode cX1_swap 13 = .ok (.iload_n 1, 1) := by decide +kernel
theorem dX1_swap_14 : decode cX1_swap 14 = .ok (.aload_n 0, 1) := by decide +kernel
theorem dX1_swap_15 : decode cX1_swap 15 = .ok (.getfield 14, 3) := by decide +kernel
theorem dX1_swap_18 : decode cX1_swap 18 = .ok (.iload_n 2, 1) := by decide +kernel
theorem dX1_swap_19 : decode cX1_swap 19 = .ok (.invokevirtual 28, 3) := by decide +kernel
theorem dX1_swap_22 : decode cX1_swap 22 = .ok (.invokevirtual 20, 3) := by decide +kernel
theorem dX1_swap_25 : decode cX1_swap 25 = .ok (.aload_n 0, 1) := by decide +kernel
theorem dX1_swap_26 : decode cX1_swap 26 = .ok (.getfield 14, 3) := by decide +kernel
theorem dX1_swap_29 : decode cX1_swap 29 = .ok (.iload_n 2, 1) := by decide +kernel
theorem dX1_swap_30 : decode cX1_swap 30 = .ok (.iload_n 3, 1) := by decide +kernel
theorem dX1_swap_31 : decode cX1_swap 31 = .ok (.invokevirtual 20, 3) := by decide +kernel
theorem dX1_swap_34 : decode cX1_swap 34 = .ok (.return_, 1) := by decide +kernel
set_option maxRecDepth 20000 in
theorem ggX1_cardAt_X2_at : GoodIn wsX1_cardAt wsX2_at := goodIn_r _ [6, 7, 9] (by decide +kernel) (by decide +kernel)
set_option maxRecDepth 20000 in
theorem gX1_cardAt_X2_at : GoodIn wsX1_cardAt (wsV RX1 28 RX2 yX2_at wsX2_at) := goodIn_app (goodIn_of _ (by decide +kernel)) ggX1_cardAt_X2_at
theorem dX1_cardAt_0 : decode cX1_cardAt 0 = .ok (.aload_n 0, 1) := by decide +kernel
theorem dX1_cardAt_1 : decode cX1_cardAt 1 = .ok (.getfield 14, 3) := by decide +kernel
theorem dX1_cardAt_4 : decode cX1_cardAt 4 = .ok (.iload_n 1, 1) := by decide +kernel
theorem dX1_cardAt_5 : decode cX1_cardAt 5 = .ok (.invokevirtual 28, 3) := by decide +kernel
theorem dX1_cardAt_8 : decode cX1_cardAt 8 = .ok (.ireturn, 1) := by decide +kernel
set_option maxRecDepth 20000 in
theorem ggX1_cardsFrom_X2_at : GoodIn wsX1_cardsFrom wsX2_at := goodIn_r _ [6, 7, 12] (by decide +kernel) (by decide +kernel)
set_option maxRecDepth 20000 in
theorem gX1_cardsFrom_X2_at : GoodIn wsX1_cardsFrom (wsV RX1 28 RX2 yX2_at wsX2_at) := goodIn_app (goodIn_of _ (by decide +kernel)) ggX1_cardsFrom_X2_at
set_option maxRecDepth 20000 in
theorem ggX1_cardsFrom_X6_only : GoodIn wsX1_cardsFrom wsX6_only := goodIn_r _ [10] (by decide +kernel) (by decide +kernel)
set_option maxRecDepth 20000 in
theorem gX1_cardsFrom_X6_only_n32 : GoodIn wsX1_cardsFrom (wsX6_only) := ggX1_cardsFrom_X6_only
theorem dX1_cardsFrom_0 : decode cX1_cardsFrom 0 = .ok (.lconst 0, 1) := by decide +kernel
theorem dX1_cardsFrom_1 : decode cX1_cardsFrom 1 = .ok (.lstore_n 3, 1) := by decide +kernel
theorem dX1_cardsFrom_2 : decode cX1_cardsFrom 2 = .ok (.iconst 0, 1) := by decide +kernel
theorem dX1_cardsFrom_3 : decode cX1_cardsFrom 3 = .ok (.istore 5, 2) := by decide +kernel
theorem dX1_cardsFrom_5 : decode cX1_cardsFrom 5 = .ok (.iload 5, 2) := by decide +kernel
theorem dX1_cardsFrom_7 : decode cX1_cardsFrom 7 = .ok (.iload_n 2, 1) := by decide +kernel
theorem dX1_cardsFrom_8 : decode cX1_cardsFrom 8 = .ok (.if_icmp .ge 26, 3) := by decide +kernel
theorem dX1_cardsFrom_11 : decode cX1_cardsFrom 11 = .ok (.lload_n 3, 1) := by decide +kernel
theorem dX1_cardsFrom_12 : decode cX1_cardsFrom 12 = .ok (.aload_n 0, 1) := by decide +kernel
theorem dX1_cardsFrom_13 : decode cX1_cardsFrom 13 = .ok (.getfield 14, 3) := by decide +kernel
theorem dX1_cardsFrom_16 : decode cX1_cardsFrom 16 = .ok (.iload_n 1, 1) := by decide +kernel
theorem dX1_cardsFrom_17 : decode cX1_cardsFrom 17 = .ok (.iload 5, 2) := by decide +kernel
theorem dX1_cardsFrom_19 : decode cX1_cardsFrom 19 = .ok (.iadd, 1) := by decide +kernel
theorem dX1_cardsFrom_20 : decode cX1_cardsFrom 20 = .ok (.invokevirtual 28, 3) := by decide +kernel
theorem dX1_cardsFrom_23 : decode cX1_cardsFrom 23 = .ok (.invokestatic 32, 3) := by decide +kernel
theorem dX1_cardsFrom_26 : decode cX1_cardsFrom 26 = .ok (.lor, 1) := by decide +kernel
theorem dX1_cardsFrom_27 : decode cX1_cardsFrom 27 = .ok (.lstore_n 3, 1) := by decide +kernel
theorem dX1_cardsFrom_28 : decode cX1_cardsFrom 28 = .ok (.iinc 5 1, 3) := by decide +kernel
theorem dX1_cardsFrom_31 : decode cX1_cardsFrom 31 = .ok (.goto (-26), 3) := by decide +kernel
theorem dX1_cardsFrom_34 : decode cX1_cardsFrom 34 = .ok (.lload_n 3, 1) := by decide +kernel
theorem dX1_cardsFrom_35 : decode cX1_cardsFrom 35 = .ok (.lreturn, 1) := by decide +kernel
theorem dX2_init_0 : decode cX2_init 0 = .ok (.aload_n 0, 1) := by decide +kernel
theorem dX2_init_1 : decode cX2_init 1 = .ok (.invokespecial 3, 3) := by decide +kernel
theorem dX2_init_4 : decode cX2_init 4 = .ok (.aload_n 0, 1) := by decide +kernel
theorem dX2_init_5 : decode cX2_init 5 = .ok (.iload_n 1, 1) := by decide +kernel
theorem dX2_init_6 : decode cX2_init 6 = .ok (.iconst 0, 1) := by decide +kernel
theorem dX2_init_7 : decode cX2_init 7 = .ok (.invokestatic 9, 3) := by decide +kernel
theorem dX2_init_10 : decode cX2_init 10 = .ok (.newarray .int, 2) := by decide +kernel
theorem dX2_init_12 : decode cX2_init 12 = .ok (.putfield 15, 3) := by decide +kernel
theorem dX2_init_15 : decode cX2_init 15 = .ok (.return_, 1) := by decide +kernel
theorem dX2_at_0 : decode cX2_at 0 = .ok (.iload_n 1, 1) := by decide +kernel
theorem dX2_at_1 : decode cX2_at 1 = .ok (.ifCond .lt 21, 3) := by decide +kernel
theorem dX2_at_4 : decode cX2_at 4 = .ok (.iload_n 1, 1) := by decide +kernel
theorem dX2_at_5 : decode cX2_at 5 = .ok (.aload_n 0, 1) := by decide +kernel
theorem dX2_at_6 : decode cX2_at 6 = .ok (.getfield 15, 3) := by decide +kernel
theorem dX2_at_9 : decode cX2_at 9 = .ok (.arraylength, 1) := by decide +kernel
theorem dX2_at_10 : decode cX2_at 10 = .ok (.if_icmp .ge 12, 3) := by decide +kernel
theorem dX2_at_13 : decode cX2_at 13 = .ok (.aload_n 0, 1) := by decide +kernel
theorem dX2_at_14 : decode cX2_at 14 = .ok (.getfield 15, 3) := by decide +kernel
theorem dX2_at_17 : decode cX2_at 17 = .ok (.iload_n 1, 1) := by decide +kernel
theorem dX2_at_18 : decode cX2_at 18 = .ok (.iaload, 1) := by decide +kernel
theorem dX2_at_19 : decode cX2_at 19 = .ok (.goto 4, 3) := by decide +kernel
theorem dX2_at_22 : decode cX2_at 22 = .ok (.iconst (-1), 1) := by decide +kernel
theorem dX2_at_23 : decode cX2_at 23 = .ok (.ireturn, 1) := by decide +kernel
theorem dX2_put_0 : decode cX2_put 0 = .ok (.iload_n 1, 1) := by decide +kernel
theorem dX2_put_1 : decode cX2_put 1 = .ok (.ifCond .lt 19, 3) := by decide +kernel
theorem dX2_put_4 : decode cX2_put 4 = .ok (.iload_n 1, 1) := by decide +kernel
theorem dX2_put_5 : decode cX2_put 5 = .ok (.aload_n 0, 1) := by decide +kernel
theorem dX2_put_6 : decode cX2_put 6 = .ok (.getfield 15, 3) := by decide +kernel
theorem dX2_put_9 : decode cX2_put 9 = .ok (.arraylength, 1) := by decide +kernel
theorem dX2_put_10 : decode cX2_put 10 = .ok (.if_icmp .ge 10, 3) := by decide +kernel
theorem dX2_put_13 : decode cX2_put 13 = .ok (.aload_n 0, 1) := by decide +kernel
theorem dX2_put_14 : decode cX2_put 14 = .ok (.getfield 15, 3) := by decide +kernel
theorem dX2_put_17 : decode cX2_put 17 = .ok (.iload_n 1, 1) := by decide +kernel
theorem dX2_put_18 : decode cX2_put 18 = .ok (.iload_n 2, 1) := by decide +kernel
theorem dX2_put_19 : decode cX2_put 19 = .ok (.iastore, 1) := by decide +kernel
theorem dX2_put_20 : decode cX2_put 20 = .ok (.return_, 1) := by decide +kernel
theorem dX3_init_0 : decode cX3_init 0 = .ok (.aload_n 0, 1) := by decide +kernel
theorem dX3_init_1 : decode cX3_init 1 = .ok (.invokespecial 1, 3) := by decide +kernel
theorem dX3_init_4 : decode cX3_init 4 = .ok (.aload_n 0, 1) := by decide +kernel
theorem dX3_init_5 : decode cX3_init 5 = .ok (.iload_n 1, 1) := by decide +kernel
theorem dX3_init_6 : decode cX3_init 6 = .ok (.iconst 0, 1) := by decide +kernel
theorem dX3_init_7 : decode cX3_init 7 = .ok (.invokestatic 7, 3) := by decide +kernel
theorem dX3_init_10 : decode cX3_init 10 = .ok (.newarray .long, 2) := by decide +kernel
theorem dX3_init_12 : decode cX3_init 12 = .ok (.putfield 13, 3) := by decide +kernel
theorem dX3_init_15 : decode cX3_init 15 = .ok (.return_, 1) := by decide +kernel
theorem dX3_at_0 : decode cX3_at 0 = .ok (.iload_n 1, 1) := by decide +kernel
theorem dX3_at_1 : decode cX3_at 1 = .ok (.ifCond .lt 21, 3) := by decide +kernel
theorem dX3_at_4 : decode cX3_at 4 = .ok (.iload_n 1, 1) := by decide +kernel
theorem dX3_at_5 : decode cX3_at 5 = .ok (.aload_n 0, 1) := by decide +kernel
theorem dX3_at_6 : decode cX3_at 6 = .ok (.getfield 13, 3) := by decide +kernel
theorem dX3_at_9 : decode cX3_at 9 = .ok (.arraylength, 1) := by decide +kernel
theorem dX3_at_10 : decode cX3_at 10 = .ok (.if_icmp .ge 12, 3) := by decide +kernel
theorem dX3_at_13 : decode cX3_at 13 = .ok (.aload_n 0, 1) := by decide +kernel
theorem dX3_at_14 : decode cX3_at 14 = .ok (.getfield 13, 3) := by decide +kernel
theorem dX3_at_17 : decode cX3_at 17 = .ok (.iload_n 1, 1) := by decide +kernel
theorem dX3_at_18 : decode cX3_at 18 = .ok (.laload, 1) := by decide +kernel
theorem dX3_at_19 : decode cX3_at 19 = .ok (.goto 4, 3) := by decide +kernel
theorem dX3_at_22 : decode cX3_at 22 = .ok (.lconst 0, 1) := by decide +kernel
theorem dX3_at_23 : decode cX3_at 23 = .ok (.lreturn, 1) := by decide +kernel
theorem dX3_put_0 : decode cX3_put 0 = .ok (.iload_n 1, 1) := by decide +kernel
theorem dX3_put_1 : decode cX3_put 1 = .ok (.ifCond .lt 19, 3) := by decide +kernel
theorem dX3_put_4 : decode cX3_put 4 = .ok (.iload_n 1, 1) := by decide +kernel
theorem dX3_put_5 : decode cX3_put 5 = .ok (.aload_n 0, 1) := by decide +kernel
theorem dX3_put_6 : decode cX3_put 6 = .ok (.getfield 13, 3) := by decide +kernel
theorem dX3_put_9 : decode cX3_put 9 = .ok (.arraylength, 1) := by decide +kernel
theorem dX3_put_10 : decode cX3_put 10 = .ok (.if_icmp .ge 10, 3) := by decide +kernel
theorem dX3_put_13 : decode cX3_put 13 = .ok (.aload_n 0, 1) := by decide +kernel
theorem dX3_put_14 : decode cX3_put 14 = .ok (.getfield 13, 3) := by decide +kernel
theorem dX3_put_17 : decode cX3_put 17 = .ok (.iload_n 1, 1) := by decide +kernel
theorem dX3_put_18 : decode cX3_put 18 = .ok (.lload_n 2, 1) := by decide +kernel
theorem dX3_put_19 : decode cX3_put 19 = .ok (.lastore, 1) := by decide +kernel
theorem dX3_put_20 : decode cX3_put 20 = .ok (.return_, 1) := by decide +kernel
set_option maxRecDepth 20000 in
theorem ggX4_init_X2_init : GoodIn wsX4_init wsX2_init := goodIn_r _ [11, 12, 2, 3, 13, 14, 15, 16, 17, 18, 19] (by decide +kernel) (by decide +kernel)
set_option maxRecDepth 20000 in
theorem gX4_init_X2_init : GoodIn wsX4_init (wsX2_init) := ggX4_init_X2_init
theorem dX4_init_0 : decode cX4_init 0 = .ok (.aload_n 0, 1) := by decide +kernel
theorem dX4_init_1 : decode cX4_init 1 = .ok (.invokespecial 3, 3) := by decide +kernel
theorem dX4_init_4 : decode cX4_init 4 = .ok (.aload_n 0, 1) := by decide +kernel
theorem dX4_init_5 : decode cX4_init 5 = .ok (.new 9, 3) := by decide +kernel
theorem dX4_init_8 : decode cX4_init 8 = .ok (.dup, 1) := by decide +kernel
theorem dX4_init_9 : decode cX4_init 9 = .ok (.iconst 4, 1) := by decide +kernel
theorem dX4_init_10 : decode cX4_init 10 = .ok (.invokespecial 11, 3) := by decide +kernel
theorem dX4_init_13 : decode cX4_init 13 = .ok (.putfield 14, 3) := by decide +kernel
theorem dX4_init_16 : decode cX4_init 16 = .ok (.aload_n 0, 1) := by decide +kernel
theorem dX4_init_17 : decode cX4_init 17 = .ok (.new 9, 3) := by decide +kernel
theorem dX4_init_20 : decode cX4_init 20 = .ok (.dup, 1) := by decide +kernel
theorem dX4_init_21 : decode cX4_init 21 = .ok (.iconst 4, 1) := by decide +kernel
theorem dX4_init_22 : decode cX4_init 22 = .ok (.invokespecial 11, 3) := by decide +kernel
theorem dX4_init_25 : decode cX4_init 25 = .ok (.putfield 20, 3) := by decide +kernel
theorem dX4_init_28 : decode cX4_init 28 = .ok (.return_, 1) := by decide +kernel
set_option maxRecDepth 20000 in
theorem ggX4_enter_X2_at : GoodIn wsX4_enter wsX2_at := goodIn_r _ [7, 8, 22] (by decide +kernel) (by decide +kernel)
set_option maxRecDepth 20000 in
theorem gX4_enter_X2_at : GoodIn wsX4_enter (wsV RX4 23 RX2 yX2_at wsX2_at) := goodIn_app (goodIn_of _ (by decide +kernel)) ggX4_enter_X2_at
set_option maxRecDepth 20000 in
theorem ggX4_enter_X2_put : GoodIn wsX4_enter wsX2_put := goodIn_r _ [12, 8, 22] (by decide +kernel) (by decide +kernel)
set_option maxRecDepth 20000 in
theorem gX4_enter_X2_put : GoodIn wsX4_enter (wsV RX4 31 RX2 yX2_put wsX2_put) := goodIn_app (goodIn_of _ (by decide +kernel)) ggX4_enter_X2_put
set_option maxRecDepth 20000 in
theorem ggX4_enter_X4_addScore : GoodIn wsX4_enter wsX4_addScore := goodIn_r _ [17, 18, 2, 3, 4, 5, 6, 7, 8, 9, 10, 11, 12, 19, 20, 21, 22] (by decide +kernel) (by decide +kernel)
set_option maxRecDepth 20000 in
theorem gX4_enter_X4_addScore : GoodIn wsX4_enter (wsV RX4 35 RX4 yX4_addScore wsX4_addScore) := goodIn_app (goodIn_of _ (by decide +kernel)) ggX4_enter_X4_addScore
theorem dX4_enter_0 : decode cX4_enter 0 = .ok (.aload_n 0, 1) := by decide +kernel
theorem dX4_enter_1 : decode cX4_enter 1 = .ok (.getfield 20, 3) := by decide +kernel
theorem dX4_enter_4 : decode cX4_enter 4 = .ok (.iload_n 1, 1) := by decide +kernel
theorem dX4_enter_5 : decode cX4_enter 5 = .ok (.invokevirtual 23, 3) := by decide +kernel
theorem dX4_enter_8 : decode cX4_enter 8 = .ok (.ifCond .le 7, 3) := by decide +kernel
theorem dX4_enter_11 : decode cX4_enter 11 = .ok (.iconst 1, 1) := by decide +kernel
theorem dX4_enter_12 : decode cX4_enter 12 = .ok (.goto 4, 3) := by decide +kernel
theorem dX4_enter_15 : decode cX4_enter 15 = .ok (.iconst 0, 1) := by decide +kernel
theorem dX4_enter_16 : decode cX4_enter 16 = .ok (.istore 5, 2) := by decide +kernel
theorem dX4_enter_18 : decode cX4_enter 18 = .ok (.aload_n 0, 1) := by decide +kernel
theorem dX4_enter_19 : decode cX4_enter 19 = .ok (.iload 5, 2) := by decide +kernel
theorem dX4_enter_21 : decode cX4_enter 21 = .ok (.ifCond .eq 9, 3) := by decide +kernel
theorem dX4_enter_24 : decode cX4_enter 24 = .ok (.iconst 2, 1) := by decide +kernel
theorem dX4_enter_25 : decode cX4_enter 25 = .ok (.iload_n 3, 1) := by decide +kernel
theorem dX4_enter_26 : decode cX4_enter 26 = .ok (.imul, 1) := by decide +kernel
theorem dX4_enter_27 : decode cX4_enter 27 = .ok (.goto 4, 3) := by decide +kernel
theorem dX4_enter_30 : decode cX4_enter 30 = .ok (.iload_n 3, 1) := by decide +kernel
theorem dX4_enter_31 : decode cX4_enter 31 = .ok (.putfield 27, 3) := by decide +kernel
theorem dX4_enter_34 : decode cX4_enter 34 = .ok (.iload 5, 2) := by decide +kernel
theorem dX4_enter_36 : decode cX4_enter 36 = .ok (.ifCond .eq 26, 3) := by decide +kernel
theorem dX4_enter_39 : decode cX4_enter 39 = .ok (.iload 4, 2) := by decide +kernel
theorem dX4_enter_41 : decode cX4_enter 41 = .ok (.ifCond .eq 21, 3) := by decide +kernel
theorem dX4_enter_44 : decode cX4_enter 44 = .ok (.aload_n 0, 1) := by decide +kernel
theorem dX4_enter_45 : decode cX4_enter 45 = .ok (.getfield 20, 3) := by decide +kernel
theorem dX4_enter_48 : decode cX4_enter 48 = .ok (.iload_n 1, 1) := by decide +kernel
theorem dX4_enter_49 : decode cX4_enter 49 = .ok (.aload_n 0, 1) := by decide +kernel
theorem dX4_enter_50 : decode cX4_enter 50 = .ok (.getfield 20, 3) := by decide +kernel
theorem dX4_enter_53 : decode cX4_enter 53 = .ok (.iload_n 1, 1) := by decide +kernel
theorem dX4_enter_54 : decode cX4_enter 54 = .ok (.invokevirtual 23, 3) := by decide +kernel
theorem dX4_enter_57 : decode cX4_enter 57 = .ok (.iconst 1, 1) := by decide +kernel
theorem dX4_enter_58 : decode cX4_enter 58 = .ok (.isub, 1) := by decide +kernel
theorem dX4_enter_59 : decode cX4_enter 59 = .ok (.invokevirtual 31, 3) := by decide +kernel
theorem dX4_enter_62 : decode cX4_enter 62 = .ok (.aload_n 0, 1) := by decide +kernel
theorem dX4_enter_63 : decode cX4_enter 63 = .ok (.iload_n 1, 1) := by decide +kernel
theorem dX4_enter_64 : decode cX4_enter 64 = .ok (.invokevirtual 35, 3) := by decide +kernel
theorem dX4_enter_67 : decode cX4_enter 67 = .ok (.iload_n 2, 1) := by decide +kernel
theorem dX4_enter_68 : decode cX4_enter 68 = .ok (.iconst (-1), 1) := by decide +kernel
theorem dX4_enter_69 : decode cX4_enter 69 = .ok (.if_icmp .eq 8, 3) := by decide +kernel
theorem dX4_enter_72 : decode cX4_enter 72 = .ok (.aload_n 0, 1) := by decide +kernel
theorem dX4_enter_73 : decode cX4_enter 73 = .ok (.iload_n 2, 1) := by decide +kernel
theorem dX4_enter_74 : decode cX4_enter 74 = .ok (.invokevirtual 35, 3) := by decide +kernel
theorem dX4_enter_77 : decode cX4_enter 77 = .ok (.return_, 1) := by decide +kernel
set_option maxRecDepth 20000 in
theorem ggX4_giveRadli_X2_at : GoodIn wsX4_giveRadli wsX2_at := goodIn_r _ [6, 7, 15] (by decide +kernel) (by decide +kernel)
set_option maxRecDepth 20000 in
theorem gX4_giveRadli_X2_at : GoodIn wsX4_giveRadli (wsV RX4 23 RX2 yX2_at wsX2_at) := goodIn_app (goodIn_of _ (by decide +kernel)) ggX4_giveRadli_X2_at
set_option maxRecDepth 20000 in
theorem ggX4_giveRadli_X2_put : GoodIn wsX4_giveRadli wsX2_put := goodIn_r _ [11, 7, 15] (by decide +kernel) (by decide +kernel)
set_option maxRecDepth 20000 in
theorem gX4_giveRadli_X2_put : GoodIn wsX4_giveRadli (wsV RX4 31 RX2 yX2_put wsX2_put) := goodIn_app (goodIn_of _ (by decide +kernel)) ggX4_giveRadli_X2_put
theorem dX4_giveRadli_0 : decode cX4_giveRadli 0 = .ok (.iconst 0, 1) := by decide +kernel
theorem dX4_giveRadli_1 : decode cX4_giveRadli 1 = .ok (.istore_n 1, 1) := by decide +kernel
theorem dX4_giveRadli_2 : decode cX4_giveRadli 2 = .ok (.iload_n 1, 1) := by decide +kernel
theorem dX4_giveRadli_3 : decode cX4_giveRadli 3 = .ok (.iconst 4, 1) := by decide +kernel
theorem dX4_giveRadli_4 : decode cX4_giveRadli 4 = .ok (.if_icmp .ge 27, 3) := by decide +kernel
theorem dX4_giveRadli_7 : decode cX4_giveRadli 7 = .ok (.aload_n 0, 1) := by decide +kernel
theorem dX4_giveRadli_8 : decode cX4_giveRadli 8 = .ok (.getfield 20, 3) := by decide +kernel
theorem dX4_giveRadli_11 : decode cX4_giveRadli 11 = .ok (.iload_n 1, 1) := by decide +kernel
theorem dX4_giveRadli_12 : decode cX4_giveRadli 12 = .ok (.aload_n 0, 1) := by decide +kernel
theorem dX4_giveRadli_13 : decode cX4_giveRadli 13 = .ok (.getfield 20, 3) := by decide +kernel
theorem dX4_giveRadli_16 : decode cX4_giveRadli 16 = .ok (.iload_n 1, 1) := by decide +kernel
theorem dX4_giveRadli_17 : decode cX4_giveRadli 17 = .ok (.invokevirtual 23, 3) := by decide +kernel
theorem dX4_giveRadli_20 : decode cX4_giveRadli 20 = .ok (.iconst 1, 1) := by decide +kernel
theorem dX4_giveRadli_21 : decode cX4_giveRadli 21 = .ok (.iadd, 1) := by decide +kernel
theorem dX4_giveRadli_22 : decode cX4_giveRadli 22 = .ok (.invokevirtual 31, 3) := by decide +kernel
theorem dX4_giveRadli_25 : decode cX4_giveRadli 25 = .ok (.iinc 1 1, 3) := by decide +kernel
theorem dX4_giveRadli_28 : decode cX4_giveRadli 28 = .ok (.goto (-26), 3) := by decide +kernel
theorem dX4_giveRadli_31 : decode cX4_giveRadli 31 = .ok (.return_, 1) := by decide +kernel
set_option maxRecDepth 20000 in
theorem ggX4_addScore_X2_at : GoodIn wsX4_addScore wsX2_at := goodIn_r _ [7, 8, 16] (by decide +kernel) (by decide +kernel)
set_option maxRecDepth 20000 in
theorem gX4_addScore_X2_at : GoodIn wsX4_addScore (wsV RX4 23 RX2 yX2_at wsX2_at) := goodIn_app (goodIn_of _ (by decide +kernel)) ggX4_addScore_X2_at
set_option maxRecDepth 20000 in
theorem ggX4_addScore_X2_put : GoodIn wsX4_addScore wsX2_put := goodIn_r _ [12, 8, 16] (by decide +kernel) (by decide +kernel)
set_option maxRecDepth 20000 in
theorem gX4_addScore_X2_put : GoodIn wsX4_addScore (wsV RX4 31 RX2 yX2_put wsX2_put) := goodIn_app (goodIn_of _ (by decide +kernel)) ggX4_addScore_X2_put
theorem dX4_addScore_0 : decode cX4_addScore 0 = .ok (.aload_n 0, 1) := by decide +kernel
theorem dX4_addScore_1 : decode cX4_addScore 1 = .ok (.getfield 14, 3) := by decide +kernel
theorem dX4_addScore_4 : decode cX4_addScore 4 = .ok (.iload_n 1, 1) := by decide +kernel
theorem dX4_addScore_5 : decode cX4_addScore 5 = .ok (.aload_n 0, 1) := by decide +kernel
theorem dX4_addScore_6 : decode cX4_addScore 6 = .ok (.getfield 14, 3) := by decide +kernel
theorem dX4_addScore_9 : decode cX4_addScore 9 = .ok (.iload_n 1, 1) := by decide +kernel
theorem dX4_addScore_10 : decode cX4_addScore 10 = .ok (.invokevirtual 23, 3) := by decide +kernel
theorem dX4_addScore_13 : decode cX4_addScore 13 = .ok (.aload_n 0, 1) := by decide +kernel
theorem dX4_addScore_14 : decode cX4_addScore 14 = .ok (.getfield 27, 3) := by decide +kernel
theorem dX4_addScore_17 : decode cX4_addScore 17 = .ok (.iadd, 1) := by decide +kernel
theorem dX4_addScore_18 : decode cX4_addScore 18 = .ok (.invokevirtual 31, 3) := by decide +kernel
theorem dX4_addScore_21 : decode cX4_addScore 21 = .ok (.return_, 1) := by decide +kernel
set_option maxRecDepth 20000 in
theorem ggX5_init_X2_init : GoodIn wsX5_init wsX2_init := goodIn_r _ [10, 11, 2, 3, 12, 13, 14, 15, 16, 17, 18] (by decide +kernel) (by decide +kernel)
set_option maxRecDepth 20000 in
theorem gX5_init_X2_init : GoodIn wsX5_init (wsX2_init) := ggX5_init_X2_init
theorem dX5_init_0 : decode cX5_init 0 = .ok (.aload_n 0, 1) := by decide +kernel
theorem dX5_init_1 : decode cX5_init 1 = .ok (.invokespecial 3, 3) := by decide +kernel
theorem dX5_init_4 : decode cX5_init 4 = .ok (.aload_n 0, 1) := by decide +kernel
theorem dX5_init_5 : decode cX5_init 5 = .ok (.new 9, 3) := by decide +kernel
theorem dX5_init_8 : decode cX5_init 8 = .ok (.dup, 1) := by decide +kernel
theorem dX5_init_9 : decode cX5_init 9 = .ok (.iconst 4, 1) := by decide +kernel
theorem dX5_init_10 : decode cX5_init 10 = .ok (.invokespecial 11, 3) := by decide +kernel
theorem dX5_init_13 : decode cX5_init 13 = .ok (.putfield 14, 3) := by decide +kernel
theorem dX5_init_16 : decode cX5_init 16 = .ok (.return_, 1) := by decide +kernel
theorem dX5_begin_0 : decode cX5_begin 0 = .ok (.aload_n 0, 1) := by decide +kernel
theorem dX5_begin_1 : decode cX5_begin 1 = .ok (.iload_n 1, 1) := by decide +kernel
theorem dX5_begin_2 : decode cX5_begin 2 = .ok (.putfield 20, 3) := by decide +kernel
theorem dX5_begin_5 : decode cX5_begin 5 = .ok (.aload_n 0, 1) := by decide +kernel
theorem dX5_begin_6 : decode cX5_begin 6 = .ok (.iconst 0, 1) := by decide +kernel
theorem dX5_begin_7 : decode cX5_begin 7 = .ok (.putfield 24, 3) := by decide +kernel
theorem dX5_begin_10 : decode cX5_begin 10 = .ok (.return_, 1) := by decide +kernel
set_option maxRecDepth 20000 in
theorem ggX5_add_X2_put : GoodIn wsX5_add wsX2_put := goodIn_r _ [7, 8, 12] (by decide +kernel) (by decide +kernel)
set_option maxRecDepth 20000 in
theorem gX5_add_X2_put : GoodIn wsX5_add (wsV RX5 27 RX2 yX2_put wsX2_put) := goodIn_app (goodIn_of _ (by decide +kernel)) ggX5_add_X2_put
theorem dX5_add_0 : decode cX5_add 0 = .ok (.aload_n 0, 1) := by decide +kernel
theorem dX5_add_1 : decode cX5_add 1 = .ok (.getfield 14, 3) := by decide +kernel
theorem dX5_add_4 : decode cX5_add 4 = .ok (.aload_n 0, 1) := by decide +kernel
theorem dX5_add_5 : decode cX5_add 5 = .ok (.getfield 24, 3) := by decide +kernel
theorem dX5_add_8 : decode cX5_add 8 = .ok (.iload_n 1, 1) := by decide +kernel
theorem dX5_add_9 : decode cX5_add 9 = .ok (.invokevirtual 27, 3) := by decide +kernel
theorem dX5_add_12 : decode cX5_add 12 = .ok (.aload_n 0, 1) := by decide +kernel
theorem dX5_add_13 : decode cX5_add 13 = .ok (.dup, 1) := by decide +kernel
theorem dX5_add_14 : decode cX5_add 14 = .ok (.getfield 24, 3) := by decide +kernel
theorem dX5_add_17 : decode cX5_add 17 = .ok (.iconst 1, 1) := by decide +kernel
theorem dX5_add_18 : decode cX5_add 18 = .ok (.iadd, 1) := by decide +kernel
theorem dX5_add_19 : decode cX5_add 19 = .ok (.putfield 24, 3) := by decide +kernel
theorem dX5_add_22 : decode cX5_add 22 = .ok (.return_, 1) := by decide +kernel
set_option maxRecDepth 20000 in
theorem ggX5_cardAt_X2_at : GoodIn wsX5_cardAt wsX2_at := goodIn_r _ [6, 7, 11] (by decide +kernel) (by decide +kernel)
set_option maxRecDepth 20000 in
theorem gX5_cardAt_X2_at : GoodIn wsX5_cardAt (wsV RX5 31 RX2 yX2_at wsX2_at) := goodIn_app (goodIn_of _ (by decide +kernel)) ggX5_cardAt_X2_at
theorem dX5_cardAt_0 : decode cX5_cardAt 0 = .ok (.aload_n 0, 1) := by decide +kernel
theorem dX5_cardAt_1 : decode cX5_cardAt 1 = .ok (.getfield 14, 3) := by decide +kernel
theorem dX5_cardAt_4 : decode cX5_cardAt 4 = .ok (.iload_n 1, 1) := by decide +kernel
theorem dX5_cardAt_5 : decode cX5_cardAt 5 = .ok (.invokevirtual 31, 3) := by decide +kernel
theorem dX5_cardAt_8 : decode cX5_cardAt 8 = .ok (.ireturn, 1) := by decide +kernel
set_option maxRecDepth 20000 in
theorem ggX5_ledSuit_X2_at : GoodIn wsX5_ledSuit wsX2_at := goodIn_r _ [7, 8, 15] (by decide +kernel) (by decide +kernel)
set_option maxRecDepth 20000 in
theorem gX5_ledSuit_X2_at : GoodIn wsX5_ledSuit (wsV RX5 31 RX2 yX2_at wsX2_at) := goodIn_app (goodIn_of _ (by decide +kernel)) ggX5_ledSuit_X2_at
set_option maxRecDepth 20000 in
theorem ggX5_ledSuit_X6_suitOf : GoodIn wsX5_ledSuit wsX6_suitOf := goodIn_r _ [11] (by decide +kernel) (by decide +kernel)
set_option maxRecDepth 20000 in
theorem gX5_ledSuit_X6_suitOf_n35 : GoodIn wsX5_ledSuit (wsX6_suitOf) := ggX5_ledSuit_X6_suitOf
theorem dX5_ledSuit_0 : decode cX5_ledSuit 0 = .ok (.aload_n 0, 1) := by decide +kernel
theorem dX5_ledSuit_1 : decode cX5_ledSuit 1 = .ok (.getfield 24, 3) := by decide +kernel
theorem dX5_ledSuit_4 : decode cX5_ledSuit 4 = .ok (.ifCond .le 17, 3) := by decide +kernel
theorem dX5_ledSuit_7 : decode cX5_ledSuit 7 = .ok (.aload_n 0, 1) := by decide +kernel
theorem dX5_ledSuit_8 : decode cX5_ledSuit 8 = .ok (.getfield 14, 3) := by decide +kernel
theorem dX5_ledSuit_11 : decode cX5_ledSuit 11 = .ok (.iconst 0, 1) := by decide +kernel
theorem dX5_ledSuit_12 : decode cX5_ledSuit 12 = .ok (.invokevirtual 31, 3) := by decide +kernel
theorem dX5_ledSuit_15 : decode cX5_ledSuit 15 = .ok (.invokestatic 35, 3) := by decide +kernel
theorem dX5_ledSuit_18 : decode cX5_ledSuit 18 = .ok (.goto 4, 3) := by decide +kernel
theorem dX5_ledSuit_21 : decode cX5_ledSuit 21 = .ok (.iconst (-1), 1) := by decide +kernel
theorem dX5_ledSuit_22 : decode cX5_ledSuit 22 = .ok (.ireturn, 1) := by decide +kernel
set_option maxRecDepth 20000 in
theorem ggX5_cardSet_X2_at : GoodIn wsX5_cardSet wsX2_at := goodIn_r _ [7, 8, 15] (by decide +kernel) (by decide +kernel)
set_option maxRecDepth 20000 in
theorem gX5_cardSet_X2_at : GoodIn wsX5_cardSet (wsV RX5 31 RX2 yX2_at wsX2_at) := goodIn_app (goodIn_of _ (by decide +kernel)) ggX5_cardSet_X2_at
set_option maxRecDepth 20000 in
theorem ggX5_cardSet_X6_only : GoodIn wsX5_cardSet wsX6_only := goodIn_r _ [11] (by decide +kernel) (by decide +kernel)
set_option maxRecDepth 20000 in
theorem gX5_cardSet_X6_only_n38 : GoodIn wsX5_cardSet (wsX6_only) := ggX5_cardSet_X6_only
theorem dX5_cardSet_0 : decode cX5_cardSet 0 = .ok (.lconst 0, 1) := by decide +kernel
theorem dX5_cardSet_1 : decode cX5_cardSet 1 = .ok (.lstore_n 1, 1) := by decide +kernel
theorem dX5_cardSet_2 : decode cX5_cardSet 2 = .ok (.iconst 0, 1) := by decide +kernel
theorem dX5_cardSet_3 : decode cX5_cardSet 3 = .ok (.istore_n 3, 1) := by decide +kernel
theorem dX5_cardSet_4 : decode cX5_cardSet 4 = .ok (.iload_n 3, 1) := by decide +kernel
theorem dX5_cardSet_5 : decode cX5_cardSet 5 = .ok (.aload_n 0, 1) := by decide +kernel
theorem dX5_cardSet_6 : decode cX5_cardSet 6 = .ok (.getfield 24, 3) := by decide +kernel
theorem dX5_cardSet_9 : decode cX5_cardSet 9 = .ok (.if_icmp .ge 23, 3) := by decide +kernel
theorem dX5_cardSet_12 : decode cX5_cardSet 12 = .ok (.lload_n 1, 1) := by decide +kernel
theorem dX5_cardSet_13 : decode cX5_cardSet 13 = .ok (.aload_n 0, 1) := by decide +kernel
theorem dX5_cardSet_14 : decode cX5_cardSet 14 = .ok (.getfield 14, 3) := by decide +kernel
theorem dX5_cardSet_17 : decode cX5_cardSet 17 = .ok (.iload_n 3, 1) := by decide +kernel
theorem dX5_cardSet_18 : decode cX5_cardSet 18 = .ok (.invokevirtual 31, 3) := by decide +kernel
theorem dX5_cardSet_21 : decode cX5_cardSet 21 = .ok (.invokestatic 38, 3) := by decide +kernel
theorem dX5_cardSet_24 : decode cX5_cardSet 24 = .ok (.lor, 1) := by decide +kernel
theorem dX5_cardSet_25 : decode cX5_cardSet 25 = .ok (.lstore_n 1, 1) := by decide +kernel
theorem dX5_cardSet_26 : decode cX5_cardSet 26 = .ok (.iinc 3 1, 3) := by decide +kernel
theorem dX5_cardSet_29 : decode cX5_cardSet 29 = .ok (.goto (-25), 3) := by decide +kernel
theorem dX5_cardSet_32 : decode cX5_cardSet 32 = .ok (.lload_n 1, 1) := by decide +kernel
theorem dX5_cardSet_33 : decode cX5_cardSet 33 = .ok (.lreturn, 1) := by decide +kernel
set_option maxRecDepth 20000 in
theorem ggX5_playerOf_X2_at : GoodIn wsX5_playerOf wsX2_at := goodIn_r _ [7, 8, 18] (by decide +kernel) (by decide +kernel)
set_option maxRecDepth 20000 in
theorem gX5_playerOf_X2_at : GoodIn wsX5_playerOf (wsV RX5 31 RX2 yX2_at wsX2_at) := goodIn_app (goodIn_of _ (by decide +kernel)) ggX5_playerOf_X2_at
set_option maxRecDepth 20000 in
theorem ggX5_playerOf_X5_playerAt : GoodIn wsX5_playerOf wsX5_playerAt := goodIn_r _ [13, 14, 15, 16, 17] (by decide +kernel) (by decide +kernel)
set_option maxRecDepth 20000 in
theorem gX5_playerOf_X5_playerAt : GoodIn wsX5_playerOf (wsV RX5 42 RX5 yX5_playerAt wsX5_playerAt) := goodIn_app (goodIn_of _ (by decide +kernel)) ggX5_playerOf_X5_playerAt
theorem dX5_playerOf_0 : decode cX5_playerOf 0 = .ok (.iconst 0, 1) := by decide +kernel
theorem dX5_playerOf_1 : decode cX5_playerOf 1 = .ok (.istore_n 2, 1) := by decide +kernel
theorem dX5_playerOf_2 : decode cX5_playerOf 2 = .ok (.iload_n 2, 1) := by decide +kernel
theorem dX5_playerOf_3 : decode cX5_playerOf 3 = .ok (.aload_n 0, 1) := by decide +kernel
theorem dX5_playerOf_4 : decode cX5_playerOf 4 = .ok (.getfield 24, 3) := by decide +kernel
theorem dX5_playerOf_7 : decode cX5_playerOf 7 = .ok (.if_icmp .ge 27, 3) := by decide +kernel
theorem dX5_playerOf_10 : decode cX5_playerOf 10 = .ok (.aload_n 0, 1) := by decide +kernel
theorem dX5_playerOf_11 : decode cX5_playerOf 11 = .ok (.getfield 14, 3) := by decide +kernel
theorem dX5_playerOf_14 : decode cX5_playerOf 14 = .ok (.iload_n 2, 1) := by decide +kernel
theorem dX5_playerOf_15 : decode cX5_playerOf 15 = .ok (.invokevirtual 31, 3) := by decide +kernel
theorem dX5_playerOf_18 : decode cX5_playerOf 18 = .ok (.iload_n 1, 1) := by decide +kernel
theorem dX5_playerOf_19 : decode cX5_playerOf 19 = .ok (.if_icmp .ne 9, 3) := by decide +kernel
theorem dX5_playerOf_22 : decode cX5_playerOf 22 = .ok (.aload_n 0, 1) := by decide +kernel
theorem dX5_playerOf_23 : decode cX5_playerOf 23 = .ok (.iload_n 2, 1) := by decide +kernel
theorem dX5_playerOf_24 : decode cX5_playerOf 24 = .ok (.invokevirtual 42, 3) := by decide +kernel
theorem dX5_playerOf_27 : decode cX5_playerOf 27 = .ok (.ireturn, 1) := by decide +kernel
theorem dX5_playerOf_28 : decode cX5_playerOf 28 = .ok (.iinc 2 1, 3) := by decide +kernel
theorem dX5_playerOf_31 : decode cX5_playerOf 31 = .ok (.goto (-29), 3) := by decide +kernel
theorem dX5_playerOf_34 : decode cX5_playerOf 34 = .ok (.iconst (-1), 1) := by decide +kernel
theorem dX5_playerOf_35 : decode cX5_playerOf 35 = .ok (.ireturn, 1) := by decide +kernel
set_option maxRecDepth 20000 in
theorem ggX5_winner_X2_at : GoodIn wsX5_winner wsX2_at := goodIn_r _ [7, 8, 24] (by decide +kernel) (by decide +kernel)
set_option maxRecDepth 20000 in
theorem gX5_winner_X2_at : GoodIn wsX5_winner (wsV RX5 31 RX2 yX2_at wsX2_at) := goodIn_app (goodIn_of _ (by decide +kernel)) ggX5_winner_X2_at
set_option maxRecDepth 20000 in
theorem ggX5_winner_X5_beats : GoodIn wsX5_winner wsX5_beats := goodIn_r _ [12, 13, 14, 15] (by decide +kernel) (by decide +kernel)
set_option maxRecDepth 20000 in
theorem gX5_winner_X5_beats : GoodIn wsX5_winner (va_wsS RX5 45 yX5_beats wsX5_beats) := goodIn_app (goodIn_of _ (by decide +kernel)) ggX5_winner_X5_beats
set_option maxRecDepth 20000 in
theorem ggX5_winner_X5_playerAt : GoodIn wsX5_winner wsX5_playerAt := goodIn_r _ [19, 20, 21, 22, 23] (by decide +kernel) (by decide +kernel)
set_option maxRecDepth 20000 in
theorem gX5_winner_X5_playerAt : GoodIn wsX5_winner (wsV RX5 42 RX5 yX5_playerAt wsX5_playerAt) := goodIn_app (goodIn_of _ (by decide +kernel)) ggX5_winner_X5_playerAt
theorem dX5_winner_0 : decode cX5_winner 0 = .ok (.iconst 0, 1) := by decide +kernel
theorem dX5_winner_1 : decode cX5_winner 1 = .ok (.istore_n 1, 1) := by decide +kernel
theorem dX5_winner_2 : decode cX5_winner 2 = .ok (.iconst 1, 1) := by decide +kernel
theorem dX5_winner_3 : decode cX5_winner 3 = .ok (.istore_n 2, 1) := by decide +kernel
theorem dX5_winner_4 : decode cX5_winner 4 = .ok (.iload_n 2, 1) := by decide +kernel
theorem dX5_winner_5 : decode cX5_winner 5 = .ok (.aload_n 0, 1) := by decide +kernel
theorem dX5_winner_6 : decode cX5_winner 6 = .ok (.getfield 24, 3) := by decide +kernel
theorem dX5_winner_9 : decode cX5_winner 9 = .ok (.if_icmp .ge 33, 3) := by decide +kernel
theorem dX5_winner_12 : decode cX5_winner 12 = .ok (.aload_n 0, 1) := by decide +kernel
theorem dX5_winner_13 : decode cX5_winner 13 = .ok (.getfield 14, 3) := by decide +kernel
theorem dX5_winner_16 : decode cX5_winner 16 = .ok (.iload_n 2, 1) := by decide +kernel
theorem dX5_winner_17 : decode cX5_winner 17 = .ok (.invokevirtual 31, 3) := by decide +kernel
theorem dX5_winner_20 : decode cX5_winner 20 = .ok (.aload_n 0, 1) := by decide +kernel
theorem dX5_winner_21 : decode cX5_winner 21 = .ok (.getfield 14, 3) := by decide +kernel
theorem dX5_winner_24 : decode cX5_winner 24 = .ok (.iload_n 1, 1) := by decide +kernel
theorem dX5_winner_25 : decode cX5_winner 25 = .ok (.invokevirtual 31, 3) := by decide +kernel
theorem dX5_winner_28 : decode cX5_winner 28 = .ok (.invokestatic 45, 3) := by decide +kernel
theorem dX5_winner_31 : decode cX5_winner 31 = .ok (.ifCond .eq 5, 3) := by decide +kernel
theorem dX5_winner_34 : decode cX5_winner 34 = .ok (.iload_n 2, 1) := by decide +kernel
theorem dX5_winner_35 : decode cX5_winner 35 = .ok (.istore_n 1, 1) := by decide +kernel
theorem dX5_winner_36 : decode cX5_winner 36 = .ok (.iinc 2 1, 3) := by decide +kernel
theorem dX5_winner_39 : decode cX5_winner 39 = .ok (.goto (-35), 3) := by decide +kernel
theorem dX5_winner_42 : decode cX5_winner 42 = .ok (.aload_n 0, 1) := by decide +kernel
theorem dX5_winner_43 : decode cX5_winner 43 = .ok (.iload_n 1, 1) := by decide +kernel
theorem dX5_winner_44 : decode cX5_winner 44 = .ok (.invokevirtual 42, 3) := by decide +kernel
theorem dX5_winner_47 : decode cX5_winner 47 = .ok (.ireturn, 1) := by decide +kernel
theorem dX5_playerAt_0 : decode cX5_playerAt 0 = .ok (.aload_n 0, 1) := by decide +kernel
theorem dX5_playerAt_1 : decode cX5_playerAt 1 = .ok (.getfield 20, 3) := by decide +kernel
theorem dX5_playerAt_4 : decode cX5_playerAt 4 = .ok (.iload_n 1, 1) := by decide +kernel
theorem dX5_playerAt_5 : decode cX5_playerAt 5 = .ok (.iadd, 1) := by decide +kernel
theorem dX5_playerAt_6 : decode cX5_playerAt 6 = .ok (.iconst 4, 1) := by decide +kernel
theorem dX5_playerAt_7 : decode cX5_playerAt 7 = .ok (.irem, 1) := by decide +kernel
theorem dX5_playerAt_8 : decode cX5_playerAt 8 = .ok (.ireturn, 1) := by decide +kernel
set_option maxRecDepth 20000 in
theorem ggX5_beats_X6_suitOf : GoodIn wsX5_beats wsX6_suitOf := goodIn_r _ [3] (by decide +kernel) (by decide +kernel)
set_option maxRecDepth 20000 in
theorem gX5_beats_X6_suitOf_n35 : GoodIn wsX5_beats (wsX6_suitOf) := ggX5_beats_X6_suitOf
theorem dX5_beats_0 : decode cX5_beats 0 = .ok (.iload_n 0, 1) := by decide +kernel
theorem dX5_beats_1 : decode cX5_beats 1 = .ok (.invokestatic 35, 3) := by decide +kernel
theorem dX5_beats_4 : decode cX5_beats 4 = .ok (.iload_n 1, 1) := by decide +kernel
theorem dX5_beats_5 : decode cX5_beats 5 = .ok (.invokestatic 35, 3) := by decide +kernel
theorem dX5_beats_8 : decode cX5_beats 8 = .ok (.if_icmp .ne 7, 3) := by decide +kernel
theorem dX5_beats_11 : decode cX5_beats 11 = .ok (.iconst 1, 1) := by decide +kernel
theorem dX5_beats_12 : decode cX5_beats 12 = .ok (.goto 4, 3) := by decide +kernel
theorem dX5_beats_15 : decode cX5_beats 15 = .ok (.iconst 0, 1) := by decide +kernel
theorem dX5_beats_16 : decode cX5_beats 16 = .ok (.istore_n 2, 1) := by decide +kernel
theorem dX5_beats_17 : decode cX5_beats 17 = .ok (.iload_n 2, 1) := by decide +kernel
theorem dX5_beats_18 : decode cX5_beats 18 = .ok (.ifCond .eq 16, 3) := by decide +kernel
theorem dX5_beats_21 : decode cX5_beats 21 = .ok (.iload_n 0, 1) := by decide +kernel
theorem dX5_beats_22 : decode cX5_beats 22 = .ok (.iload_n 1, 1) := by decide +kernel
theorem dX5_beats_23 : decode cX5_beats 23 = .ok (.if_icmp .le 7, 3) := by decide +kernel
theorem dX5_beats_26 : decode cX5_beats 26 = .ok (.iconst 1, 1) := by decide +kernel
theorem dX5_beats_27 : decode cX5_beats 27 = .ok (.goto 20, 3) := by decide +kernel
theorem dX5_beats_30 : decode cX5_beats 30 = .ok (.iconst 0, 1) := by decide +kernel
theorem dX5_beats_31 : decode cX5_beats 31 = .ok (.goto 16, 3) := by decide +kernel
theorem dX5_beats_34 : decode cX5_beats 34 = .ok (.iload_n 0, 1) := by decide +kernel
theorem dX5_beats_35 : decode cX5_beats 35 = .ok (.invokestatic 35, 3) := by decide +kernel
theorem dX5_beats_38 : decode cX5_beats 38 = .ok (.iconst 4, 1) := by decide +kernel
theorem dX5_beats_39 : decode cX5_beats 39 = .ok (.if_icmp .ne 7, 3) := by decide +kernel
theorem dX5_beats_42 : decode cX5_beats 42 = .ok (.iconst 1, 1) := by decide +kernel
theorem dX5_beats_43 : decode cX5_beats 43 = .ok (.goto 4, 3) := by decide +kernel
theorem dX5_beats_46 : decode cX5_beats 46 = .ok (.iconst 0, 1) := by decide +kernel
theorem dX5_beats_47 : decode cX5_beats 47 = .ok (.ireturn, 1) := by decide +kernel
set_option maxRecDepth 20000 in
theorem ggX6_init_X1_init : GoodIn wsX6_init wsX1_init := goodIn_r _ [34, 35, 2, 3, 36, 37, 38, 39, 40, 41, 42, 43, 44, 45, 46, 47, 48, 49, 106, 77] (by decide +kernel) (by decide +kernel)
set_option maxRecDepth 20000 in
theorem gX6_init_X1_init : GoodIn wsX6_init (wsX1_init) := ggX6_init_X1_init
set_option maxRecDepth 20000 in
theorem ggX6_init_X0_init : GoodIn wsX6_init wsX0_init := goodIn_r _ [52, 53, 2, 3, 54, 96, 97, 98] (by decide +kernel) (by decide +kernel)
set_option maxRecDepth 20000 in
theorem gX6_init_X0_init : GoodIn wsX6_init (wsX0_init) := ggX6_init_X0_init
set_option maxRecDepth 20000 in
theorem ggX6_init_X5_init : GoodIn wsX6_init wsX5_init := goodIn_r _ [57, 58, 2, 3, 59, 37, 38, 60, 61, 41, 42, 43, 44, 45, 46, 47, 48, 49, 106, 99, 100, 101] (by decide +kernel) (by decide +kernel)
set_option maxRecDepth 20000 in
theorem gX6_init_X5_init : GoodIn wsX6_init (wsX5_init) := ggX6_init_X5_init
set_option maxRecDepth 20000 in
theorem ggX6_init_X4_init : GoodIn wsX6_init wsX4_init := goodIn_r _ [64, 65, 2, 3, 66, 37, 38, 67, 68, 69, 41, 42, 43, 44, 45, 46, 47, 48, 49, 106, 102, 103, 104] (by decide +kernel) (by decide +kernel)
set_option maxRecDepth 20000 in
theorem gX6_init_X4_init : GoodIn wsX6_init (wsX4_init) := ggX6_init_X4_init
set_option maxRecDepth 20000 in
theorem ggX6_init_X3_init : GoodIn wsX6_init wsX3_init := goodIn_r _ [72, 73, 2, 3, 74, 45, 46, 47, 75, 76, 105] (by decide +kernel) (by decide +kernel)
set_option maxRecDepth 20000 in
theorem gX6_init_X3_init : GoodIn wsX6_init (wsX3_init) := ggX6_init_X3_init
theorem dX6_init_0 : decode cX6_init 0 = .ok (.aload_n 0, 1) := by decide +kernel
theorem dX6_init_1 : decode cX6_init 1 = .ok (.invokespecial 3, 3) := by decide +kernel
theorem dX6_init_4 : decode cX6_init 4 = .ok (.aload_n 0, 1) := by decide +kernel
theorem dX6_init_5 : decode cX6_init 5 = .ok (.new 9, 3) := by decide +kernel
theorem dX6_init_8 : decode cX6_init 8 = .ok (.dup, 1) := by decide +kernel
theorem dX6_init_9 : decode cX6_init 9 = .ok (.invokespecial 11, 3) := by decide +kernel
theorem dX6_init_12 : decode cX6_init 12 = .ok (.putfield 12, 3) := by decide +kernel
theorem dX6_init_15 : decode cX6_init 15 = .ok (.aload_n 0, 1) := by decide +kernel
theorem dX6_init_16 : decode cX6_init 16 = .ok (.new 16, 3) := by decide +kernel
theorem dX6_init_19 : decode cX6_init 19 = .ok (.dup, 1) := by decide +kernel
theorem dX6_init_20 : decode cX6_init 20 = .ok (.invokespecial 18, 3) := by decide +kernel
theorem dX6_init_23 : decode cX6_init 23 = .ok (.putfield 19, 3) := by decide +kernel
theorem dX6_init_26 : decode cX6_init 26 = .ok (.aload_n 0, 1) := by decide +kernel
theorem dX6_init_27 : decode cX6_init 27 = .ok (.new 23, 3) := by decide +kernel
theorem dX6_init_30 : decode cX6_init 30 = .ok (.dup, 1) := by decide +kernel
theorem dX6_init_31 : decode cX6_init 31 = .ok (.invokespecial 25, 3) := by decide +kernel
theorem dX6_init_34 : decode cX6_init 34 = .ok (.putfield 26, 3) := by decide +kernel
theorem dX6_init_37 : decode cX6_init 37 = .ok (.aload_n 0, 1) := by decide +kernel
theorem dX6_init_38 : decode cX6_init 38 = .ok (.new 30, 3) := by decide +kernel
theorem dX6_init_41 : decode cX6_init 41 = .ok (.dup, 1) := by decide +kernel
theorem dX6_init_42 : decode cX6_init 42 = .ok (.invokespecial 32, 3) := by decide +kernel
theorem dX6_init_45 : decode cX6_init 45 = .ok (.putfield 33, 3) := by decide +kernel
theorem dX6_init_48 : decode cX6_init 48 = .ok (.aload_n 0, 1) := by decide +kernel
theorem dX6_init_49 : decode cX6_init 49 = .ok (.new 37, 3) := by decide +kernel
theorem dX6_init_52 : decode cX6_init 52 = .ok (.dup, 1) := by decide +kernel
theorem dX6_init_53 : decode cX6_init 53 = .ok (.iconst 4, 1) := by decide +kernel
theorem dX6_init_54 : decode cX6_init 54 = .ok (.invokespecial 39, 3) := by decide +kernel
theorem dX6_init_57 : decode cX6_init 57 = .ok (.putfield 42, 3) := by decide +kernel
theorem dX6_init_60 : decode cX6_init 60 = .ok (.aload_n 0, 1) := by decide +kernel
theorem dX6_init_61 : decode cX6_init 61 = .ok (.new 37, 3) := by decide +kernel
theorem dX6_init_64 : decode cX6_init 64 = .ok (.dup, 1) := by decide +kernel
theorem dX6_init_65 : decode cX6_init 65 = .ok (.iconst 2, 1) := by decide +kernel
theorem dX6_init_66 : decode cX6_init 66 = .ok (.invokespecial 39, 3) := by decide +kernel
theorem dX6_init_69 : decode cX6_init 69 = .ok (.putfield 46, 3) := by decide +kernel
theorem dX6_init_72 : decode cX6_init 72 = .ok (.aload_n 0, 1) := by decide +kernel
theorem dX6_init_73 : decode cX6_init 73 = .ok (.iconst (-1), 1) := by decide +kernel
theorem dX6_init_74 : decode cX6_init 74 = .ok (.putfield 49, 3) := by decide +kernel
theorem dX6_init_77 : decode cX6_init 77 = .ok (.aload_n 0, 1) := by decide +kernel
theorem dX6_init_78 : decode cX6_init 78 = .ok (.iconst 0, 1) := by decide +kernel
theorem dX6_init_79 : decode cX6_init 79 = .ok (.putfield 53, 3) := by decide +kernel
theorem dX6_init_82 : decode cX6_init 82 = .ok (.aload_n 0, 1) := by decide +kernel
theorem dX6_init_83 : decode cX6_init 83 = .ok (.iconst (-1), 1) := by decide +kernel
theorem dX6_init_84 : decode cX6_init 84 = .ok (.putfield 56, 3) := by decide +kernel
theorem dX6_init_87 : decode cX6_init 87 = .ok (.aload_n 0, 1) := by decide +kernel
theorem dX6_init_88 : decode cX6_init 88 = .ok (.iconst (-1), 1) := by decide +kernel
theorem dX6_init_89 : decode cX6_init 89 = .ok (.putfield 59, 3) := by decide +kernel
theorem dX6_init_92 : decode cX6_init 92 = .ok (.aload_n 0, 1) := by decide +kernel
theorem dX6_init_93 : decode cX6_init 93 = .ok (.iconst (-1), 1) := by decide +kernel
theorem dX6_init_94 : decode cX6_init 94 = .ok (.putfield 62, 3) := by decide +kernel
theorem dX6_init_97 : decode cX6_init 97 = .ok (.aload_n 0, 1) := by decide +kernel
theorem dX6_init_98 : decode cX6_init 98 = .ok (.iconst (-1), 1) := by decide +kernel
theorem dX6_init_99 : decode cX6_init 99 = .ok (.putfield 65, 3) := by decide +kernel
theorem dX6_init_102 : decode cX6_init 102 = .ok (.aload_n 0, 1) := by decide +kernel
theorem dX6_init_103 : decode cX6_init 103 = .ok (.iconst (-1), 1) := by decide +kernel
theorem dX6_init_104 : decode cX6_init 104 = .ok (.putfield 68, 3) := by decide +kernel
theorem dX6_init_107 : decode cX6_init 107 = .ok (.return_, 1) := by decide +kernel
set_option maxRecDepth 20000 in
theorem ggX6_deal_X6_behind : GoodIn wsX6_deal wsX6_behind := goodIn_r _ [13] (by decide +kernel) (by decide +kernel)
set_option maxRecDepth 20000 in
theorem gX6_deal_X6_behind : GoodIn wsX6_deal (va_wsS RX6 84 yX6_behind wsX6_behind) := goodIn_app (goodIn_of _ (by decide +kernel)) ggX6_deal_X6_behind
set_option maxRecDepth 20000 in
theorem ggX6_deal_X6_clearDeal : GoodIn wsX6_deal wsX6_clearDeal := goodIn_r _ [17, 18, 19, 7, 20, 21, 22, 23, 24, 25, 26, 27, 28, 29, 30, 31, 32, 33, 34, 35, 36, 37, 38, 39, 40, 41, 42, 43, 44, 45, 46, 47, 48, 49, 83, 84, 85, 86, 87, 88, 89, 90, 91, 92, 93, 94, 95, 96, 97, 98, 99, 100, 101, 102, 103, 104, 105, 106, 107] (by decide +kernel) (by decide +kernel)
set_option maxRecDepth 20000 in
theorem gX6_deal_X6_clearDeal : GoodIn wsX6_deal (wsV RX6 88 RX6 yX6_clearDeal wsX6_clearDeal) := goodIn_app (goodIn_of _ (by decide +kernel)) ggX6_deal_X6_clearDeal
set_option maxRecDepth 20000 in
theorem ggX6_deal_X1_shuffle : GoodIn wsX6_deal wsX1_shuffle := goodIn_r _ [54, 55, 56, 57, 58, 59, 60, 61, 62, 63, 64, 65, 53, 66, 67, 68, 69, 70, 108, 109] (by decide +kernel) (by decide +kernel)
set_option maxRecDepth 20000 in
theorem gX6_deal_X1_shuffle : GoodIn wsX6_deal (wsV RX6 91 RX1 yX1_shuffle wsX1_shuffle) := goodIn_app (goodIn_of _ (by decide +kernel)) ggX6_deal_X1_shuffle
set_option maxRecDepth 20000 in
theorem ggX6_deal_X6_handOut : GoodIn wsX6_deal wsX6_handOut := goodIn_r _ [74, 7, 75, 8, 76, 77, 78, 79, 53, 80, 55, 67, 68, 69, 60, 70, 62, 81, 12, 82, 44, 45, 46, 47, 48, 49, 10, 11, 13, 83, 84, 85, 86, 87, 88, 89, 90, 91, 92, 93, 94, 95, 96, 97, 98, 99, 100, 108, 109, 107] (by decide +kernel) (by decide +kernel)
set_option maxRecDepth 20000 in
theorem gX6_deal_X6_handOut : GoodIn wsX6_deal (wsV RX6 94 RX6 yX6_handOut wsX6_handOut) := goodIn_app (goodIn_of _ (by decide +kernel)) ggX6_deal_X6_handOut
theorem dX6_deal_0 : decode cX6_deal 0 = .ok (.iload_n 1, 1) := by decide +kernel
theorem dX6_deal_1 : decode cX6_deal 1 = .ok (.ifCond .lt 9, 3) := by decide +kernel
theorem dX6_deal_4 : decode cX6_deal 4 = .ok (.iload_n 1, 1) := by decide +kernel
theorem dX6_deal_5 : decode cX6_deal 5 = .ok (.ldc 71, 2) := by decide +kernel
theorem dX6_deal_7 : decode cX6_deal 7 = .ok (.if_icmp .lt 13, 3) := by decide +kernel
theorem dX6_deal_10 : decode cX6_deal 10 = .ok (.new 72, 3) := by decide +kernel
theorem dX6_deal_13 : decode cX6_deal 13 = .ok (.dup, 1) := by decide +kernel
theorem dX6_deal_14 : decode cX6_deal 14 = .ok (.ldc 74, 2) := by decide +kernel
theorem dX6_deal_16 : decode cX6_deal 16 = .ok (.invokespecial 76, 3) := by decide +kernel
theorem dX6_deal_19 : decode cX6_deal 19 = .ok (.athrow, 1) := by decide +kernel
theorem dX6_deal_20 : decode cX6_deal 20 = .ok (.aload_n 0, 1) := by decide +kernel
theorem dX6_deal_21 : decode cX6_deal 21 = .ok (.getfield 53, 3) := by decide +kernel
theorem dX6_deal_24 : decode cX6_deal 24 = .ok (.ifCond .eq 13, 3) := by decide +kernel
theorem dX6_deal_27 : decode cX6_deal 27 = .ok (.new 79, 3) := by decide +kernel
theorem dX6_deal_30 : decode cX6_deal 30 = .ok (.dup, 1) := by decide +kernel
theorem dX6_deal_31 : decode cX6_deal 31 = .ok (.ldc 81, 2) := by decide +kernel
theorem dX6_deal_33 : decode cX6_deal 33 = .ok (.invokespecial 83, 3) := by decide +kernel
theorem dX6_deal_36 : decode cX6_deal 36 = .ok (.athrow, 1) := by decide +kernel
theorem dX6_deal_37 : decode cX6_deal 37 = .ok (.aload_n 0, 1) := by decide +kernel
theorem dX6_deal_38 : decode cX6_deal 38 = .ok (.aload_n 0, 1) := by decide +kernel
theorem dX6_deal_39 : decode cX6_deal 39 = .ok (.getfield 49, 3) := by decide +kernel
theorem dX6_deal_42 : decode cX6_deal 42 = .ok (.invokestatic 84, 3) := by decide +kernel
theorem dX6_deal_45 : decode cX6_deal 45 = .ok (.putfield 49, 3) := by decide +kernel
theorem dX6_deal_48 : decode cX6_deal 48 = .ok (.aload_n 0, 1) := by decide +kernel
theorem dX6_deal_49 : decode cX6_deal 49 = .ok (.invokevirtual 88, 3) := by decide +kernel
theorem dX6_deal_52 : decode cX6_deal 52 = .ok (.aload_n 0, 1) := by decide +kernel
theorem dX6_deal_53 : decode cX6_deal 53 = .ok (.getfield 12, 3) := by decide +kernel
theorem dX6_deal_56 : decode cX6_deal 56 = .ok (.iload_n 1, 1) := by decide +kernel
theorem dX6_deal_57 : decode cX6_deal 57 = .ok (.invokevirtual 91, 3) := by decide +kernel
theorem dX6_deal_60 : decode cX6_deal 60 = .ok (.aload_n 0, 1) := by decide +kernel
theorem dX6_deal_61 : decode cX6_deal 61 = .ok (.invokevirtual 94, 3) := by decide +kernel
theorem dX6_deal_64 : decode cX6_deal 64 = .ok (.aload_n 0, 1) := by decide +kernel
theorem dX6_deal_65 : decode cX6_deal 65 = .ok (.iconst 1, 1) := by decide +kernel
theorem dX6_deal_66 : decode cX6_deal 66 = .ok (.putfield 53, 3) := by decide +kernel
theorem dX6_deal_69 : decode cX6_deal 69 = .ok (.aload_n 0, 1) := by decide +kernel
theorem dX6_deal_70 : decode cX6_deal 70 = .ok (.aload_n 0, 1) := by decide +kernel
theorem dX6_deal_71 : decode cX6_deal 71 = .ok (.getfield 49, 3) := by decide +kernel
theorem dX6_deal_74 : decode cX6_deal 74 = .ok (.putfield 56, 3) := by decide +kernel
theorem dX6_deal_77 : decode cX6_deal 77 = .ok (.aload_n 0, 1) := by decide +kernel
theorem dX6_deal_78 : decode cX6_deal 78 = .ok (.getfield 49, 3) := by decide +kernel
theorem dX6_deal_81 : decode cX6_deal 81 = .ok (.ireturn, 1) := by decide +kernel
set_option maxRecDepth 20000 in
theorem ggX6_bid_X0_enter : GoodIn wsX6_bid wsX0_enter := goodIn_r _ [12, 13, 14, 15, 83, 84, 85] (by decide +kernel) (by decide +kernel)
set_option maxRecDepth 20000 in
theorem gX6_bid_X0_enter : GoodIn wsX6_bid (wsV RX6 106 RX0 yX0_enter wsX0_enter) := goodIn_app (goodIn_of _ (by decide +kernel)) ggX6_bid_X0_enter
set_option maxRecDepth 20000 in
theorem ggX6_bid_X0_allPassed : GoodIn wsX6_bid wsX0_allPassed := goodIn_r _ [19, 13, 20, 21, 22, 23, 24, 25, 26, 83, 84, 85] (by decide +kernel) (by decide +kernel)
set_option maxRecDepth 20000 in
theorem gX6_bid_X0_allPassed : GoodIn wsX6_bid (wsV RX6 110 RX0 yX0_allPassed wsX0_allPassed) := goodIn_app (goodIn_of _ (by decide +kernel)) ggX6_bid_X0_allPassed
set_option maxRecDepth 20000 in
theorem ggX6_bid_X6_endDeal : GoodIn wsX6_bid wsX6_endDeal := goodIn_r _ [31, 5, 7, 65, 66, 67, 68, 69, 70, 71, 72, 73, 74, 75, 76, 77, 78, 79, 80, 81, 82] (by decide +kernel) (by decide +kernel)
set_option maxRecDepth 20000 in
theorem gX6_bid_X6_endDeal : GoodIn wsX6_bid (wsV RX6 114 RX6 yX6_endDeal wsX6_endDeal) := goodIn_app (goodIn_of _ (by decide +kernel)) ggX6_bid_X6_endDeal
set_option maxRecDepth 20000 in
theorem ggX6_bid_X0_isSettled : GoodIn wsX6_bid wsX0_isSettled := goodIn_r _ [35, 15, 13, 20, 21, 22, 23, 24, 25, 26, 83, 84, 85] (by decide +kernel) (by decide +kernel)
set_option maxRecDepth 20000 in
theorem gX6_bid_X0_isSettled : GoodIn wsX6_bid (wsV RX6 117 RX0 yX0_isSettled wsX0_isSettled) := goodIn_app (goodIn_of _ (by decide +kernel)) ggX6_bid_X0_isSettled
set_option maxRecDepth 20000 in
theorem ggX6_bid_X6_beginGame : GoodIn wsX6_bid wsX6_beginGame := goodIn_r _ [39, 6, 40, 7, 5, 41, 42, 43, 30, 44, 45, 46, 47, 48, 49, 50, 51, 52, 53, 54, 65, 66, 67, 68, 69, 70, 71, 72, 73, 74, 75, 76, 77, 78, 79, 80, 81, 82, 83, 84, 85, 86] (by decide +kernel) (by decide +kernel)
set_option maxRecDepth 20000 in
theorem gX6_bid_X6_beginGame : GoodIn wsX6_bid (wsV RX6 120 RX6 yX6_beginGame wsX6_beginGame) := goodIn_app (goodIn_of _ (by decide +kernel)) ggX6_bid_X6_beginGame
set_option maxRecDepth 20000 in
theorem ggX6_bid_X0_nextBehind : GoodIn wsX6_bid wsX0_nextBehind := goodIn_r _ [58, 59, 30, 60, 61, 62, 63, 11, 64, 13, 83, 84, 85] (by decide +kernel) (by decide +kernel)
set_option maxRecDepth 20000 in
theorem gX6_bid_X0_nextBehind : GoodIn wsX6_bid (wsV RX6 123 RX0 yX0_nextBehind wsX0_nextBehind) := goodIn_app (goodIn_of _ (by decide +kernel)) ggX6_bid_X0_nextBehind
theorem dX6_bid_0 : decode cX6_bid 0 = .ok (.iload_n 1, 1) := by decide +kernel
theorem dX6_bid_1 : decode cX6_bid 1 = .ok (.ifCond .lt 8, 3) := by decide +kernel
theorem dX6_bid_4 : decode cX6_bid 4 = .ok (.iload_n 1, 1) := by decide +kernel
theorem dX6_bid_5 : decode cX6_bid 5 = .ok (.iconst 5, 1) := by decide +kernel
theorem dX6_bid_6 : decode cX6_bid 6 = .ok (.if_icmp .le 13, 3) := by decide +kernel
theorem dX6_bid_9 : decode cX6_bid 9 = .ok (.new 72, 3) := by decide +kernel
theorem dX6_bid_12 : decode cX6_bid 12 = .ok (.dup, 1) := by decide +kernel
theorem dX6_bid_13 : decode cX6_bid 13 = .ok (.ldc 97, 2) := by decide +kernel
theorem dX6_bid_15 : decode cX6_bid 15 = .ok (.invokespecial 76, 3) := by decide +kernel
theorem dX6_bid_18 : decode cX6_bid 18 = .ok (.athrow, 1) := by decide +kernel
theorem dX6_bid_19 : decode cX6_bid 19 = .ok (.aload_n 0, 1) := by decide +kernel
theorem dX6_bid_20 : decode cX6_bid 20 = .ok (.getfield 53, 3) := by decide +kernel
theorem dX6_bid_23 : decode cX6_bid 23 = .ok (.iconst 1, 1) := by decide +kernel
theorem dX6_bid_24 : decode cX6_bid 24 = .ok (.if_icmp .eq 13, 3) := by decide +kernel
theorem dX6_bid_27 : decode cX6_bid 27 = .ok (.new 79, 3) := by decide +kernel
theorem dX6_bid_30 : decode cX6_bid 30 = .ok (.dup, 1) := by decide +kernel
theorem dX6_bid_31 : decode cX6_bid 31 = .ok (.ldc 99, 2) := by decide +kernel
theorem dX6_bid_33 : decode cX6_bid 33 = .ok (.invokespecial 83, 3) := by decide +kernel
theorem dX6_bid_36 : decode cX6_bid 36 = .ok (.athrow, 1) := by decide +kernel
theorem dX6_bid_37 : decode cX6_bid 37 = .ok (.iload_n 1, 1) := by decide +kernel
theorem dX6_bid_38 : decode cX6_bid 38 = .ok (.ifCond .le 24, 3) := by decide +kernel
theorem dX6_bid_41 : decode cX6_bid 41 = .ok (.iload_n 1, 1) := by decide +kernel
theorem dX6_bid_42 : decode cX6_bid 42 = .ok (.aload_n 0, 1) := by decide +kernel
theorem dX6_bid_43 : decode cX6_bid 43 = .ok (.getfield 19, 3) := by decide +kernel
theorem dX6_bid_46 : decode cX6_bid 46 = .ok (.getfield 101, 3) := by decide +kernel
theorem dX6_bid_49 : decode cX6_bid 49 = .ok (.if_icmp .gt 13, 3) := by decide +kernel
theorem dX6_bid_52 : decode cX6_bid 52 = .ok (.new 79, 3) := by decide +kernel
theorem dX6_bid_55 : decode cX6_bid 55 = .ok (.dup, 1) := by decide +kernel
theorem dX6_bid_56 : decode cX6_bid 56 = .ok (.ldc 104, 2) := by decide +kernel
theorem dX6_bid_58 : decode cX6_bid 58 = .ok (.invokespecial 83, 3) := by decide +kernel
theorem dX6_bid_61 : decode cX6_bid 61 = .ok (.athrow, 1) := by decide +kernel
theorem dX6_bid_62 : decode cX6_bid 62 = .ok (.aload_n 0, 1) := by decide +kernel
theorem dX6_bid_63 : decode cX6_bid 63 = .ok (.getfield 19, 3) := by decide +kernel
theorem dX6_bid_66 : decode cX6_bid 66 = .ok (.aload_n 0, 1) := by decide +kernel
theorem dX6_bid_67 : decode cX6_bid 67 = .ok (.getfield 56, 3) := by decide +kernel
theorem dX6_bid_70 : decode cX6_bid 70 = .ok (.iload_n 1, 1) := by decide +kernel
theorem dX6_bid_71 : decode cX6_bid 71 = .ok (.invokevirtual 106, 3) := by decide +kernel
theorem dX6_bid_74 : decode cX6_bid 74 = .ok (.aload_n 0, 1) := by decide +kernel
theorem dX6_bid_75 : decode cX6_bid 75 = .ok (.getfield 19, 3) := by decide +kernel
theorem dX6_bid_78 : decode cX6_bid 78 = .ok (.invokevirtual 110, 3) := by decide +kernel
theorem dX6_bid_81 : decode cX6_bid 81 = .ok (.ifCond .eq 10, 3) := by decide +kernel
theorem dX6_bid_84 : decode cX6_bid 84 = .ok (.aload_n 0, 1) := by decide +kernel
theorem dX6_bid_85 : decode cX6_bid 85 = .ok (.invokevirtual 114, 3) := by decide +kernel
theorem dX6_bid_88 : decode cX6_bid 88 = .ok (.goto 35, 3) := by decide +kernel
theorem dX6_bid_91 : decode cX6_bid 91 = .ok (.aload_n 0, 1) := by decide +kernel
theorem dX6_bid_92 : decode cX6_bid 92 = .ok (.getfield 19, 3) := by decide +kernel
theorem dX6_bid_95 : decode cX6_bid 95 = .ok (.invokevirtual 117, 3) := by decide +kernel
theorem dX6_bid_98 : decode cX6_bid 98 = .ok (.ifCond .eq 10, 3) := by decide +kernel
theorem dX6_bid_101 : decode cX6_bid 101 = .ok (.aload_n 0, 1) := by decide +kernel
theorem dX6_bid_102 : decode cX6_bid 102 = .ok (.invokevirtual 120, 3) := by decide +kernel
theorem dX6_bid_105 : decode cX6_bid 105 = .ok (.goto 18, 3) := by decide +kernel
theorem dX6_bid_108 : decode cX6_bid 108 = .ok (.aload_n 0, 1) := by decide +kernel
theorem dX6_bid_109 : decode cX6_bid 109 = .ok (.aload_n 0, 1) := by decide +kernel
theorem dX6_bid_110 : decode cX6_bid 110 = .ok (.getfield 19, 3) := by decide +kernel
theorem dX6_bid_113 : decode cX6_bid 113 = .ok (.aload_n 0, 1) := by decide +kernel
theorem dX6_bid_114 : decode cX6_bid 114 = .ok (.getfield 56, 3) := by decide +kernel
theorem dX6_bid_117 : decode cX6_bid 117 = .ok (.invokevirtual 123, 3) := by decide +kernel
theorem dX6_bid_120 : decode cX6_bid 120 = .ok (.putfield 56, 3) := by decide +kernel
theorem dX6_bid_123 : decode cX6_bid 123 = .ok (.aload_n 0, 1) := by decide +kernel
theorem dX6_bid_124 : decode cX6_bid 124 = .ok (.getfield 53, 3) := by decide +kernel
theorem dX6_bid_127 : decode cX6_bid 127 = .ok (.ireturn, 1) := by decide +kernel
set_option maxRecDepth 20000 in
theorem ggX6_call_X6_calledKing : GoodIn wsX6_call wsX6_calledKing := goodIn_r _ [14, 6, 29, 30, 31, 32, 33, 34, 35, 36, 37, 38, 39, 40, 41, 42, 43, 44, 45, 46] (by decide +kernel) (by decide +kernel)
set_option maxRecDepth 20000 in
theorem gX6_call_X6_calledKing : GoodIn wsX6_call (wsV RX6 133 RX6 yX6_calledKing wsX6_calledKing) := goodIn_app (goodIn_of _ (by decide +kernel)) ggX6_call_X6_calledKing
set_option maxRecDepth 20000 in
theorem ggX6_call_X6_ownerOf : GoodIn wsX6_call wsX6_ownerOf := goodIn_r _ [18, 19, 20, 21, 22, 23, 24, 25, 26, 27, 13, 28, 29, 30, 31, 32, 33, 34, 35, 36, 37, 38, 39, 40, 41, 42, 43, 44, 45, 46, 47] (by decide +kernel) (by decide +kernel)
set_option maxRecDepth 20000 in
theorem gX6_call_X6_ownerOf : GoodIn wsX6_call (wsV RX6 137 RX6 yX6_ownerOf wsX6_ownerOf) := goodIn_app (goodIn_of _ (by decide +kernel)) ggX6_call_X6_ownerOf
theorem dX6_call_0 : decode cX6_call 0 = .ok (.iload_n 1, 1) := by decide +kernel
theorem dX6_call_1 : decode cX6_call 1 = .ok (.ifCond .lt 8, 3) := by decide +kernel
theorem dX6_call_4 : decode cX6_call 4 = .ok (.iload_n 1, 1) := by decide +kernel
theorem dX6_call_5 : decode cX6_call 5 = .ok (.iconst 4, 1) := by decide +kernel
theorem dX6_call_6 : decode cX6_call 6 = .ok (.if_icmp .lt 13, 3) := by decide +kernel
theorem dX6_call_9 : decode cX6_call 9 = .ok (.new 126, 3) := by decide +kernel
theorem dX6_call_12 : decode cX6_call 12 = .ok (.dup, 1) := by decide +kernel
theorem dX6_call_13 : decode cX6_call 13 = .ok (.ldc 128, 2) := by decide +kernel
theorem dX6_call_15 : decode cX6_call 15 = .ok (.invokespecial 130, 3) := by decide +kernel
theorem dX6_call_18 : decode cX6_call 18 = .ok (.athrow, 1) := by decide +kernel
theorem dX6_call_19 : decode cX6_call 19 = .ok (.aload_n 0, 1) := by decide +kernel
theorem dX6_call_20 : decode cX6_call 20 = .ok (.getfield 53, 3) := by decide +kernel
theorem dX6_call_23 : decode cX6_call 23 = .ok (.iconst 2, 1) := by decide +kernel
theorem dX6_call_24 : decode cX6_call 24 = .ok (.if_icmp .eq 13, 3) := by decide +kernel
theorem dX6_call_27 : decode cX6_call 27 = .ok (.new 79, 3) := by decide +kernel
theorem dX6_call_30 : decode cX6_call 30 = .ok (.dup, 1) := by decide +kernel
theorem dX6_call_31 : decode cX6_call 31 = .ok (.ldc 131, 2) := by decide +kernel
theorem dX6_call_33 : decode cX6_call 33 = .ok (.invokespecial 83, 3) := by decide +kernel
theorem dX6_call_36 : decode cX6_call 36 = .ok (.athrow, 1) := by decide +kernel
theorem dX6_call_37 : decode cX6_call 37 = .ok (.aload_n 0, 1) := by decide +kernel
theorem dX6_call_38 : decode cX6_call 38 = .ok (.iload_n 1, 1) := by decide +kernel
theorem dX6_call_39 : decode cX6_call 39 = .ok (.putfield 62, 3) := by decide +kernel
theorem dX6_call_42 : decode cX6_call 42 = .ok (.aload_n 0, 1) := by decide +kernel
theorem dX6_call_43 : decode cX6_call 43 = .ok (.aload_n 0, 1) := by decide +kernel
theorem dX6_call_44 : decode cX6_call 44 = .ok (.aload_n 0, 1) := by decide +kernel
theorem dX6_call_45 : decode cX6_call 45 = .ok (.invokevirtual 133, 3) := by decide +kernel
theorem dX6_call_48 : decode cX6_call 48 = .ok (.invokevirtual 137, 3) := by decide +kernel
theorem dX6_call_51 : decode cX6_call 51 = .ok (.putfield 65, 3) := by decide +kernel
theorem dX6_call_54 : decode cX6_call 54 = .ok (.aload_n 0, 1) := by decide +kernel
theorem dX6_call_55 : decode cX6_call 55 = .ok (.aload_n 0, 1) := by decide +kernel
theorem dX6_call_56 : decode cX6_call 56 = .ok (.getfield 65, 3) := by decide +kernel
theorem dX6_call_59 : decode cX6_call 59 = .ok (.aload_n 0, 1) := by decide +kernel
theorem dX6_call_60 : decode cX6_call 60 = .ok (.getfield 59, 3) := by decide +kernel
theorem dX6_call_63 : decode cX6_call 63 = .ok (.if_icmp .ne 7, 3) := by decide +kernel
theorem dX6_call_66 : decode cX6_call 66 = .ok (.iconst (-1), 1) := by decide +kernel
theorem dX6_call_67 : decode cX6_call 67 = .ok (.goto 7, 3) := by decide +kernel
theorem dX6_call_70 : decode cX6_call 70 = .ok (.aload_n 0, 1) := by decide +kernel
theorem dX6_call_71 : decode cX6_call 71 = .ok (.getfield 65, 3) := by decide +kernel
theorem dX6_call_74 : decode cX6_call 74 = .ok (.putfield 68, 3) := by decide +kernel
theorem dX6_call_77 : decode cX6_call 77 = .ok (.aload_n 0, 1) := by decide +kernel
theorem dX6_call_78 : decode cX6_call 78 = .ok (.iconst 3, 1) := by decide +kernel
theorem dX6_call_79 : decode cX6_call 79 = .ok (.putfield 53, 3) := by decide +kernel
theorem dX6_call_82 : decode cX6_call 82 = .ok (.aload_n 0, 1) := by decide +kernel
theorem dX6_call_83 : decode cX6_call 83 = .ok (.getfield 53, 3) := by decide +kernel
theorem dX6_call_86 : decode cX6_call 86 = .ok (.ireturn, 1) := by decide +kernel
set_option maxRecDepth 20000 in
theorem ggX6_take_X6_groupsNow : GoodIn wsX6_take wsX6_groupsNow := goodIn_r _ [17, 5, 6, 18, 19, 16, 20, 48, 49, 50, 51, 52, 53, 54, 55, 56, 57, 58, 59, 60, 61, 62, 63, 64, 65, 66, 67, 68] (by decide +kernel) (by decide +kernel)
set_option maxRecDepth 20000 in
theorem gX6_take_X6_groupsNow : GoodIn wsX6_take (wsV RX6 140 RX6 yX6_groupsNow wsX6_groupsNow) := goodIn_app (goodIn_of _ (by decide +kernel)) ggX6_take_X6_groupsNow
set_option maxRecDepth 20000 in
theorem ggX6_take_X6_groupSize : GoodIn wsX6_take wsX6_groupSize := goodIn_r _ [23] (by decide +kernel) (by decide +kernel)
set_option maxRecDepth 20000 in
theorem gX6_take_X6_groupSize : GoodIn wsX6_take (va_wsS RX6 147 yX6_groupSize wsX6_groupSize) := goodIn_app (goodIn_of _ (by decide +kernel)) ggX6_take_X6_groupSize
set_option maxRecDepth 20000 in
theorem ggX6_take_X1_cardsFrom : GoodIn wsX6_take wsX1_cardsFrom := goodIn_r _ [28, 29, 30, 31, 32, 33, 34, 35, 36, 16, 37, 69, 70] (by decide +kernel) (by decide +kernel)
set_option maxRecDepth 20000 in
theorem gX6_take_X1_cardsFrom : GoodIn wsX6_take (wsV RX6 150 RX1 yX1_cardsFrom wsX1_cardsFrom) := goodIn_app (goodIn_of _ (by decide +kernel)) ggX6_take_X1_cardsFrom
set_option maxRecDepth 20000 in
theorem ggX6_take_X3_at : GoodIn wsX6_take wsX3_at := goodIn_r _ [42, 43, 71] (by decide +kernel) (by decide +kernel)
set_option maxRecDepth 20000 in
theorem gX6_take_X3_at : GoodIn wsX6_take (wsV RX6 154 RX3 yX3_at wsX3_at) := goodIn_app (goodIn_of _ (by decide +kernel)) ggX6_take_X3_at
set_option maxRecDepth 20000 in
theorem ggX6_take_X3_put : GoodIn wsX6_take wsX3_put := goodIn_r _ [47, 43, 71] (by decide +kernel) (by decide +kernel)
set_option maxRecDepth 20000 in
theorem gX6_take_X3_put : GoodIn wsX6_take (wsV RX6 158 RX3 yX3_put wsX3_put) := goodIn_app (goodIn_of _ (by decide +kernel)) ggX6_take_X3_put
theorem dX6_take_0 : decode cX6_take 0 = .ok (.iload_n 1, 1) := by decide +kernel
theorem dX6_take_1 : decode cX6_take 1 = .ok (.ifCond .lt 11, 3) := by decide +kernel
theorem dX6_take_4 : decode cX6_take 4 = .ok (.iload_n 1, 1) := by decide +kernel
theorem dX6_take_5 : decode cX6_take 5 = .ok (.aload_n 0, 1) := by decide +kernel
theorem dX6_take_6 : decode cX6_take 6 = .ok (.invokevirtual 140, 3) := by decide +kernel
theorem dX6_take_9 : decode cX6_take 9 = .ok (.if_icmp .lt 13, 3) := by decide +kernel
theorem dX6_take_12 : decode cX6_take 12 = .ok (.new 126, 3) := by decide +kernel
theorem dX6_take_15 : decode cX6_take 15 = .ok (.dup, 1) := by decide +kernel
theorem dX6_take_16 : decode cX6_take 16 = .ok (.ldc 143, 2) := by decide +kernel
theorem dX6_take_18 : decode cX6_take 18 = .ok (.invokespecial 130, 3) := by decide +kernel
theorem dX6_take_21 : decode cX6_take 21 = .ok (.athrow, 1) := by decide +kernel
theorem dX6_take_22 : decode cX6_take 22 = .ok (.aload_n 0, 1) := by decide +kernel
theorem dX6_take_23 : decode cX6_take 23 = .ok (.getfield 53, 3) := by decide +kernel
theorem dX6_take_26 : decode cX6_take 26 = .ok (.iconst 3, 1) := by decide +kernel
theorem dX6_take_27 : decode cX6_take 27 = .ok (.if_icmp .eq 13, 3) := by decide +kernel
theorem dX6_take_30 : decode cX6_take 30 = .ok (.new 79, 3) := by decide +kernel
theorem dX6_take_33 : decode cX6_take 33 = .ok (.dup, 1) := by decide +kernel
theorem dX6_take_34 : decode cX6_take 34 = .ok (.ldc 145, 2) := by decide +kernel
theorem dX6_take_36 : decode cX6_take 36 = .ok (.invokespecial 83, 3) := by decide +kernel
theorem dX6_take_39 : decode cX6_take 39 = .ok (.athrow, 1) := by decide +kernel
theorem dX6_take_40 : decode cX6_take 40 = .ok (.aload_n 0, 1) := by decide +kernel
theorem dX6_take_41 : decode cX6_take 41 = .ok (.getfield 19, 3) := by decide +kernel
theorem dX6_take_44 : decode cX6_take 44 = .ok (.getfield 101, 3) := by decide +kernel
theorem dX6_take_47 : decode cX6_take 47 = .ok (.invokestatic 147, 3) := by decide +kernel
theorem dX6_take_50 : decode cX6_take 50 = .ok (.istore_n 2, 1) := by decide +kernel
theorem dX6_take_51 : decode cX6_take 51 = .ok (.aload_n 0, 1) := by decide +kernel
theorem dX6_take_52 : decode cX6_take 52 = .ok (.getfield 12, 3) := by decide +kernel
theorem dX6_take_55 : decode cX6_take 55 = .ok (.bipush 48, 2) := by decide +kernel
theorem dX6_take_57 : decode cX6_take 57 = .ok (.iload_n 1, 1) := by decide +kernel
theorem dX6_take_58 : decode cX6_take 58 = .ok (.iload_n 2, 1) := by decide +kernel
theorem dX6_take_59 : decode cX6_take 59 = .ok (.imul, 1) := by decide +kernel
theorem dX6_take_60 : decode cX6_take 60 = .ok (.iadd, 1) := by decide +kernel
theorem dX6_take_61 : decode cX6_take 61 = .ok (.iload_n 2, 1) := by decide +kernel
theorem dX6_take_62 : decode cX6_take 62 = .ok (.invokevirtual 150, 3) := by decide +kernel
theorem dX6_take_65 : decode cX6_take 65 = .ok (.lstore_n 3, 1) := by decide +kernel
theorem dX6_take_66 : decode cX6_take 66 = .ok (.aload_n 0, 1) := by decide +kernel
theorem dX6_take_67 : decode cX6_take 67 = .ok (.getfield 42, 3) := by decide +kernel
theorem dX6_take_70 : decode cX6_take 70 = .ok (.aload_n 0, 1) := by decide +kernel
theorem dX6_take_71 : decode cX6_take 71 = .ok (.getfield 59, 3) := by decide +kernel
theorem dX6_take_74 : decode cX6_take 74 = .ok (.aload_n 0, 1) := by decide +kernel
theorem dX6_take_75 : decode cX6_take 75 = .ok (.getfield 42, 3) := by decide +kernel
theorem dX6_take_78 : decode cX6_take 78 = .ok (.aload_n 0, 1) := by decide +kernel
theorem dX6_take_79 : decode cX6_take 79 = .ok (.getfield 59, 3) := by decide +kernel
theorem dX6_take_82 : decode cX6_take 82 = .ok (.invokevirtual 154, 3) := by decide +kernel
theorem dX6_take_85 : decode cX6_take 85 = .ok (.lload_n 3, 1) := by decide +kernel
theorem dX6_take_86 : decode cX6_take 86 = .ok (.lor, 1) := by decide +kernel
theorem dX6_take_87 : decode cX6_take 87 = .ok (.invokevirtual 158, 3) := by decide +kernel
theorem dX6_take_90 : decode cX6_take 90 = .ok (.aload_n 0, 1) := by decide +kernel
theorem dX6_take_91 : decode cX6_take 91 = .ok (.dup, 1) := by decide +kernel
theorem dX6_take_92 : decode cX6_take 92 = .ok (.getfield 162, 3) := by decide +kernel
theorem dX6_take_95 : decode cX6_take 95 = .ok (.lload_n 3, 1) := by decide +kernel
theorem dX6_take_96 : decode cX6_take 96 = .ok (.ldc2_w 166, 3) := by decide +kernel
theorem dX6_take_99 : decode cX6_take 99 = .ok (.lxor, 1) := by decide +kernel
theorem dX6_take_100 : decode cX6_take 100 = .ok (.land, 1) := by decide +kernel
theorem dX6_take_101 : decode cX6_take 101 = .ok (.putfield 162, 3) := by decide +kernel
theorem dX6_take_104 : decode cX6_take 104 = .ok (.aload_n 0, 1) := by decide +kernel
theorem dX6_take_105 : decode cX6_take 105 = .ok (.iload_n 2, 1) := by decide +kernel
theorem dX6_take_106 : decode cX6_take 106 = .ok (.putfield 168, 3) := by decide +kernel
theorem dX6_take_109 : decode cX6_take 109 = .ok (.aload_n 0, 1) := by decide +kernel
theorem dX6_take_110 : decode cX6_take 110 = .ok (.iconst 4, 1) := by decide +kernel
theorem dX6_take_111 : decode cX6_take 111 = .ok (.putfield 53, 3) := by decide +kernel
theorem dX6_take_114 : decode cX6_take 114 = .ok (.iload_n 2, 1) := by decide +kernel
theorem dX6_take_115 : decode cX6_take 115 = .ok (.ireturn, 1) := by decide +kernel
set_option maxRecDepth 20000 in
theorem ggX6_discard_X6_isCard : GoodIn wsX6_discard wsX6_isCard := goodIn_r _ [14] (by decide +kernel) (by decide +kernel)
set_option maxRecDepth 20000 in
theorem gX6_discard_X6_isCard : GoodIn wsX6_discard (va_wsS RX6 171 yX6_isCard wsX6_isCard) := goodIn_app (goodIn_of _ (by decide +kernel)) ggX6_discard_X6_isCard
set_option maxRecDepth 20000 in
theorem ggX6_discard_X3_at : GoodIn wsX6_discard wsX3_at := goodIn_r _ [19, 20, 66] (by decide +kernel) (by decide +kernel)
set_option maxRecDepth 20000 in
theorem gX6_discard_X3_at : GoodIn wsX6_discard (wsV RX6 154 RX3 yX3_at wsX3_at) := goodIn_app (goodIn_of _ (by decide +kernel)) ggX6_discard_X3_at
set_option maxRecDepth 20000 in
theorem ggX6_discard_X6_holds : GoodIn wsX6_discard wsX6_holds := goodIn_r _ [23] (by decide +kernel) (by decide +kernel)
set_option maxRecDepth 20000 in
theorem gX6_discard_X6_holds : GoodIn wsX6_discard (va_wsS RX6 179 yX6_holds wsX6_holds) := goodIn_app (goodIn_of _ (by decide +kernel)) ggX6_discard_X6_holds
set_option maxRecDepth 20000 in
theorem ggX6_discard_X6_canBeLaidAway : GoodIn wsX6_discard wsX6_canBeLaidAway := goodIn_r _ [26, 27, 28, 13, 29, 30, 31, 32] (by decide +kernel) (by decide +kernel)
set_option maxRecDepth 20000 in
theorem gX6_discard_X6_canBeLaidAway : GoodIn wsX6_discard (va_wsS RX6 183 yX6_canBeLaidAway wsX6_canBeLaidAway) := goodIn_app (goodIn_of _ (by decide +kernel)) ggX6_discard_X6_canBeLaidAway
set_option maxRecDepth 20000 in
theorem ggX6_discard_X6_only : GoodIn wsX6_discard wsX6_only := goodIn_r _ [35] (by decide +kernel) (by decide +kernel)
set_option maxRecDepth 20000 in
theorem gX6_discard_X6_only : GoodIn wsX6_discard (va_wsS RX6 188 yX6_only wsX6_only) := goodIn_app (goodIn_of _ (by decide +kernel)) ggX6_discard_X6_only
set_option maxRecDepth 20000 in
theorem ggX6_discard_X3_put : GoodIn wsX6_discard wsX3_put := goodIn_r _ [39, 20, 66] (by decide +kernel) (by decide +kernel)
set_option maxRecDepth 20000 in
theorem gX6_discard_X3_put : GoodIn wsX6_discard (wsV RX6 158 RX3 yX3_put wsX3_put) := goodIn_app (goodIn_of _ (by decide +kernel)) ggX6_discard_X3_put
set_option maxRecDepth 20000 in
theorem ggX6_discard_X6_beginPlay : GoodIn wsX6_discard wsX6_beginPlay := goodIn_r _ [43, 44, 9, 45, 5, 46, 47, 36, 37, 38, 18, 39, 20, 48, 49, 50, 51, 52, 53, 54, 55, 56, 57, 58, 59, 60, 61, 62, 63, 64, 65, 66] (by decide +kernel) (by decide +kernel)
set_option maxRecDepth 20000 in
theorem gX6_discard_X6_beginPlay : GoodIn wsX6_discard (wsV RX6 194 RX6 yX6_beginPlay wsX6_beginPlay) := goodIn_app (goodIn_of _ (by decide +kernel)) ggX6_discard_X6_beginPlay
theorem dX6_discard_0 : decode cX6_discard 0 = .ok (.iload_n 1, 1) := by decide +kernel
theorem dX6_discard_1 : decode cX6_discard 1 = .ok (.invokestatic 171, 3) := by decide +kernel
theorem dX6_discard_4 : decode cX6_discard 4 = .ok (.ifCond .ne 13, 3) := by decide +kernel
theorem dX6_discard_7 : decode cX6_discard 7 = .ok (.new 126, 3) := by decide +kernel
theorem dX6_discard_10 : decode cX6_discard 10 = .ok (.dup, 1) := by decide +kernel
theorem dX6_discard_11 : decode cX6_discard 11 = .ok (.ldc 175, 2) := by decide +kernel
theorem dX6_discard_13 : decode cX6_discard 13 = .ok (.invokespecial 130, 3) := by decide +kernel
theorem dX6_discard_16 : decode cX6_discard 16 = .ok (.athrow, 1) := by decide +kernel
theorem dX6_discard_17 : decode cX6_discard 17 = .ok (.aload_n 0, 1) := by decide +kernel
theorem dX6_discard_18 : decode cX6_discard 18 = .ok (.getfield 53, 3) := by decide +kernel
theorem dX6_discard_21 : decode cX6_discard 21 = .ok (.iconst 4, 1) := by decide +kernel
theorem dX6_discard_22 : decode cX6_discard 22 = .ok (.if_icmp .eq 13, 3) := by decide +kernel
theorem dX6_discard_25 : decode cX6_discard 25 = .ok (.new 79, 3) := by decide +kernel
theorem dX6_discard_28 : decode cX6_discard 28 = .ok (.dup, 1) := by decide +kernel
theorem dX6_discard_29 : decode cX6_discard 29 = .ok (.ldc 177, 2) := by decide +kernel
theorem dX6_discard_31 : decode cX6_discard 31 = .ok (.invokespecial 83, 3) := by decide +kernel
theorem dX6_discard_34 : decode cX6_discard 34 = .ok (.athrow, 1) := by decide +kernel
theorem dX6_discard_35 : decode cX6_discard 35 = .ok (.aload_n 0, 1) := by decide +kernel
theorem dX6_discard_36 : decode cX6_discard 36 = .ok (.getfield 42, 3) := by decide +kernel
theorem dX6_discard_39 : decode cX6_discard 39 = .ok (.aload_n 0, 1) := by decide +kernel
theorem dX6_discard_40 : decode cX6_discard 40 = .ok (.getfield 59, 3) := by decide +kernel
theorem dX6_discard_43 : decode cX6_discard 43 = .ok (.invokevirtual 154, 3) := by decide +kernel
theorem dX6_discard_46 : decode cX6_discard 46 = .ok (.lstore_n 2, 1) := by decide +kernel
theorem dX6_discard_47 : decode cX6_discard 47 = .ok (.lload_n 2, 1) := by decide +kernel
theorem dX6_discard_48 : decode cX6_discard 48 = .ok (.iload_n 1, 1) := by decide +kernel
theorem dX6_discard_49 : decode cX6_discard 49 = .ok (.invokestatic 179, 3) := by decide +kernel
theorem dX6_discard_52 : decode cX6_discard 52 = .ok (.ifCond .eq 10, 3) := by decide +kernel
theorem dX6_discard_55 : decode cX6_discard 55 = .ok (.iload_n 1, 1) := by decide +kernel
theorem dX6_discard_56 : decode cX6_discard 56 = .ok (.invokestatic 183, 3) := by decide +kernel
theorem dX6_discard_59 : decode cX6_discard 59 = .ok (.ifCond .ne 13, 3) := by decide +kernel
theorem dX6_discard_62 : decode cX6_discard 62 = .ok (.new 79, 3) := by decide +kernel
theorem dX6_discard_65 : decode cX6_discard 65 = .ok (.dup, 1) := by decide +kernel
theorem dX6_discard_66 : decode cX6_discard 66 = .ok (.ldc 186, 2) := by decide +kernel
theorem dX6_discard_68 : decode cX6_discard 68 = .ok (.invokespecial 83, 3) := by decide +kernel
theorem dX6_discard_71 : decode cX6_discard 71 = .ok (.athrow, 1) := by decide +kernel
theorem dX6_discard_72 : decode cX6_discard 72 = .ok (.aload_n 0, 1) := by decide +kernel
theorem dX6_discard_73 : decode cX6_discard 73 = .ok (.getfield 42, 3) := by decide +kernel
theorem dX6_discard_76 : decode cX6_discard 76 = .ok (.aload_n 0, 1) := by decide +kernel
theorem dX6_discard_77 : decode cX6_discard 77 = .ok (.getfield 59, 3) := by decide +kernel
theorem dX6_discard_80 : decode cX6_discard 80 = .ok (.lload_n 2, 1) := by decide +kernel
theorem dX6_discard_81 : decode cX6_discard 81 = .ok (.iload_n 1, 1) := by decide +kernel
theorem dX6_discard_82 : decode cX6_discard 82 = .ok (.invokestatic 188, 3) := by decide +kernel
theorem dX6_discard_85 : decode cX6_discard 85 = .ok (.ldc2_w 166, 3) := by decide +kernel
theorem dX6_discard_88 : decode cX6_discard 88 = .ok (.lxor, 1) := by decide +kernel
theorem dX6_discard_89 : decode cX6_discard 89 = .ok (.land, 1) := by decide +kernel
theorem dX6_discard_90 : decode cX6_discard 90 = .ok (.invokevirtual 158, 3) := by decide +kernel
theorem dX6_discard_93 : decode cX6_discard 93 = .ok (.aload_n 0, 1) := by decide +kernel
theorem dX6_discard_94 : decode cX6_discard 94 = .ok (.dup, 1) := by decide +kernel
theorem dX6_discard_95 : decode cX6_discard 95 = .ok (.getfield 191, 3) := by decide +kernel
theorem dX6_discard_98 : decode cX6_discard 98 = .ok (.iload_n 1, 1) := by decide +kernel
theorem dX6_discard_99 : decode cX6_discard 99 = .ok (.invokestatic 188, 3) := by decide +kernel
theorem dX6_discard_102 : decode cX6_discard 102 = .ok (.lor, 1) := by decide +kernel
theorem dX6_discard_103 : decode cX6_discard 103 = .ok (.putfield 191, 3) := by decide +kernel
theorem dX6_discard_106 : decode cX6_discard 106 = .ok (.aload_n 0, 1) := by decide +kernel
theorem dX6_discard_107 : decode cX6_discard 107 = .ok (.dup, 1) := by decide +kernel
theorem dX6_discard_108 : decode cX6_discard 108 = .ok (.getfield 168, 3) := by decide +kernel
theorem dX6_discard_111 : decode cX6_discard 111 = .ok (.iconst 1, 1) := by decide +kernel
theorem dX6_discard_112 : decode cX6_discard 112 = .ok (.isub, 1) := by decide +kernel
theorem dX6_discard_113 : decode cX6_discard 113 = .ok (.putfield 168, 3) := by decide +kernel
theorem dX6_discard_116 : decode cX6_discard 116 = .ok (.aload_n 0, 1) := by decide +kernel
theorem dX6_discard_117 : decode cX6_discard 117 = .ok (.getfield 168, 3) := by decide +kernel
theorem dX6_discard_120 : decode cX6_discard 120 = .ok (.ifCond .ne 7, 3) := by decide +kernel
theorem dX6_discard_123 : decode cX6_discard 123 = .ok (.aload_n 0, 1) := by decide +kernel
theorem dX6_discard_124 : decode cX6_discard 124 = .ok (.invokevirtual 194, 3) := by decide +kernel
theorem dX6_discard_127 : decode cX6_discard 127 = .ok (.aload_n 0, 1) := by decide +kernel
theorem dX6_discard_128 : decode cX6_discard 128 = .ok (.getfield 168, 3) := by decide +kernel
theorem dX6_discard_131 : decode cX6_discard 131 = .ok (.ireturn, 1) := by decide +kernel
set_option maxRecDepth 20000 in
theorem ggX6_announce_X6_isAnnounced : GoodIn wsX6_announce wsX6_isAnnounced := goodIn_r _ [14, 9, 22, 23, 24, 25, 26, 27, 28, 29, 30, 31, 32, 33, 34, 35, 36, 37, 38, 39] (by decide +kernel) (by decide +kernel)
set_option maxRecDepth 20000 in
theorem gX6_announce_X6_isAnnounced : GoodIn wsX6_announce (wsV RX6 207 RX6 yX6_isAnnounced wsX6_isAnnounced) := goodIn_app (goodIn_of _ (by decide +kernel)) ggX6_announce_X6_isAnnounced
set_option maxRecDepth 20000 in
theorem ggX6_announce_J6_bitCount_0f7a4 : GoodIn wsX6_announce wsJ6_bitCount_0f7a4 := goodIn_r _ [18, 19, 20, 21] (by decide +kernel) (by decide +kernel)
set_option maxRecDepth 20000 in
theorem gX6_announce_J6_bitCount_0f7a4 : GoodIn wsX6_announce (va_wsS RX6 217 yJ6_bitCount_0f7a4 wsJ6_bitCount_0f7a4) := goodIn_app (goodIn_of _ (by decide +kernel)) ggX6_announce_J6_bitCount_0f7a4
theorem dX6_announce_0 : decode cX6_announce 0 = .ok (.iload_n 1, 1) := by decide +kernel
theorem dX6_announce_1 : decode cX6_announce 1 = .ok (.ifCond .lt 8, 3) := by decide +kernel
theorem dX6_announce_4 : decode cX6_announce 4 = .ok (.iload_n 1, 1) := by decide +kernel
theorem dX6_announce_5 : decode cX6_announce 5 = .ok (.iconst 2, 1) := by decide +kernel
theorem dX6_announce_6 : decode cX6_announce 6 = .ok (.if_icmp .lt 13, 3) := by decide +kernel
theorem dX6_announce_9 : decode cX6_announce 9 = .ok (.new 126, 3) := by decide +kernel
theorem dX6_announce_12 : decode cX6_announce 12 = .ok (.dup, 1) := by decide +kernel
theorem dX6_announce_13 : decode cX6_announce 13 = .ok (.ldc 197, 2) := by decide +kernel
theorem dX6_announce_15 : decode cX6_announce 15 = .ok (.invokespecial 130, 3) := by decide +kernel
theorem dX6_announce_18 : decode cX6_announce 18 = .ok (.athrow, 1) := by decide +kernel
theorem dX6_announce_19 : decode cX6_announce 19 = .ok (.aload_n 0, 1) := by decide +kernel
theorem dX6_announce_20 : decode cX6_announce 20 = .ok (.getfield 53, 3) := by decide +kernel
theorem dX6_announce_23 : decode cX6_announce 23 = .ok (.iconst 5, 1) := by decide +kernel
theorem dX6_announce_24 : decode cX6_announce 24 = .ok (.if_icmp .ne 20, 3) := by decide +kernel
theorem dX6_announce_27 : decode cX6_announce 27 = .ok (.aload_n 0, 1) := by decide +kernel
theorem dX6_announce_28 : decode cX6_announce 28 = .ok (.getfield 199, 3) := by decide +kernel
theorem dX6_announce_31 : decode cX6_announce 31 = .ok (.ifCond .gt 13, 3) := by decide +kernel
theorem dX6_announce_34 : decode cX6_announce 34 = .ok (.aload_n 0, 1) := by decide +kernel
theorem dX6_announce_35 : decode cX6_announce 35 = .ok (.getfield 26, 3) := by decide +kernel
theorem dX6_announce_38 : decode cX6_announce 38 = .ok (.getfield 202, 3) := by decide +kernel
theorem dX6_announce_41 : decode cX6_announce 41 = .ok (.ifCond .le 13, 3) := by decide +kernel
theorem dX6_announce_44 : decode cX6_announce 44 = .ok (.new 79, 3) := by decide +kernel
theorem dX6_announce_47 : decode cX6_announce 47 = .ok (.dup, 1) := by decide +kernel
theorem dX6_announce_48 : decode cX6_announce 48 = .ok (.ldc 205, 2) := by decide +kernel
theorem dX6_announce_50 : decode cX6_announce 50 = .ok (.invokespecial 83, 3) := by decide +kernel
theorem dX6_announce_53 : decode cX6_announce 53 = .ok (.athrow, 1) := by decide +kernel
theorem dX6_announce_54 : decode cX6_announce 54 = .ok (.aload_n 0, 1) := by decide +kernel
theorem dX6_announce_55 : decode cX6_announce 55 = .ok (.iload_n 1, 1) := by decide +kernel
theorem dX6_announce_56 : decode cX6_announce 56 = .ok (.invokevirtual 207, 3) := by decide +kernel
theorem dX6_announce_59 : decode cX6_announce 59 = .ok (.ifCond .eq 13, 3) := by decide +kernel
theorem dX6_announce_62 : decode cX6_announce 62 = .ok (.new 79, 3) := by decide +kernel
theorem dX6_announce_65 : decode cX6_announce 65 = .ok (.dup, 1) := by decide +kernel
theorem dX6_announce_66 : decode cX6_announce 66 = .ok (.ldc 210, 2) := by decide +kernel
theorem dX6_announce_68 : decode cX6_announce 68 = .ok (.invokespecial 83, 3) := by decide +kernel
theorem dX6_announce_71 : decode cX6_announce 71 = .ok (.athrow, 1) := by decide +kernel
theorem dX6_announce_72 : decode cX6_announce 72 = .ok (.iload_n 1, 1) := by decide +kernel
theorem dX6_announce_73 : decode cX6_announce 73 = .ok (.iconst 1, 1) := by decide +kernel
theorem dX6_announce_74 : decode cX6_announce 74 = .ok (.if_icmp .ne 24, 3) := by decide +kernel
theorem dX6_announce_77 : decode cX6_announce 77 = .ok (.aload_n 0, 1) := by decide +kernel
theorem dX6_announce_78 : decode cX6_announce 78 = .ok (.getfield 19, 3) := by decide +kernel
theorem dX6_announce_81 : decode cX6_announce 81 = .ok (.getfield 101, 3) := by decide +kernel
theorem dX6_announce_84 : decode cX6_announce 84 = .ok (.iconst 3, 1) := by decide +kernel
theorem dX6_announce_85 : decode cX6_announce 85 = .ok (.if_icmp .le 13, 3) := by decide +kernel
theorem dX6_announce_88 : decode cX6_announce 88 = .ok (.new 79, 3) := by decide +kernel
theorem dX6_announce_91 : decode cX6_announce 91 = .ok (.dup, 1) := by decide +kernel
theorem dX6_announce_92 : decode cX6_announce 92 = .ok (.ldc 212, 2) := by decide +kernel
theorem dX6_announce_94 : decode cX6_announce 94 = .ok (.invokespecial 83, 3) := by decide +kernel
theorem dX6_announce_97 : decode cX6_announce 97 = .ok (.athrow, 1) := by decide +kernel
theorem dX6_announce_98 : decode cX6_announce 98 = .ok (.aload_n 0, 1) := by decide +kernel
theorem dX6_announce_99 : decode cX6_announce 99 = .ok (.dup, 1) := by decide +kernel
theorem dX6_announce_100 : decode cX6_announce 100 = .ok (.getfield 214, 3) := by decide +kernel
theorem dX6_announce_103 : decode cX6_announce 103 = .ok (.iconst 1, 1) := by decide +kernel
theorem dX6_announce_104 : decode cX6_announce 104 = .ok (.iload_n 1, 1) := by decide +kernel
theorem dX6_announce_105 : decode cX6_announce 105 = .ok (.ishl, 1) := by decide +kernel
theorem dX6_announce_106 : decode cX6_announce 106 = .ok (.ior, 1) := by decide +kernel
theorem dX6_announce_107 : decode cX6_announce 107 = .ok (.putfield 214, 3) := by decide +kernel
theorem dX6_announce_110 : decode cX6_announce 110 = .ok (.aload_n 0, 1) := by decide +kernel
theorem dX6_announce_111 : decode cX6_announce 111 = .ok (.getfield 214, 3) := by decide +kernel
theorem dX6_announce_114 : decode cX6_announce 114 = .ok (.invokestatic 217, 3) := by decide +kernel
theorem dX6_announce_117 : decode cX6_announce 117 = .ok (.ireturn, 1) := by decide +kernel
set_option maxRecDepth 20000 in
theorem ggX6_play_X6_isCard : GoodIn wsX6_play wsX6_isCard := goodIn_r _ [8] (by decide +kernel) (by decide +kernel)
set_option maxRecDepth 20000 in
theorem gX6_play_X6_isCard : GoodIn wsX6_play (va_wsS RX6 171 yX6_isCard wsX6_isCard) := goodIn_app (goodIn_of _ (by decide +kernel)) ggX6_play_X6_isCard
set_option maxRecDepth 20000 in
theorem ggX6_play_X6_playableNow : GoodIn wsX6_play wsX6_playableNow := goodIn_r _ [12, 13, 14, 15, 16, 17, 18, 19, 20, 21, 22, 23, 24, 25, 26, 27, 28, 29, 30, 31, 32, 33, 34, 35, 36, 7, 37, 38, 39, 40, 41, 42, 43, 44, 45, 174, 175, 176, 177, 178, 179, 180, 181, 182, 183, 184, 185, 186, 187, 188, 189, 190, 191, 192, 193, 194, 195, 196] (by decide +kernel) (by decide +kernel)
set_option maxRecDepth 20000 in
theorem gX6_play_X6_playableNow : GoodIn wsX6_play (wsV RX6 222 RX6 yX6_playableNow wsX6_playableNow) := goodIn_app (goodIn_of _ (by decide +kernel)) ggX6_play_X6_playableNow
set_option maxRecDepth 20000 in
theorem ggX6_play_X6_holds : GoodIn wsX6_play wsX6_holds := goodIn_r _ [48] (by decide +kernel) (by decide +kernel)
set_option maxRecDepth 20000 in
theorem gX6_play_X6_holds : GoodIn wsX6_play (va_wsS RX6 179 yX6_holds wsX6_holds) := goodIn_app (goodIn_of _ (by decide +kernel)) ggX6_play_X6_holds
set_option maxRecDepth 20000 in
theorem ggX6_play_X6_addToTrick : GoodIn wsX6_play wsX6_addToTrick := goodIn_r _ [52, 14, 15, 53, 16, 17, 18, 19, 20, 21, 22, 54, 55, 7, 56, 57, 58, 59, 60, 61, 62, 63, 26, 64, 29, 28, 65, 66, 67, 33, 68, 35, 69, 70, 71, 72, 73, 74, 75, 30, 31, 32, 34, 76, 77, 78, 36, 37, 79, 80, 81, 82, 83, 84, 85, 86, 87, 88, 89, 90, 91, 92, 93, 94, 95, 96, 97, 98, 99, 100, 101, 102, 103, 104, 105, 106, 107, 108, 46, 47, 48, 109, 110, 111, 112, 113, 114, 115, 116, 117, 118, 119, 120, 121, 122, 123, 124, 125, 126, 127, 128, 129, 130, 131, 132, 133, 134, 135, 136, 137, 138, 139, 140, 141, 142, 143, 144, 145, 146, 147, 148, 149, 150, 151, 152, 153, 154, 155, 156, 157, 158, 159, 160, 161, 162, 163, 164, 165, 166, 167, 168, 169, 13, 170, 171, 172, 173, 174, 175, 176, 177, 178, 179, 180, 181, 182, 183, 184, 185, 186, 187, 188, 189, 190, 191, 193, 194, 195, 192, 196, 197, 198, 199, 200, 201, 202] (by decide +kernel) (by decide +kernel)
set_option maxRecDepth 20000 in
theorem gX6_play_X6_addToTrick : GoodIn wsX6_play (wsV RX6 228 RX6 yX6_addToTrick wsX6_addToTrick) := goodIn_app (goodIn_of _ (by decide +kernel)) ggX6_play_X6_addToTrick
theorem dX6_play_0 : decode cX6_play 0 = .ok (.iload_n 1, 1) := by decide +kernel
theorem dX6_play_1 : decode cX6_play 1 = .ok (.invokestatic 171, 3) := by decide +kernel
theorem dX6_play_4 : decode cX6_play 4 = .ok (.ifCond .ne 13, 3) := by decide +kernel
theorem dX6_play_7 : decode cX6_play 7 = .ok (.new 126, 3) := by decide +kernel
theorem dX6_play_10 : decode cX6_play 10 = .ok (.dup, 1) := by decide +kernel
theorem dX6_play_11 : decode cX6_play 11 = .ok (.ldc 175, 2) := by decide +kernel
theorem dX6_play_13 : decode cX6_play 13 = .ok (.invokespecial 130, 3) := by decide +kernel
theorem dX6_play_16 : decode cX6_play 16 = .ok (.athrow, 1) := by decide +kernel
theorem dX6_play_17 : decode cX6_play 17 = .ok (.aload_n 0, 1) := by decide +kernel
theorem dX6_play_18 : decode cX6_play 18 = .ok (.invokevirtual 222, 3) := by decide +kernel
theorem dX6_play_21 : decode cX6_play 21 = .ok (.iload_n 1, 1) := by decide +kernel
theorem dX6_play_22 : decode cX6_play 22 = .ok (.invokestatic 179, 3) := by decide +kernel
theorem dX6_play_25 : decode cX6_play 25 = .ok (.ifCond .ne 13, 3) := by decide +kernel
theorem dX6_play_28 : decode cX6_play 28 = .ok (.new 79, 3) := by decide +kernel
theorem dX6_play_31 : decode cX6_play 31 = .ok (.dup, 1) := by decide +kernel
theorem dX6_play_32 : decode cX6_play 32 = .ok (.ldc 226, 2) := by decide +kernel
theorem dX6_play_34 : decode cX6_play 34 = .ok (.invokespecial 83, 3) := by decide +kernel
theorem dX6_play_37 : decode cX6_play 37 = .ok (.athrow, 1) := by decide +kernel
theorem dX6_play_38 : decode cX6_play 38 = .ok (.aload_n 0, 1) := by decide +kernel
theorem dX6_play_39 : decode cX6_play 39 = .ok (.iload_n 1, 1) := by decide +kernel
theorem dX6_play_40 : decode cX6_play 40 = .ok (.invokevirtual 228, 3) := by decide +kernel
theorem dX6_play_43 : decode cX6_play 43 = .ok (.ireturn, 1) := by decide +kernel
set_option maxRecDepth 20000 in
theorem ggX6_playLowest_X6_playableNow : GoodIn wsX6_playLowest wsX6_playableNow := goodIn_r _ [10, 5, 11, 12, 13, 14, 15, 16, 17, 18, 19, 20, 21, 22, 23, 24, 25, 26, 27, 28, 29, 30, 31, 32, 33, 9, 34, 35, 36, 37, 38, 39, 40, 41, 42, 174, 175, 176, 177, 178, 179, 180, 181, 182, 183, 184, 185, 186, 187, 188, 189, 190, 191, 192, 193, 194, 195, 196] (by decide +kernel) (by decide +kernel)
set_option maxRecDepth 20000 in
theorem gX6_playLowest_X6_playableNow : GoodIn wsX6_playLowest (wsV RX6 222 RX6 yX6_playableNow wsX6_playableNow) := goodIn_app (goodIn_of _ (by decide +kernel)) ggX6_playLowest_X6_playableNow
set_option maxRecDepth 20000 in
theorem ggX6_playLowest_X6_lowestOf : GoodIn wsX6_playLowest wsX6_lowestOf := goodIn_r _ [45, 46, 47, 9, 48] (by decide +kernel) (by decide +kernel)
set_option maxRecDepth 20000 in
theorem gX6_playLowest_X6_lowestOf : GoodIn wsX6_playLowest (va_wsS RX6 235 yX6_lowestOf wsX6_lowestOf) := goodIn_app (goodIn_of _ (by decide +kernel)) ggX6_playLowest_X6_lowestOf
set_option maxRecDepth 20000 in
theorem ggX6_playLowest_X6_addToTrick : GoodIn wsX6_playLowest wsX6_addToTrick := goodIn_r _ [52, 11, 12, 53, 13, 14, 15, 16, 17, 18, 19, 54, 55, 9, 56, 57, 58, 59, 60, 61, 62, 63, 23, 64, 26, 25, 65, 66, 67, 30, 68, 32, 69, 70, 71, 72, 73, 74, 75, 27, 28, 29, 31, 76, 77, 78, 33, 34, 79, 80, 81, 82, 83, 84, 85, 86, 87, 88, 89, 90, 91, 92, 93, 94, 95, 96, 97, 98, 99, 100, 101, 102, 103, 104, 105, 106, 107, 108, 46, 47, 48, 109, 110, 111, 112, 113, 114, 115, 116, 117, 118, 119, 120, 121, 122, 123, 124, 125, 126, 127, 128, 129, 130, 131, 132, 133, 134, 135, 136, 137, 138, 139, 140, 141, 142, 143, 144, 145, 146, 147, 148, 149, 150, 151, 152, 153, 154, 155, 156, 157, 158, 159, 160, 161, 162, 163, 164, 165, 166, 167, 168, 169, 5, 170, 171, 172, 173, 174, 175, 176, 177, 178, 179, 180, 181, 182, 183, 184, 185, 186, 187, 188, 189, 190, 191, 193, 194, 195, 192, 196, 197, 198, 199, 200, 201, 202] (by decide +kernel) (by decide +kernel)
set_option maxRecDepth 20000 in
theorem gX6_playLowest_X6_addToTrick : GoodIn wsX6_playLowest (wsV RX6 228 RX6 yX6_addToTrick wsX6_addToTrick) := goodIn_app (goodIn_of _ (by decide +kernel)) ggX6_playLowest_X6_addToTrick
theorem dX6_playLowest_0 : decode cX6_playLowest 0 = .ok (.iload_n 1, 1) := by decide +kernel
theorem dX6_playLowest_1 : decode cX6_playLowest 1 = .ok (.iconst 1, 1) := by decide +kernel
theorem dX6_playLowest_2 : decode cX6_playLowest 2 = .ok (.if_icmp .lt 9, 3) := by decide +kernel
theorem dX6_playLowest_5 : decode cX6_playLowest 5 = .ok (.iload_n 1, 1) := by decide +kernel
theorem dX6_playLowest_6 : decode cX6_playLowest 6 = .ok (.bipush 48, 2) := by decide +kernel
theorem dX6_playLowest_8 : decode cX6_playLowest 8 = .ok (.if_icmp .le 13, 3) := by decide +kernel
theorem dX6_playLowest_11 : decode cX6_playLowest 11 = .ok (.new 72, 3) := by decide +kernel
theorem dX6_playLowest_14 : decode cX6_playLowest 14 = .ok (.dup, 1) := by decide +kernel
theorem dX6_playLowest_15 : decode cX6_playLowest 15 = .ok (.ldc 231, 2) := by decide +kernel
theorem dX6_playLowest_17 : decode cX6_playLowest 17 = .ok (.invokespecial 76, 3) := by decide +kernel
theorem dX6_playLowest_20 : decode cX6_playLowest 20 = .ok (.athrow, 1) := by decide +kernel
theorem dX6_playLowest_21 : decode cX6_playLowest 21 = .ok (.aload_n 0, 1) := by decide +kernel
theorem dX6_playLowest_22 : decode cX6_playLowest 22 = .ok (.getfield 53, 3) := by decide +kernel
theorem dX6_playLowest_25 : decode cX6_playLowest 25 = .ok (.iconst 5, 1) := by decide +kernel
theorem dX6_playLowest_26 : decode cX6_playLowest 26 = .ok (.if_icmp .eq 13, 3) := by decide +kernel
theorem dX6_playLowest_29 : decode cX6_playLowest 29 = .ok (.new 79, 3) := by decide +kernel
theorem dX6_playLowest_32 : decode cX6_playLowest 32 = .ok (.dup, 1) := by decide +kernel
theorem dX6_playLowest_33 : decode cX6_playLowest 33 = .ok (.ldc 233, 2) := by decide +kernel
theorem dX6_playLowest_35 : decode cX6_playLowest 35 = .ok (.invokespecial 83, 3) := by decide +kernel
theorem dX6_playLowest_38 : decode cX6_playLowest 38 = .ok (.athrow, 1) := by decide +kernel
theorem dX6_playLowest_39 : decode cX6_playLowest 39 = .ok (.iconst 0, 1) := by decide +kernel
theorem dX6_playLowest_40 : decode cX6_playLowest 40 = .ok (.istore_n 2, 1) := by decide +kernel
theorem dX6_playLowest_41 : decode cX6_playLowest 41 = .ok (.iconst 0, 1) := by decide +kernel
theorem dX6_playLowest_42 : decode cX6_playLowest 42 = .ok (.istore_n 3, 1) := by decide +kernel
theorem dX6_playLowest_43 : decode cX6_playLowest 43 = .ok (.iload_n 3, 1) := by decide +kernel
theorem dX6_playLowest_44 : decode cX6_playLowest 44 = .ok (.iload_n 1, 1) := by decide +kernel
theorem dX6_playLowest_45 : decode cX6_playLowest 45 = .ok (.if_icmp .ge 32, 3) := by decide +kernel
theorem dX6_playLowest_48 : decode cX6_playLowest 48 = .ok (.aload_n 0, 1) := by decide +kernel
theorem dX6_playLowest_49 : decode cX6_playLowest 49 = .ok (.getfield 53, 3) := by decide +kernel
theorem dX6_playLowest_52 : decode cX6_playLowest 52 = .ok (.iconst 5, 1) := by decide +kernel
theorem dX6_playLowest_53 : decode cX6_playLowest 53 = .ok (.if_icmp .ne 24, 3) := by decide +kernel
theorem dX6_playLowest_56 : decode cX6_playLowest 56 = .ok (.aload_n 0, 1) := by decide +kernel
theorem dX6_playLowest_57 : decode cX6_playLowest 57 = .ok (.aload_n 0, 1) := by decide +kernel
theorem dX6_playLowest_58 : decode cX6_playLowest 58 = .ok (.invokevirtual 222, 3) := by decide +kernel
theorem dX6_playLowest_61 : decode cX6_playLowest 61 = .ok (.invokestatic 235, 3) := by decide +kernel
theorem dX6_playLowest_64 : decode cX6_playLowest 64 = .ok (.invokevirtual 228, 3) := by decide +kernel
theorem dX6_playLowest_67 : decode cX6_playLowest 67 = .ok (.pop, 1) := by decide +kernel
theorem dX6_playLowest_68 : decode cX6_playLowest 68 = .ok (.iinc 2 1, 3) := by decide +kernel
theorem dX6_playLowest_71 : decode cX6_playLowest 71 = .ok (.iinc 3 1, 3) := by decide +kernel
theorem dX6_playLowest_74 : decode cX6_playLowest 74 = .ok (.goto (-31), 3) := by decide +kernel
theorem dX6_playLowest_77 : decode cX6_playLowest 77 = .ok (.iload_n 2, 1) := by decide +kernel
theorem dX6_playLowest_78 : decode cX6_playLowest 78 = .ok (.ireturn, 1) := by decide +kernel
theorem dX6_phase_0 : decode cX6_phase 0 = .ok (.aload_n 0, 1) := by decide +kernel
theorem dX6_phase_1 : decode cX6_phase 1 = .ok (.getfield 53, 3) := by decide +kernel
theorem dX6_phase_4 : decode cX6_phase 4 = .ok (.ireturn, 1) := by decide +kernel
theorem dX6_turn_0 : decode cX6_turn 0 = .ok (.aload_n 0, 1) := by decide +kernel
theorem dX6_turn_1 : decode cX6_turn 1 = .ok (.getfield 56, 3) := by decide +kernel
theorem dX6_turn_4 : decode cX6_turn 4 = .ok (.ireturn, 1) := by decide +kernel
theorem dX6_declarer_0 : decode cX6_declarer 0 = .ok (.aload_n 0, 1) := by decide +kernel
theorem dX6_declarer_1 : decode cX6_declarer 1 = .ok (.getfield 59, 3) := by decide +kernel
theorem dX6_declarer_4 : decode cX6_declarer 4 = .ok (.ireturn, 1) := by decide +kernel
theorem dX6_level_0 : decode cX6_level 0 = .ok (.aload_n 0, 1) := by decide +kernel
theorem dX6_level_1 : decode cX6_level 1 = .ok (.getfield 19, 3) := by decide +kernel
theorem dX6_level_4 : decode cX6_level 4 = .ok (.getfield 101, 3) := by decide +kernel
theorem dX6_level_7 : decode cX6_level 7 = .ok (.ireturn, 1) := by decide +kernel
theorem dX6_called_0 : decode cX6_called 0 = .ok (.aload_n 0, 1) := by decide +kernel
theorem dX6_called_1 : decode cX6_called 1 = .ok (.getfield 62, 3) := by decide +kernel
theorem dX6_called_4 : decode cX6_called 4 = .ok (.ireturn, 1) := by decide +kernel
theorem dX6_partner_0 : decode cX6_partner 0 = .ok (.aload_n 0, 1) := by decide +kernel
theorem dX6_partner_1 : decode cX6_partner 1 = .ok (.getfield 68, 3) := by decide +kernel
theorem dX6_partner_4 : decode cX6_partner 4 = .ok (.ireturn, 1) := by decide +kernel
set_option maxRecDepth 20000 in
theorem ggX6_hand_X6_isPlayer : GoodIn wsX6_hand wsX6_isPlayer := goodIn_r _ [7] (by decide +kernel) (by decide +kernel)
set_option maxRecDepth 20000 in
theorem gX6_hand_X6_isPlayer : GoodIn wsX6_hand (va_wsS RX6 239 yX6_isPlayer wsX6_isPlayer) := goodIn_app (goodIn_of _ (by decide +kernel)) ggX6_hand_X6_isPlayer
set_option maxRecDepth 20000 in
theorem ggX6_hand_X3_at : GoodIn wsX6_hand wsX3_at := goodIn_r _ [12, 13, 32] (by decide +kernel) (by decide +kernel)
set_option maxRecDepth 20000 in
theorem gX6_hand_X3_at : GoodIn wsX6_hand (wsV RX6 154 RX3 yX3_at wsX3_at) := goodIn_app (goodIn_of _ (by decide +kernel)) ggX6_hand_X3_at
theorem dX6_hand_0 : decode cX6_hand 0 = .ok (.iload_n 1, 1) := by decide +kernel
theorem dX6_hand_1 : decode cX6_hand 1 = .ok (.invokestatic 239, 3) := by decide +kernel
theorem dX6_hand_4 : decode cX6_hand 4 = .ok (.ifCond .ne 13, 3) := by decide +kernel
theorem dX6_hand_7 : decode cX6_hand 7 = .ok (.new 126, 3) := by decide +kernel
theorem dX6_hand_10 : decode cX6_hand 10 = .ok (.dup, 1) := by decide +kernel
theorem dX6_hand_11 : decode cX6_hand 11 = .ok (.ldc 242, 2) := by decide +kernel
theorem dX6_hand_13 : decode cX6_hand 13 = .ok (.invokespecial 130, 3) := by decide +kernel
theorem dX6_hand_16 : decode cX6_hand 16 = .ok (.athrow, 1) := by decide +kernel
theorem dX6_hand_17 : decode cX6_hand 17 = .ok (.aload_n 0, 1) := by decide +kernel
theorem dX6_hand_18 : decode cX6_hand 18 = .ok (.getfield 42, 3) := by decide +kernel
theorem dX6_hand_21 : decode cX6_hand 21 = .ok (.iload_n 1, 1) := by decide +kernel
theorem dX6_hand_22 : decode cX6_hand 22 = .ok (.invokevirtual 154, 3) := by decide +kernel
theorem dX6_hand_25 : decode cX6_hand 25 = .ok (.lreturn, 1) := by decide +kernel
set_option maxRecDepth 20000 in
theorem ggX6_talonAt_X1_cardAt : GoodIn wsX6_talonAt wsX1_cardAt := goodIn_r _ [11, 12, 13, 14, 15, 16, 17, 18, 37, 38] (by decide +kernel) (by decide +kernel)
set_option maxRecDepth 20000 in
theorem gX6_talonAt_X1_cardAt : GoodIn wsX6_talonAt (wsV RX6 248 RX1 yX1_cardAt wsX1_cardAt) := goodIn_app (goodIn_of _ (by decide +kernel)) ggX6_talonAt_X1_cardAt
theorem dX6_talonAt_0 : decode cX6_talonAt 0 = .ok (.iload_n 1, 1) := by decide +kernel
theorem dX6_talonAt_1 : decode cX6_talonAt 1 = .ok (.ifCond .lt 9, 3) := by decide +kernel
theorem dX6_talonAt_4 : decode cX6_talonAt 4 = .ok (.iload_n 1, 1) := by decide +kernel
theorem dX6_talonAt_5 : decode cX6_talonAt 5 = .ok (.bipush 6, 2) := by decide +kernel
theorem dX6_talonAt_7 : decode cX6_talonAt 7 = .ok (.if_icmp .lt 13, 3) := by decide +kernel
theorem dX6_talonAt_10 : decode cX6_talonAt 10 = .ok (.new 126, 3) := by decide +kernel
theorem dX6_talonAt_13 : decode cX6_talonAt 13 = .ok (.dup, 1) := by decide +kernel
theorem dX6_talonAt_14 : decode cX6_talonAt 14 = .ok (.ldc 244, 2) := by decide +kernel
theorem dX6_talonAt_16 : decode cX6_talonAt 16 = .ok (.invokespecial 130, 3) := by decide +kernel
theorem dX6_talonAt_19 : decode cX6_talonAt 19 = .ok (.athrow, 1) := by decide +kernel
theorem dX6_talonAt_20 : decode cX6_talonAt 20 = .ok (.aload_n 0, 1) := by decide +kernel
theorem dX6_talonAt_21 : decode cX6_talonAt 21 = .ok (.getfield 49, 3) := by decide +kernel
theorem dX6_talonAt_24 : decode cX6_talonAt 24 = .ok (.iconst (-1), 1) := by decide +kernel
theorem dX6_talonAt_25 : decode cX6_talonAt 25 = .ok (.if_icmp .ne 13, 3) := by decide +kernel
theorem dX6_talonAt_28 : decode cX6_talonAt 28 = .ok (.new 79, 3) := by decide +kernel
theorem dX6_talonAt_31 : decode cX6_talonAt 31 = .ok (.dup, 1) := by decide +kernel
theorem dX6_talonAt_32 : decode cX6_talonAt 32 = .ok (.ldc 246, 2) := by decide +kernel
theorem dX6_talonAt_34 : decode cX6_talonAt 34 = .ok (.invokespecial 83, 3) := by decide +kernel
theorem dX6_talonAt_37 : decode cX6_talonAt 37 = .ok (.athrow, 1) := by decide +kernel
theorem dX6_talonAt_38 : decode cX6_talonAt 38 = .ok (.aload_n 0, 1) := by decide +kernel
theorem dX6_talonAt_39 : decode cX6_talonAt 39 = .ok (.getfield 12, 3) := by decide +kernel
theorem dX6_talonAt_42 : decode cX6_talonAt 42 = .ok (.bipush 48, 2) := by decide +kernel
theorem dX6_talonAt_44 : decode cX6_talonAt 44 = .ok (.iload_n 1, 1) := by decide +kernel
theorem dX6_talonAt_45 : decode cX6_talonAt 45 = .ok (.iadd, 1) := by decide +kernel
theorem dX6_talonAt_46 : decode cX6_talonAt 46 = .ok (.invokevirtual 248, 3) := by decide +kernel
theorem dX6_talonAt_49 : decode cX6_talonAt 49 = .ok (.ireturn, 1) := by decide +kernel
theorem dX6_inTrick_0 : decode cX6_inTrick 0 = .ok (.aload_n 0, 1) := by decide +kernel
theorem dX6_inTrick_1 : decode cX6_inTrick 1 = .ok (.getfield 26, 3) := by decide +kernel
theorem dX6_inTrick_4 : decode cX6_inTrick 4 = .ok (.getfield 202, 3) := by decide +kernel
theorem dX6_inTrick_7 : decode cX6_inTrick 7 = .ok (.ireturn, 1) := by decide +kernel
set_option maxRecDepth 20000 in
theorem ggX6_trickAt_X5_cardAt : GoodIn wsX6_trickAt wsX5_cardAt := goodIn_r _ [8, 9, 10, 11, 12, 13, 14, 15, 34, 35, 36, 37] (by decide +kernel) (by decide +kernel)
set_option maxRecDepth 20000 in
theorem gX6_trickAt_X5_cardAt : GoodIn wsX6_trickAt (wsV RX6 253 RX5 yX5_cardAt wsX5_cardAt) := goodIn_app (goodIn_of _ (by decide +kernel)) ggX6_trickAt_X5_cardAt
theorem dX6_trickAt_0 : decode cX6_trickAt 0 = .ok (.iload_n 1, 1) := by decide +kernel
theorem dX6_trickAt_1 : decode cX6_trickAt 1 = .ok (.ifCond .lt 14, 3) := by decide +kernel
theorem dX6_trickAt_4 : decode cX6_trickAt 4 = .ok (.iload_n 1, 1) := by decide +kernel
theorem dX6_trickAt_5 : decode cX6_trickAt 5 = .ok (.aload_n 0, 1) := by decide +kernel
theorem dX6_trickAt_6 : decode cX6_trickAt 6 = .ok (.getfield 26, 3) := by decide +kernel
theorem dX6_trickAt_9 : decode cX6_trickAt 9 = .ok (.getfield 202, 3) := by decide +kernel
theorem dX6_trickAt_12 : decode cX6_trickAt 12 = .ok (.if_icmp .lt 13, 3) := by decide +kernel
theorem dX6_trickAt_15 : decode cX6_trickAt 15 = .ok (.new 126, 3) := by decide +kernel
theorem dX6_trickAt_18 : decode cX6_trickAt 18 = .ok (.dup, 1) := by decide +kernel
theorem dX6_trickAt_19 : decode cX6_trickAt 19 = .ok (.ldc 251, 2) := by decide +kernel
theorem dX6_trickAt_21 : decode cX6_trickAt 21 = .ok (.invokespecial 130, 3) := by decide +kernel
theorem dX6_trickAt_24 : decode cX6_trickAt 24 = .ok (.athrow, 1) := by decide +kernel
theorem dX6_trickAt_25 : decode cX6_trickAt 25 = .ok (.aload_n 0, 1) := by decide +kernel
theorem dX6_trickAt_26 : decode cX6_trickAt 26 = .ok (.getfield 26, 3) := by decide +kernel
theorem dX6_trickAt_29 : decode cX6_trickAt 29 = .ok (.iload_n 1, 1) := by decide +kernel
theorem dX6_trickAt_30 : decode cX6_trickAt 30 = .ok (.invokevirtual 253, 3) := by decide +kernel
theorem dX6_trickAt_33 : decode cX6_trickAt 33 = .ok (.ireturn, 1) := by decide +kernel
set_option maxRecDepth 20000 in
theorem ggX6_canPlay_X6_isCard : GoodIn wsX6_canPlay wsX6_isCard := goodIn_r _ [6] (by decide +kernel) (by decide +kernel)
set_option maxRecDepth 20000 in
theorem gX6_canPlay_X6_isCard : GoodIn wsX6_canPlay (va_wsS RX6 171 yX6_isCard wsX6_isCard) := goodIn_app (goodIn_of _ (by decide +kernel)) ggX6_canPlay_X6_isCard
set_option maxRecDepth 20000 in
theorem ggX6_canPlay_X6_playableNow : GoodIn wsX6_canPlay wsX6_playableNow := goodIn_r _ [10, 11, 12, 13, 14, 15, 16, 17, 18, 19, 20, 21, 22, 23, 24, 25, 26, 27, 28, 29, 30, 31, 32, 33, 34, 5, 35, 36, 37, 38, 39, 40, 41, 42, 43, 47, 48, 49, 50, 51, 52, 53, 54, 55, 56, 57, 58, 59, 60, 61, 62, 63, 64, 65, 66, 67, 68, 69] (by decide +kernel) (by decide +kernel)
set_option maxRecDepth 20000 in
theorem gX6_canPlay_X6_playableNow : GoodIn wsX6_canPlay (wsV RX6 222 RX6 yX6_playableNow wsX6_playableNow) := goodIn_app (goodIn_of _ (by decide +kernel)) ggX6_canPlay_X6_playableNow
set_option maxRecDepth 20000 in
theorem ggX6_canPlay_X6_holds : GoodIn wsX6_canPlay wsX6_holds := goodIn_r _ [46] (by decide +kernel) (by decide +kernel)
set_option maxRecDepth 20000 in
theorem gX6_canPlay_X6_holds : GoodIn wsX6_canPlay (va_wsS RX6 179 yX6_holds wsX6_holds) := goodIn_app (goodIn_of _ (by decide +kernel)) ggX6_canPlay_X6_holds
theorem dX6_canPlay_0 : decode cX6_canPlay 0 = .ok (.iload_n 1, 1) := by decide +kernel
theorem dX6_canPlay_1 : decode cX6_canPlay 1 = .ok (.invokestatic 171, 3) := by decide +kernel
theorem dX6_canPlay_4 : decode cX6_canPlay 4 = .ok (.ifCond .ne 13, 3) := by decide +kernel
theorem dX6_canPlay_7 : decode cX6_canPlay 7 = .ok (.new 126, 3) := by decide +kernel
theorem dX6_canPlay_10 : decode cX6_canPlay 10 = .ok (.dup, 1) := by decide +kernel
theorem dX6_canPlay_11 : decode cX6_canPlay 11 = .ok (.ldc 175, 2) := by decide +kernel
theorem dX6_canPlay_13 : decode cX6_canPlay 13 = .ok (.invokespecial 130, 3) := by decide +kernel
theorem dX6_canPlay_16 : decode cX6_canPlay 16 = .ok (.athrow, 1) := by decide +kernel
theorem dX6_canPlay_17 : decode cX6_canPlay 17 = .ok (.aload_n 0, 1) := by decide +kernel
theorem dX6_canPlay_18 : decode cX6_canPlay 18 = .ok (.invokevirtual 222, 3) := by decide +kernel
theorem dX6_canPlay_21 : decode cX6_canPlay 21 = .ok (.iload_n 1, 1) := by decide +kernel
theorem dX6_canPlay_22 : decode cX6_canPlay 22 = .ok (.invokestatic 179, 3) := by decide +kernel
theorem dX6_canPlay_25 : decode cX6_canPlay 25 = .ok (.ireturn, 1) := by decide +kernel
theorem dX6_tricks_0 : decode cX6_tricks 0 = .ok (.aload_n 0, 1) := by decide +kernel
theorem dX6_tricks_1 : decode cX6_tricks 1 = .ok (.getfield 199, 3) := by decide +kernel
theorem dX6_tricks_4 : decode cX6_tricks 4 = .ok (.ireturn, 1) := by decide +kernel
set_option maxRecDepth 20000 in
theorem ggX6_valueOf_X6_isCard : GoodIn wsX6_valueOf wsX6_isCard := goodIn_r _ [6] (by decide +kernel) (by decide +kernel)
set_option maxRecDepth 20000 in
theorem gX6_valueOf_X6_isCard : GoodIn wsX6_valueOf (va_wsS RX6 171 yX6_isCard wsX6_isCard) := goodIn_app (goodIn_of _ (by decide +kernel)) ggX6_valueOf_X6_isCard
set_option maxRecDepth 20000 in
theorem ggX6_valueOf_X6_worth : GoodIn wsX6_valueOf wsX6_worth := goodIn_r _ [9, 10, 11, 5, 12] (by decide +kernel) (by decide +kernel)
set_option maxRecDepth 20000 in
theorem gX6_valueOf_X6_worth : GoodIn wsX6_valueOf (va_wsS RX6 254 yX6_worth wsX6_worth) := goodIn_app (goodIn_of _ (by decide +kernel)) ggX6_valueOf_X6_worth
theorem dX6_valueOf_0 : decode cX6_valueOf 0 = .ok (.iload_n 1, 1) := by decide +kernel
theorem dX6_valueOf_1 : decode cX6_valueOf 1 = .ok (.invokestatic 171, 3) := by decide +kernel
theorem dX6_valueOf_4 : decode cX6_valueOf 4 = .ok (.ifCond .ne 13, 3) := by decide +kernel
theorem dX6_valueOf_7 : decode cX6_valueOf 7 = .ok (.new 126, 3) := by decide +kernel
theorem dX6_valueOf_10 : decode cX6_valueOf 10 = .ok (.dup, 1) := by decide +kernel
theorem dX6_valueOf_11 : decode cX6_valueOf 11 = .ok (.ldc 175, 2) := by decide +kernel
theorem dX6_valueOf_13 : decode cX6_valueOf 13 = .ok (.invokespecial 130, 3) := by decide +kernel
theorem dX6_valueOf_16 : decode cX6_valueOf 16 = .ok (.athrow, 1) := by decide +kernel
theorem dX6_valueOf_17 : decode cX6_valueOf 17 = .ok (.iload_n 1, 1) := by decide +kernel
theorem dX6_valueOf_18 : decode cX6_valueOf 18 = .ok (.invokestatic 254, 3) := by decide +kernel
theorem dX6_valueOf_21 : decode cX6_valueOf 21 = .ok (.ireturn, 1) := by decide +kernel
set_option maxRecDepth 20000 in
theorem ggX6_thirds_X6_isSide : GoodIn wsX6_thirds wsX6_isSide := goodIn_r _ [7] (by decide +kernel) (by decide +kernel)
set_option maxRecDepth 20000 in
theorem gX6_thirds_X6_isSide : GoodIn wsX6_thirds (va_wsS RX6 257 yX6_isSide wsX6_isSide) := goodIn_app (goodIn_of _ (by decide +kernel)) ggX6_thirds_X6_isSide
set_option maxRecDepth 20000 in
theorem ggX6_thirds_X3_at : GoodIn wsX6_thirds wsX3_at := goodIn_r _ [12, 13, 44] (by decide +kernel) (by decide +kernel)
set_option maxRecDepth 20000 in
theorem gX6_thirds_X3_at : GoodIn wsX6_thirds (wsV RX6 154 RX3 yX3_at wsX3_at) := goodIn_app (goodIn_of _ (by decide +kernel)) ggX6_thirds_X3_at
set_option maxRecDepth 20000 in
theorem ggX6_thirds_X6_thirdsOf : GoodIn wsX6_thirds wsX6_thirdsOf := goodIn_r _ [16, 17, 18, 6, 19, 20, 21, 22, 23, 24, 25] (by decide +kernel) (by decide +kernel)
set_option maxRecDepth 20000 in
theorem gX6_thirds_X6_thirdsOf : GoodIn wsX6_thirds (va_wsS RX6 262 yX6_thirdsOf wsX6_thirdsOf) := goodIn_app (goodIn_of _ (by decide +kernel)) ggX6_thirds_X6_thirdsOf
theorem dX6_thirds_0 : decode cX6_thirds 0 = .ok (.iload_n 1, 1) := by decide +kernel
theorem dX6_thirds_1 : decode cX6_thirds 1 = .ok (.invokestatic 257, 3) := by decide +kernel
theorem dX6_thirds_4 : decode cX6_thirds 4 = .ok (.ifCond .ne 14, 3) := by decide +kernel
theorem dX6_thirds_7 : decode cX6_thirds 7 = .ok (.new 126, 3) := by decide +kernel
theorem dX6_thirds_10 : decode cX6_thirds 10 = .ok (.dup, 1) := by decide +kernel
theorem dX6_thirds_11 : decode cX6_thirds 11 = .ok (.ldc_w 260, 3) := by decide +kernel
theorem dX6_thirds_14 : decode cX6_thirds 14 = .ok (.invokespecial 130, 3) := by decide +kernel
theorem dX6_thirds_17 : decode cX6_thirds 17 = .ok (.athrow, 1) := by decide +kernel
theorem dX6_thirds_18 : decode cX6_thirds 18 = .ok (.aload_n 0, 1) := by decide +kernel
theorem dX6_thirds_19 : decode cX6_thirds 19 = .ok (.getfield 46, 3) := by decide +kernel
theorem dX6_thirds_22 : decode cX6_thirds 22 = .ok (.iload_n 1, 1) := by decide +kernel
theorem dX6_thirds_23 : decode cX6_thirds 23 = .ok (.invokevirtual 154, 3) := by decide +kernel
theorem dX6_thirds_26 : decode cX6_thirds 26 = .ok (.invokestatic 262, 3) := by decide +kernel
theorem dX6_thirds_29 : decode cX6_thirds 29 = .ok (.ireturn, 1) := by decide +kernel
set_option maxRecDepth 20000 in
theorem ggX6_byPacks_X6_isSide : GoodIn wsX6_byPacks wsX6_isSide := goodIn_r _ [7] (by decide +kernel) (by decide +kernel)
set_option maxRecDepth 20000 in
theorem gX6_byPacks_X6_isSide : GoodIn wsX6_byPacks (va_wsS RX6 257 yX6_isSide wsX6_isSide) := goodIn_app (goodIn_of _ (by decide +kernel)) ggX6_byPacks_X6_isSide
set_option maxRecDepth 20000 in
theorem ggX6_byPacks_X3_at : GoodIn wsX6_byPacks wsX3_at := goodIn_r _ [12, 13, 44] (by decide +kernel) (by decide +kernel)
set_option maxRecDepth 20000 in
theorem gX6_byPacks_X3_at : GoodIn wsX6_byPacks (wsV RX6 154 RX3 yX3_at wsX3_at) := goodIn_app (goodIn_of _ (by decide +kernel)) ggX6_byPacks_X3_at
set_option maxRecDepth 20000 in
theorem ggX6_byPacks_X6_packPointsOf : GoodIn wsX6_byPacks wsX6_packPointsOf := goodIn_r _ [16, 17, 18, 6, 19, 20, 21, 22, 23, 24, 25] (by decide +kernel) (by decide +kernel)
set_option maxRecDepth 20000 in
theorem gX6_byPacks_X6_packPointsOf : GoodIn wsX6_byPacks (va_wsS RX6 265 yX6_packPointsOf wsX6_packPointsOf) := goodIn_app (goodIn_of _ (by decide +kernel)) ggX6_byPacks_X6_packPointsOf
theorem dX6_byPacks_0 : decode cX6_byPacks 0 = .ok (.iload_n 1, 1) := by decide +kernel
theorem dX6_byPacks_1 : decode cX6_byPacks 1 = .ok (.invokestatic 257, 3) := by decide +kernel
theorem dX6_byPacks_4 : decode cX6_byPacks 4 = .ok (.ifCond .ne 14, 3) := by decide +kernel
theorem dX6_byPacks_7 : decode cX6_byPacks 7 = .ok (.new 126, 3) := by decide +kernel
theorem dX6_byPacks_10 : decode cX6_byPacks 10 = .ok (.dup, 1) := by decide +kernel
theorem dX6_byPacks_11 : decode cX6_byPacks 11 = .ok (.ldc_w 260, 3) := by decide +kernel
theorem dX6_byPacks_14 : decode cX6_byPacks 14 = .ok (.invokespecial 130, 3) := by decide +kernel
theorem dX6_byPacks_17 : decode cX6_byPacks 17 = .ok (.athrow, 1) := by decide +kernel
theorem dX6_byPacks_18 : decode cX6_byPacks 18 = .ok (.aload_n 0, 1) := by decide +kernel
theorem dX6_byPacks_19 : decode cX6_byPacks 19 = .ok (.getfield 46, 3) := by decide +kernel
theorem dX6_byPacks_22 : decode cX6_byPacks 22 = .ok (.iload_n 1, 1) := by decide +kernel
theorem dX6_byPacks_23 : decode cX6_byPacks 23 = .ok (.invokevirtual 154, 3) := by decide +kernel
theorem dX6_byPacks_26 : decode cX6_byPacks 26 = .ok (.invokestatic 265, 3) := by decide +kernel
theorem dX6_byPacks_29 : decode cX6_byPacks 29 = .ok (.ireturn, 1) := by decide +kernel
set_option maxRecDepth 20000 in
theorem ggX6_score_X6_isPlayer : GoodIn wsX6_score wsX6_isPlayer := goodIn_r _ [7] (by decide +kernel) (by decide +kernel)
set_option maxRecDepth 20000 in
theorem gX6_score_X6_isPlayer : GoodIn wsX6_score (va_wsS RX6 239 yX6_isPlayer wsX6_isPlayer) := goodIn_app (goodIn_of _ (by decide +kernel)) ggX6_score_X6_isPlayer
set_option maxRecDepth 20000 in
theorem ggX6_score_X2_at : GoodIn wsX6_score wsX2_at := goodIn_r _ [12, 13, 35] (by decide +kernel) (by decide +kernel)
set_option maxRecDepth 20000 in
theorem gX6_score_X2_at : GoodIn wsX6_score (wsV RX6 272 RX2 yX2_at wsX2_at) := goodIn_app (goodIn_of _ (by decide +kernel)) ggX6_score_X2_at
theorem dX6_score_0 : decode cX6_score 0 = .ok (.iload_n 1, 1) := by decide +kernel
theorem dX6_score_1 : decode cX6_score 1 = .ok (.invokestatic 239, 3) := by decide +kernel
theorem dX6_score_4 : decode cX6_score 4 = .ok (.ifCond .ne 13, 3) := by decide +kernel
theorem dX6_score_7 : decode cX6_score 7 = .ok (.new 126, 3) := by decide +kernel
theorem dX6_score_10 : decode cX6_score 10 = .ok (.dup, 1) := by decide +kernel
theorem dX6_score_11 : decode cX6_score 11 = .ok (.ldc 242, 2) := by decide +kernel
theorem dX6_score_13 : decode cX6_score 13 = .ok (.invokespecial 130, 3) := by decide +kernel
theorem dX6_score_16 : decode cX6_score 16 = .ok (.athrow, 1) := by decide +kernel
theorem dX6_score_17 : decode cX6_score 17 = .ok (.aload_n 0, 1) := by decide +kernel
theorem dX6_score_18 : decode cX6_score 18 = .ok (.getfield 33, 3) := by decide +kernel
theorem dX6_score_21 : decode cX6_score 21 = .ok (.getfield 268, 3) := by decide +kernel
theorem dX6_score_24 : decode cX6_score 24 = .ok (.iload_n 1, 1) := by decide +kernel
theorem dX6_score_25 : decode cX6_score 25 = .ok (.invokevirtual 272, 3) := by decide +kernel
theorem dX6_score_28 : decode cX6_score 28 = .ok (.ireturn, 1) := by decide +kernel
set_option maxRecDepth 20000 in
theorem ggX6_radli_X6_isPlayer : GoodIn wsX6_radli wsX6_isPlayer := goodIn_r _ [7] (by decide +kernel) (by decide +kernel)
set_option maxRecDepth 20000 in
theorem gX6_radli_X6_isPlayer : GoodIn wsX6_radli (va_wsS RX6 239 yX6_isPlayer wsX6_isPlayer) := goodIn_app (goodIn_of _ (by decide +kernel)) ggX6_radli_X6_isPlayer
set_option maxRecDepth 20000 in
theorem ggX6_radli_X2_at : GoodIn wsX6_radli wsX2_at := goodIn_r _ [12, 13, 35] (by decide +kernel) (by decide +kernel)
set_option maxRecDepth 20000 in
theorem gX6_radli_X2_at : GoodIn wsX6_radli (wsV RX6 272 RX2 yX2_at wsX2_at) := goodIn_app (goodIn_of _ (by decide +kernel)) ggX6_radli_X2_at
theorem dX6_radli_0 : decode cX6_radli 0 = .ok (.iload_n 1, 1) := by decide +kernel
theorem dX6_radli_1 : decode cX6_radli 1 = .ok (.invokestatic 239, 3) := by decide +kernel
theorem dX6_radli_4 : decode cX6_radli 4 = .ok (.ifCond .ne 13, 3) := by decide +kernel
theorem dX6_radli_7 : decode cX6_radli 7 = .ok (.new 126, 3) := by decide +kernel
theorem dX6_radli_10 : decode cX6_radli 10 = .ok (.dup, 1) := by decide +kernel
theorem dX6_radli_11 : decode cX6_radli 11 = .ok (.ldc 242, 2) := by decide +kernel
theorem dX6_radli_13 : decode cX6_radli 13 = .ok (.invokespecial 130, 3) := by decide +kernel
theorem dX6_radli_16 : decode cX6_radli 16 = .ok (.athrow, 1) := by decide +kernel
theorem dX6_radli_17 : decode cX6_radli 17 = .ok (.aload_n 0, 1) := by decide +kernel
theorem dX6_radli_18 : decode cX6_radli 18 = .ok (.getfield 33, 3) := by decide +kernel
theorem dX6_radli_21 : decode cX6_radli 21 = .ok (.getfield 276, 3) := by decide +kernel
theorem dX6_radli_24 : decode cX6_radli 24 = .ok (.iload_n 1, 1) := by decide +kernel
theorem dX6_radli_25 : decode cX6_radli 25 = .ok (.invokevirtual 272, 3) := by decide +kernel
theorem dX6_radli_28 : decode cX6_radli 28 = .ok (.ireturn, 1) := by decide +kernel
theorem dX6_result_0 : decode cX6_result 0 = .ok (.aload_n 0, 1) := by decide +kernel
theorem dX6_result_1 : decode cX6_result 1 = .ok (.getfield 33, 3) := by decide +kernel
theorem dX6_result_4 : decode cX6_result 4 = .ok (.getfield 279, 3) := by decide +kernel
theorem dX6_result_7 : decode cX6_result 7 = .ok (.ireturn, 1) := by decide +kernel
set_option maxRecDepth 20000 in
theorem ggX6_knows_X6_isPlayer : GoodIn wsX6_knows wsX6_isPlayer := goodIn_r _ [9] (by decide +kernel) (by decide +kernel)
set_option maxRecDepth 20000 in
theorem gX6_knows_X6_isPlayer : GoodIn wsX6_knows (va_wsS RX6 239 yX6_isPlayer wsX6_isPlayer) := goodIn_app (goodIn_of _ (by decide +kernel)) ggX6_knows_X6_isPlayer
set_option maxRecDepth 20000 in
theorem ggX6_knows_X6_sidesAreOpen : GoodIn wsX6_knows wsX6_sidesAreOpen := goodIn_r _ [13, 14, 5, 15, 16, 17, 18, 19, 20, 21, 22, 23, 24, 8, 25, 26, 27, 28, 34, 35, 36, 37, 38, 39, 40, 41, 42, 43, 44, 45, 46, 47, 48, 49, 50, 51, 52] (by decide +kernel) (by decide +kernel)
set_option maxRecDepth 20000 in
theorem gX6_knows_X6_sidesAreOpen : GoodIn wsX6_knows (wsV RX6 282 RX6 yX6_sidesAreOpen wsX6_sidesAreOpen) := goodIn_app (goodIn_of _ (by decide +kernel)) ggX6_knows_X6_sidesAreOpen
set_option maxRecDepth 20000 in
theorem ggX6_knows_X6_sideOf : GoodIn wsX6_knows wsX6_sideOf := goodIn_r _ [32, 3, 33, 34, 35, 36, 37, 38, 39, 40, 41, 42, 43, 44, 45, 46, 47, 48, 49, 50, 51] (by decide +kernel) (by decide +kernel)
set_option maxRecDepth 20000 in
theorem gX6_knows_X6_sideOf : GoodIn wsX6_knows (wsV RX6 285 RX6 yX6_sideOf wsX6_sideOf) := goodIn_app (goodIn_of _ (by decide +kernel)) ggX6_knows_X6_sideOf
theorem dX6_knows_0 : decode cX6_knows 0 = .ok (.iload_n 1, 1) := by decide +kernel
theorem dX6_knows_1 : decode cX6_knows 1 = .ok (.invokestatic 239, 3) := by decide +kernel
theorem dX6_knows_4 : decode cX6_knows 4 = .ok (.ifCond .eq 10, 3) := by decide +kernel
theorem dX6_knows_7 : decode cX6_knows 7 = .ok (.iload_n 2, 1) := by decide +kernel
theorem dX6_knows_8 : decode cX6_knows 8 = .ok (.invokestatic 239, 3) := by decide +kernel
theorem dX6_knows_11 : decode cX6_knows 11 = .ok (.ifCond .ne 13, 3) := by decide +kernel
theorem dX6_knows_14 : decode cX6_knows 14 = .ok (.new 126, 3) := by decide +kernel
theorem dX6_knows_17 : decode cX6_knows 17 = .ok (.dup, 1) := by decide +kernel
theorem dX6_knows_18 : decode cX6_knows 18 = .ok (.ldc 242, 2) := by decide +kernel
theorem dX6_knows_20 : decode cX6_knows 20 = .ok (.invokespecial 130, 3) := by decide +kernel
theorem dX6_knows_23 : decode cX6_knows 23 = .ok (.athrow, 1) := by decide +kernel
theorem dX6_knows_24 : decode cX6_knows 24 = .ok (.aload_n 0, 1) := by decide +kernel
theorem dX6_knows_25 : decode cX6_knows 25 = .ok (.getfield 59, 3) := by decide +kernel
theorem dX6_knows_28 : decode cX6_knows 28 = .ok (.iconst (-1), 1) := by decide +kernel
theorem dX6_knows_29 : decode cX6_knows 29 = .ok (.if_icmp .eq 11, 3) := by decide +kernel
theorem dX6_knows_32 : decode cX6_knows 32 = .ok (.aload_n 0, 1) := by decide +kernel
theorem dX6_knows_33 : decode cX6_knows 33 = .ok (.getfield 53, 3) := by decide +kernel
theorem dX6_knows_36 : decode cX6_knows 36 = .ok (.iconst 2, 1) := by decide +kernel
theorem dX6_knows_37 : decode cX6_knows 37 = .ok (.if_icmp .ne 5, 3) := by decide +kernel
theorem dX6_knows_40 : decode cX6_knows 40 = .ok (.iconst (-1), 1) := by decide +kernel
theorem dX6_knows_41 : decode cX6_knows 41 = .ok (.ireturn, 1) := by decide +kernel
theorem dX6_knows_42 : decode cX6_knows 42 = .ok (.iload_n 2, 1) := by decide +kernel
theorem dX6_knows_43 : decode cX6_knows 43 = .ok (.aload_n 0, 1) := by decide +kernel
theorem dX6_knows_44 : decode cX6_knows 44 = .ok (.getfield 59, 3) := by decide +kernel
theorem dX6_knows_47 : decode cX6_knows 47 = .ok (.if_icmp .eq 23, 3) := by decide +kernel
theorem dX6_knows_50 : decode cX6_knows 50 = .ok (.iload_n 2, 1) := by decide +kernel
theorem dX6_knows_51 : decode cX6_knows 51 = .ok (.iload_n 1, 1) := by decide +kernel
theorem dX6_knows_52 : decode cX6_knows 52 = .ok (.if_icmp .eq 18, 3) := by decide +kernel
theorem dX6_knows_55 : decode cX6_knows 55 = .ok (.iload_n 1, 1) := by decide +kernel
theorem dX6_knows_56 : decode cX6_knows 56 = .ok (.aload_n 0, 1) := by decide +kernel
theorem dX6_knows_57 : decode cX6_knows 57 = .ok (.getfield 65, 3) := by decide +kernel
theorem dX6_knows_60 : decode cX6_knows 60 = .ok (.if_icmp .eq 10, 3) := by decide +kernel
theorem dX6_knows_63 : decode cX6_knows 63 = .ok (.aload_n 0, 1) := by decide +kernel
theorem dX6_knows_64 : decode cX6_knows 64 = .ok (.invokevirtual 282, 3) := by decide +kernel
theorem dX6_knows_67 : decode cX6_knows 67 = .ok (.ifCond .eq 7, 3) := by decide +kernel
theorem dX6_knows_70 : decode cX6_knows 70 = .ok (.iconst 1, 1) := by decide +kernel
theorem dX6_knows_71 : decode cX6_knows 71 = .ok (.goto 4, 3) := by decide +kernel
theorem dX6_knows_74 : decode cX6_knows 74 = .ok (.iconst 0, 1) := by decide +kernel
theorem dX6_knows_75 : decode cX6_knows 75 = .ok (.istore_n 3, 1) := by decide +kernel
theorem dX6_knows_76 : decode cX6_knows 76 = .ok (.iload_n 3, 1) := by decide +kernel
theorem dX6_knows_77 : decode cX6_knows 77 = .ok (.ifCond .eq 11, 3) := by decide +kernel
theorem dX6_knows_80 : decode cX6_knows 80 = .ok (.aload_n 0, 1) := by decide +kernel
theorem dX6_knows_81 : decode cX6_knows 81 = .ok (.iload_n 2, 1) := by decide +kernel
theorem dX6_knows_82 : decode cX6_knows 82 = .ok (.invokevirtual 285, 3) := by decide +kernel
theorem dX6_knows_85 : decode cX6_knows 85 = .ok (.goto 4, 3) := by decide +kernel
theorem dX6_knows_88 : decode cX6_knows 88 = .ok (.iconst (-1), 1) := by decide +kernel
theorem dX6_knows_89 : decode cX6_knows 89 = .ok (.ireturn, 1) := by decide +kernel
set_option maxRecDepth 20000 in
theorem ggX6_clearDeal_X0_clear : GoodIn wsX6_clearDeal wsX0_clear := goodIn_r _ [17, 18, 19, 20, 52, 53, 54] (by decide +kernel) (by decide +kernel)
set_option maxRecDepth 20000 in
theorem gX6_clearDeal_X0_clear : GoodIn wsX6_clearDeal (wsV RX6 288 RX0 yX0_clear wsX0_clear) := goodIn_app (goodIn_of _ (by decide +kernel)) ggX6_clearDeal_X0_clear
set_option maxRecDepth 20000 in
theorem ggX6_clearDeal_X5_begin : GoodIn wsX6_clearDeal wsX5_begin := goodIn_r _ [25, 26, 27, 55, 56, 57] (by decide +kernel) (by decide +kernel)
set_option maxRecDepth 20000 in
theorem gX6_clearDeal_X5_begin : GoodIn wsX6_clearDeal (wsV RX6 291 RX5 yX5_begin wsX5_begin) := goodIn_app (goodIn_of _ (by decide +kernel)) ggX6_clearDeal_X5_begin
set_option maxRecDepth 20000 in
theorem ggX6_clearDeal_X3_put : GoodIn wsX6_clearDeal wsX3_put := goodIn_r _ [32, 33, 58] (by decide +kernel) (by decide +kernel)
set_option maxRecDepth 20000 in
theorem gX6_clearDeal_X3_put : GoodIn wsX6_clearDeal (wsV RX6 158 RX3 yX3_put wsX3_put) := goodIn_app (goodIn_of _ (by decide +kernel)) ggX6_clearDeal_X3_put
theorem dX6_clearDeal_0 : decode cX6_clearDeal 0 = .ok (.aload_n 0, 1) := by decide +kernel
theorem dX6_clearDeal_1 : decode cX6_clearDeal 1 = .ok (.getfield 19, 3) := by decide +kernel
theorem dX6_clearDeal_4 : decode cX6_clearDeal 4 = .ok (.invokevirtual 288, 3) := by decide +kernel
theorem dX6_clearDeal_7 : decode cX6_clearDeal 7 = .ok (.aload_n 0, 1) := by decide +kernel
theorem dX6_clearDeal_8 : decode cX6_clearDeal 8 = .ok (.getfield 26, 3) := by decide +kernel
theorem dX6_clearDeal_11 : decode cX6_clearDeal 11 = .ok (.aload_n 0, 1) := by decide +kernel
theorem dX6_clearDeal_12 : decode cX6_clearDeal 12 = .ok (.getfield 49, 3) := by decide +kernel
theorem dX6_clearDeal_15 : decode cX6_clearDeal 15 = .ok (.invokevirtual 291, 3) := by decide +kernel
theorem dX6_clearDeal_18 : decode cX6_clearDeal 18 = .ok (.aload_n 0, 1) := by decide +kernel
theorem dX6_clearDeal_19 : decode cX6_clearDeal 19 = .ok (.iconst (-1), 1) := by decide +kernel
theorem dX6_clearDeal_20 : decode cX6_clearDeal 20 = .ok (.putfield 59, 3) := by decide +kernel
theorem dX6_clearDeal_23 : decode cX6_clearDeal 23 = .ok (.aload_n 0, 1) := by decide +kernel
theorem dX6_clearDeal_24 : decode cX6_clearDeal 24 = .ok (.iconst (-1), 1) := by decide +kernel
theorem dX6_clearDeal_25 : decode cX6_clearDeal 25 = .ok (.putfield 62, 3) := by decide +kernel
theorem dX6_clearDeal_28 : decode cX6_clearDeal 28 = .ok (.aload_n 0, 1) := by decide +kernel
theorem dX6_clearDeal_29 : decode cX6_clearDeal 29 = .ok (.iconst (-1), 1) := by decide +kernel
theorem dX6_clearDeal_30 : decode cX6_clearDeal 30 = .ok (.putfield 65, 3) := by decide +kernel
theorem dX6_clearDeal_33 : decode cX6_clearDeal 33 = .ok (.aload_n 0, 1) := by decide +kernel
theorem dX6_clearDeal_34 : decode cX6_clearDeal 34 = .ok (.iconst (-1), 1) := by decide +kernel
theorem dX6_clearDeal_35 : decode cX6_clearDeal 35 = .ok (.putfield 68, 3) := by decide +kernel
theorem dX6_clearDeal_38 : decode cX6_clearDeal 38 = .ok (.aload_n 0, 1) := by decide +kernel
theorem dX6_clearDeal_39 : decode cX6_clearDeal 39 = .ok (.iconst 0, 1) := by decide +kernel
theorem dX6_clearDeal_40 : decode cX6_clearDeal 40 = .ok (.putfield 168, 3) := by decide +kernel
theorem dX6_clearDeal_43 : decode cX6_clearDeal 43 = .ok (.aload_n 0, 1) := by decide +kernel
theorem dX6_clearDeal_44 : decode cX6_clearDeal 44 = .ok (.lconst 0, 1) := by decide +kernel
theorem dX6_clearDeal_45 : decode cX6_clearDeal 45 = .ok (.putfield 191, 3) := by decide +kernel
theorem dX6_clearDeal_48 : decode cX6_clearDeal 48 = .ok (.aload_n 0, 1) := by decide +kernel
theorem dX6_clearDeal_49 : decode cX6_clearDeal 49 = .ok (.iconst 0, 1) := by decide +kernel
theorem dX6_clearDeal_50 : decode cX6_clearDeal 50 = .ok (.putfield 214, 3) := by decide +kernel
theorem dX6_clearDeal_53 : decode cX6_clearDeal 53 = .ok (.aload_n 0, 1) := by decide +kernel
theorem dX6_clearDeal_54 : decode cX6_clearDeal 54 = .ok (.iconst 0, 1) := by decide +kernel
theorem dX6_clearDeal_55 : decode cX6_clearDeal 55 = .ok (.putfield 199, 3) := by decide +kernel
theorem dX6_clearDeal_58 : decode cX6_clearDeal 58 = .ok (.aload_n 0, 1) := by decide +kernel
theorem dX6_clearDeal_59 : decode cX6_clearDeal 59 = .ok (.getfield 46, 3) := by decide +kernel
theorem dX6_clearDeal_62 : decode cX6_clearDeal 62 = .ok (.iconst 0, 1) := by decide +kernel
theorem dX6_clearDeal_63 : decode cX6_clearDeal 63 = .ok (.lconst 0, 1) := by decide +kernel
theorem dX6_clearDeal_64 : decode cX6_clearDeal 64 = .ok (.invokevirtual 158, 3) := by decide +kernel
theorem dX6_clearDeal_67 : decode cX6_clearDeal 67 = .ok (.aload_n 0, 1) := by decide +kernel
theorem dX6_clearDeal_68 : decode cX6_clearDeal 68 = .ok (.getfield 46, 3) := by decide +kernel
theorem dX6_clearDeal_71 : decode cX6_clearDeal 71 = .ok (.iconst 1, 1) := by decide +kernel
theorem dX6_clearDeal_72 : decode cX6_clearDeal 72 = .ok (.lconst 0, 1) := by decide +kernel
theorem dX6_clearDeal_73 : decode cX6_clearDeal 73 = .ok (.invokevirtual 158, 3) := by decide +kernel
theorem dX6_clearDeal_76 : decode cX6_clearDeal 76 = .ok (.return_, 1) := by decide +kernel
set_option maxRecDepth 20000 in
theorem ggX6_handOut_X1_cardsFrom : GoodIn wsX6_handOut wsX1_cardsFrom := goodIn_r _ [9, 10, 11, 12, 13, 14, 15, 16, 17, 18, 19, 47, 48] (by decide +kernel) (by decide +kernel)
set_option maxRecDepth 20000 in
theorem gX6_handOut_X1_cardsFrom : GoodIn wsX6_handOut (wsV RX6 150 RX1 yX1_cardsFrom wsX1_cardsFrom) := goodIn_app (goodIn_of _ (by decide +kernel)) ggX6_handOut_X1_cardsFrom
set_option maxRecDepth 20000 in
theorem ggX6_handOut_X3_put : GoodIn wsX6_handOut wsX3_put := goodIn_r _ [24, 25, 49] (by decide +kernel) (by decide +kernel)
set_option maxRecDepth 20000 in
theorem gX6_handOut_X3_put : GoodIn wsX6_handOut (wsV RX6 158 RX3 yX3_put wsX3_put) := goodIn_app (goodIn_of _ (by decide +kernel)) ggX6_handOut_X3_put
set_option maxRecDepth 20000 in
theorem ggX6_handOut_X6_behind : GoodIn wsX6_handOut wsX6_behind := goodIn_r _ [28] (by decide +kernel) (by decide +kernel)
set_option maxRecDepth 20000 in
theorem gX6_handOut_X6_behind : GoodIn wsX6_handOut (va_wsS RX6 84 yX6_behind wsX6_behind) := goodIn_app (goodIn_of _ (by decide +kernel)) ggX6_handOut_X6_behind
theorem dX6_handOut_0 : decode cX6_handOut 0 = .ok (.aload_n 0, 1) := by decide +kernel
theorem dX6_handOut_1 : decode cX6_handOut 1 = .ok (.getfield 49, 3) := by decide +kernel
theorem dX6_handOut_4 : decode cX6_handOut 4 = .ok (.istore_n 1, 1) := by decide +kernel
theorem dX6_handOut_5 : decode cX6_handOut 5 = .ok (.iconst 0, 1) := by decide +kernel
theorem dX6_handOut_6 : decode cX6_handOut 6 = .ok (.istore_n 2, 1) := by decide +kernel
theorem dX6_handOut_7 : decode cX6_handOut 7 = .ok (.iload_n 2, 1) := by decide +kernel
theorem dX6_handOut_8 : decode cX6_handOut 8 = .ok (.iconst 4, 1) := by decide +kernel
theorem dX6_handOut_9 : decode cX6_handOut 9 = .ok (.if_icmp .ge 35, 3) := by decide +kernel
theorem dX6_handOut_12 : decode cX6_handOut 12 = .ok (.aload_n 0, 1) := by decide +kernel
theorem dX6_handOut_13 : decode cX6_handOut 13 = .ok (.getfield 42, 3) := by decide +kernel
theorem dX6_handOut_16 : decode cX6_handOut 16 = .ok (.iload_n 1, 1) := by decide +kernel
theorem dX6_handOut_17 : decode cX6_handOut 17 = .ok (.aload_n 0, 1) := by decide +kernel
theorem dX6_handOut_18 : decode cX6_handOut 18 = .ok (.getfield 12, 3) := by decide +kernel
theorem dX6_handOut_21 : decode cX6_handOut 21 = .ok (.iload_n 2, 1) := by decide +kernel
theorem dX6_handOut_22 : decode cX6_handOut 22 = .ok (.bipush 12, 2) := by decide +kernel
theorem dX6_handOut_24 : decode cX6_handOut 24 = .ok (.imul, 1) := by decide +kernel
theorem dX6_handOut_25 : decode cX6_handOut 25 = .ok (.bipush 12, 2) := by decide +kernel
theorem dX6_handOut_27 : decode cX6_handOut 27 = .ok (.invokevirtual 150, 3) := by decide +kernel
theorem dX6_handOut_30 : decode cX6_handOut 30 = .ok (.invokevirtual 158, 3) := by decide +kernel
theorem dX6_handOut_33 : decode cX6_handOut 33 = .ok (.iload_n 1, 1) := by decide +kernel
theorem dX6_handOut_34 : decode cX6_handOut 34 = .ok (.invokestatic 84, 3) := by decide +kernel
theorem dX6_handOut_37 : decode cX6_handOut 37 = .ok (.istore_n 1, 1) := by decide +kernel
theorem dX6_handOut_38 : decode cX6_handOut 38 = .ok (.iinc 2 1, 3) := by decide +kernel
theorem dX6_handOut_41 : decode cX6_handOut 41 = .ok (.goto (-34), 3) := by decide +kernel
theorem dX6_handOut_44 : decode cX6_handOut 44 = .ok (.aload_n 0, 1) := by decide +kernel
theorem dX6_handOut_45 : decode cX6_handOut 45 = .ok (.aload_n 0, 1) := by decide +kernel
theorem dX6_handOut_46 : decode cX6_handOut 46 = .ok (.getfield 12, 3) := by decide +kernel
theorem dX6_handOut_49 : decode cX6_handOut 49 = .ok (.bipush 48, 2) := by decide +kernel
theorem dX6_handOut_51 : decode cX6_handOut 51 = .ok (.bipush 6, 2) := by decide +kernel
theorem dX6_handOut_53 : decode cX6_handOut 53 = .ok (.invokevirtual 150, 3) := by decide +kernel
theorem dX6_handOut_56 : decode cX6_handOut 56 = .ok (.putfield 162, 3) := by decide +kernel
theorem dX6_handOut_59 : decode cX6_handOut 59 = .ok (.return_, 1) := by decide +kernel
set_option maxRecDepth 20000 in
theorem ggX6_beginGame_X6_beginPlay : GoodIn wsX6_beginGame wsX6_beginPlay := goodIn_r _ [9, 10, 11, 12, 4, 13, 3, 14, 15, 16, 17, 18, 19, 20, 21, 22, 23, 24, 25, 26, 27, 28, 29, 30, 31, 32, 33, 34, 35, 36, 37, 41] (by decide +kernel) (by decide +kernel)
set_option maxRecDepth 20000 in
theorem gX6_beginGame_X6_beginPlay : GoodIn wsX6_beginGame (wsV RX6 194 RX6 yX6_beginPlay wsX6_beginPlay) := goodIn_app (goodIn_of _ (by decide +kernel)) ggX6_beginGame_X6_beginPlay
theorem dX6_beginGame_0 : decode cX6_beginGame 0 = .ok (.aload_n 0, 1) := by decide +kernel
theorem dX6_beginGame_1 : decode cX6_beginGame 1 = .ok (.aload_n 0, 1) := by decide +kernel
theorem dX6_beginGame_2 : decode cX6_beginGame 2 = .ok (.getfield 19, 3) := by decide +kernel
theorem dX6_beginGame_5 : decode cX6_beginGame 5 = .ok (.getfield 294, 3) := by decide +kernel
theorem dX6_beginGame_8 : decode cX6_beginGame 8 = .ok (.putfield 59, 3) := by decide +kernel
theorem dX6_beginGame_11 : decode cX6_beginGame 11 = .ok (.aload_n 0, 1) := by decide +kernel
theorem dX6_beginGame_12 : decode cX6_beginGame 12 = .ok (.aload_n 0, 1) := by decide +kernel
theorem dX6_beginGame_13 : decode cX6_beginGame 13 = .ok (.getfield 59, 3) := by decide +kernel
theorem dX6_beginGame_16 : decode cX6_beginGame 16 = .ok (.putfield 56, 3) := by decide +kernel
theorem dX6_beginGame_19 : decode cX6_beginGame 19 = .ok (.aload_n 0, 1) := by decide +kernel
theorem dX6_beginGame_20 : decode cX6_beginGame 20 = .ok (.getfield 19, 3) := by decide +kernel
theorem dX6_beginGame_23 : decode cX6_beginGame 23 = .ok (.getfield 101, 3) := by decide +kernel
theorem dX6_beginGame_26 : decode cX6_beginGame 26 = .ok (.iconst 3, 1) := by decide +kernel
theorem dX6_beginGame_27 : decode cX6_beginGame 27 = .ok (.if_icmp .gt 11, 3) := by decide +kernel
theorem dX6_beginGame_30 : decode cX6_beginGame 30 = .ok (.aload_n 0, 1) := by decide +kernel
theorem dX6_beginGame_31 : decode cX6_beginGame 31 = .ok (.iconst 2, 1) := by decide +kernel
theorem dX6_beginGame_32 : decode cX6_beginGame 32 = .ok (.putfield 53, 3) := by decide +kernel
theorem dX6_beginGame_35 : decode cX6_beginGame 35 = .ok (.goto 26, 3) := by decide +kernel
theorem dX6_beginGame_38 : decode cX6_beginGame 38 = .ok (.aload_n 0, 1) := by decide +kernel
theorem dX6_beginGame_39 : decode cX6_beginGame 39 = .ok (.getfield 19, 3) := by decide +kernel
theorem dX6_beginGame_42 : decode cX6_beginGame 42 = .ok (.getfield 101, 3) := by decide +kernel
theorem dX6_beginGame_45 : decode cX6_beginGame 45 = .ok (.iconst 4, 1) := by decide +kernel
theorem dX6_beginGame_46 : decode cX6_beginGame 46 = .ok (.if_icmp .gt 11, 3) := by decide +kernel
theorem dX6_beginGame_49 : decode cX6_beginGame 49 = .ok (.aload_n 0, 1) := by decide +kernel
theorem dX6_beginGame_50 : decode cX6_beginGame 50 = .ok (.iconst 3, 1) := by decide +kernel
theorem dX6_beginGame_51 : decode cX6_beginGame 51 = .ok (.putfield 53, 3) := by decide +kernel
theorem dX6_beginGame_54 : decode cX6_beginGame 54 = .ok (.goto 7, 3) := by decide +kernel
theorem dX6_beginGame_57 : decode cX6_beginGame 57 = .ok (.aload_n 0, 1) := by decide +kernel
theorem dX6_beginGame_58 : decode cX6_beginGame 58 = .ok (.invokevirtual 194, 3) := by decide +kernel
theorem dX6_beginGame_61 : decode cX6_beginGame 61 = .ok (.return_, 1) := by decide +kernel
set_option maxRecDepth 20000 in
theorem ggX6_beginPlay_X3_put : GoodIn wsX6_beginPlay wsX3_put := goodIn_r _ [11, 12, 31] (by decide +kernel) (by decide +kernel)
set_option maxRecDepth 20000 in
theorem gX6_beginPlay_X3_put : GoodIn wsX6_beginPlay (wsV RX6 158 RX3 yX3_put wsX3_put) := goodIn_app (goodIn_of _ (by decide +kernel)) ggX6_beginPlay_X3_put
theorem dX6_beginPlay_0 : decode cX6_beginPlay 0 = .ok (.aload_n 0, 1) := by decide +kernel
theorem dX6_beginPlay_1 : decode cX6_beginPlay 1 = .ok (.getfield 46, 3) := by decide +kernel
theorem dX6_beginPlay_4 : decode cX6_beginPlay 4 = .ok (.iconst 0, 1) := by decide +kernel
theorem dX6_beginPlay_5 : decode cX6_beginPlay 5 = .ok (.aload_n 0, 1) := by decide +kernel
theorem dX6_beginPlay_6 : decode cX6_beginPlay 6 = .ok (.getfield 191, 3) := by decide +kernel
theorem dX6_beginPlay_9 : decode cX6_beginPlay 9 = .ok (.invokevirtual 158, 3) := by decide +kernel
theorem dX6_beginPlay_12 : decode cX6_beginPlay 12 = .ok (.aload_n 0, 1) := by decide +kernel
theorem dX6_beginPlay_13 : decode cX6_beginPlay 13 = .ok (.getfield 46, 3) := by decide +kernel
theorem dX6_beginPlay_16 : decode cX6_beginPlay 16 = .ok (.iconst 1, 1) := by decide +kernel
theorem dX6_beginPlay_17 : decode cX6_beginPlay 17 = .ok (.aload_n 0, 1) := by decide +kernel
theorem dX6_beginPlay_18 : decode cX6_beginPlay 18 = .ok (.getfield 162, 3) := by decide +kernel
theorem dX6_beginPlay_21 : decode cX6_beginPlay 21 = .ok (.invokevirtual 158, 3) := by decide +kernel
theorem dX6_beginPlay_24 : decode cX6_beginPlay 24 = .ok (.aload_n 0, 1) := by decide +kernel
theorem dX6_beginPlay_25 : decode cX6_beginPlay 25 = .ok (.iconst 5, 1) := by decide +kernel
theorem dX6_beginPlay_26 : decode cX6_beginPlay 26 = .ok (.putfield 53, 3) := by decide +kernel
theorem dX6_beginPlay_29 : decode cX6_beginPlay 29 = .ok (.aload_n 0, 1) := by decide +kernel
theorem dX6_beginPlay_30 : decode cX6_beginPlay 30 = .ok (.aload_n 0, 1) := by decide +kernel
theorem dX6_beginPlay_31 : decode cX6_beginPlay 31 = .ok (.getfield 49, 3) := by decide +kernel
theorem dX6_beginPlay_34 : decode cX6_beginPlay 34 = .ok (.putfield 56, 3) := by decide +kernel
theorem dX6_beginPlay_37 : decode cX6_beginPlay 37 = .ok (.return_, 1) := by decide +kernel
set_option maxRecDepth 20000 in
theorem ggX6_addToTrick_X3_at : GoodIn wsX6_addToTrick wsX3_at := goodIn_r _ [9, 10, 168] (by decide +kernel) (by decide +kernel)
set_option maxRecDepth 20000 in
theorem gX6_addToTrick_X3_at : GoodIn wsX6_addToTrick (wsV RX6 154 RX3 yX3_at wsX3_at) := goodIn_app (goodIn_of _ (by decide +kernel)) ggX6_addToTrick_X3_at
set_option maxRecDepth 20000 in
theorem ggX6_addToTrick_X6_only : GoodIn wsX6_addToTrick wsX6_only := goodIn_r _ [14] (by decide +kernel) (by decide +kernel)
set_option maxRecDepth 20000 in
theorem gX6_addToTrick_X6_only : GoodIn wsX6_addToTrick (va_wsS RX6 188 yX6_only wsX6_only) := goodIn_app (goodIn_of _ (by decide +kernel)) ggX6_addToTrick_X6_only
set_option maxRecDepth 20000 in
theorem ggX6_addToTrick_X3_put : GoodIn wsX6_addToTrick wsX3_put := goodIn_r _ [18, 10, 168] (by decide +kernel) (by decide +kernel)
set_option maxRecDepth 20000 in
theorem gX6_addToTrick_X3_put : GoodIn wsX6_addToTrick (wsV RX6 158 RX3 yX3_put wsX3_put) := goodIn_app (goodIn_of _ (by decide +kernel)) ggX6_addToTrick_X3_put
set_option maxRecDepth 20000 in
theorem ggX6_addToTrick_X5_add : GoodIn wsX6_addToTrick wsX5_add := goodIn_r _ [23, 24, 25, 26, 27, 28, 29, 30, 31, 165, 166, 167, 169] (by decide +kernel) (by decide +kernel)
set_option maxRecDepth 20000 in
theorem gX6_addToTrick_X5_add : GoodIn wsX6_addToTrick (wsV RX6 297 RX5 yX5_add wsX5_add) := goodIn_app (goodIn_of _ (by decide +kernel)) ggX6_addToTrick_X5_add
set_option maxRecDepth 20000 in
theorem ggX6_addToTrick_X6_behind : GoodIn wsX6_addToTrick wsX6_behind := goodIn_r _ [34] (by decide +kernel) (by decide +kernel)
set_option maxRecDepth 20000 in
theorem gX6_addToTrick_X6_behind : GoodIn wsX6_addToTrick (va_wsS RX6 84 yX6_behind wsX6_behind) := goodIn_app (goodIn_of _ (by decide +kernel)) ggX6_addToTrick_X6_behind
set_option maxRecDepth 20000 in
theorem ggX6_addToTrick_X5_winner : GoodIn wsX6_addToTrick wsX5_winner := goodIn_r _ [38, 25, 24, 39, 40, 41, 29, 42, 31, 43, 44, 22, 45, 46, 13, 47, 48, 49, 50, 51, 52, 165, 166, 167, 169] (by decide +kernel) (by decide +kernel)
set_option maxRecDepth 20000 in
theorem gX6_addToTrick_X5_winner : GoodIn wsX6_addToTrick (wsV RX6 300 RX5 yX5_winner wsX5_winner) := goodIn_app (goodIn_of _ (by decide +kernel)) ggX6_addToTrick_X5_winner
set_option maxRecDepth 20000 in
theorem ggX6_addToTrick_X6_endTrick : GoodIn wsX6_addToTrick wsX6_endTrick := goodIn_r _ [56, 57, 4, 58, 2, 59, 60, 61, 13, 62, 63, 64, 5, 6, 7, 8, 9, 10, 65, 66, 67, 22, 68, 25, 24, 39, 40, 41, 29, 42, 31, 12, 14, 15, 16, 17, 18, 69, 70, 71, 72, 73, 74, 75, 76, 77, 78, 79, 80, 81, 82, 83, 84, 46, 47, 85, 86, 87, 88, 89, 90, 91, 92, 93, 94, 95, 96, 97, 98, 99, 100, 101, 102, 103, 104, 105, 48, 49, 50, 51, 52, 106, 107, 108, 109, 110, 111, 112, 113, 114, 115, 116, 117, 118, 119, 120, 121, 122, 123, 124, 125, 126, 127, 128, 27, 28, 30, 129, 130, 131, 132, 133, 134, 135, 136, 137, 138, 139, 140, 141, 142, 143, 144, 145, 146, 147, 148, 149, 150, 151, 152, 153, 154, 155, 156, 157, 158, 159, 160, 161, 162, 163, 164, 168, 165, 166, 167, 169, 170, 171, 172, 173, 174, 175] (by decide +kernel) (by decide +kernel)
set_option maxRecDepth 20000 in
theorem gX6_addToTrick_X6_endTrick : GoodIn wsX6_addToTrick (wsV RX6 303 RX6 yX6_endTrick wsX6_endTrick) := goodIn_app (goodIn_of _ (by decide +kernel)) ggX6_addToTrick_X6_endTrick
theorem dX6_addToTrick_0 : decode cX6_addToTrick 0 = .ok (.aload_n 0, 1) := by decide +kernel
theorem dX6_addToTrick_1 : decode cX6_addToTrick 1 = .ok (.getfield 42, 3) := by decide +kernel
theorem dX6_addToTrick_4 : decode cX6_addToTrick 4 = .ok (.aload_n 0, 1) := by decide +kernel
theorem dX6_addToTrick_5 : decode cX6_addToTrick 5 = .ok (.getfield 56, 3) := by decide +kernel
theorem dX6_addToTrick_8 : decode cX6_addToTrick 8 = .ok (.aload_n 0, 1) := by decide +kernel
theorem dX6_addToTrick_9 : decode cX6_addToTrick 9 = .ok (.getfield 42, 3) := by decide +kernel
theorem dX6_addToTrick_12 : decode cX6_addToTrick 12 = .ok (.aload_n 0, 1) := by decide +kernel
theorem dX6_addToTrick_13 : decode cX6_addToTrick 13 = .ok (.getfield 56, 3) := by decide +kernel
theorem dX6_addToTrick_16 : decode cX6_addToTrick 16 = .ok (.invokevirtual 154, 3) := by decide +kernel
theorem dX6_addToTrick_19 : decode cX6_addToTrick 19 = .ok (.iload_n 1, 1) := by decide +kernel
theorem dX6_addToTrick_20 : decode cX6_addToTrick 20 = .ok (.invokestatic 188, 3) := by decide +kernel
theorem dX6_addToTrick_23 : decode cX6_addToTrick 23 = .ok (.ldc2_w 166, 3) := by decide +kernel
theorem dX6_addToTrick_26 : decode cX6_addToTrick 26 = .ok (.lxor, 1) := by decide +kernel
theorem dX6_addToTrick_27 : decode cX6_addToTrick 27 = .ok (.land, 1) := by decide +kernel
theorem dX6_addToTrick_28 : decode cX6_addToTrick 28 = .ok (.invokevirtual 158, 3) := by decide +kernel
theorem dX6_addToTrick_31 : decode cX6_addToTrick 31 = .ok (.aload_n 0, 1) := by decide +kernel
theorem dX6_addToTrick_32 : decode cX6_addToTrick 32 = .ok (.getfield 26, 3) := by decide +kernel
theorem dX6_addToTrick_35 : decode cX6_addToTrick 35 = .ok (.iload_n 1, 1) := by decide +kernel
theorem dX6_addToTrick_36 : decode cX6_addToTrick 36 = .ok (.invokevirtual 297, 3) := by decide +kernel
theorem dX6_addToTrick_39 : decode cX6_addToTrick 39 = .ok (.aload_n 0, 1) := by decide +kernel
theorem dX6_addToTrick_40 : decode cX6_addToTrick 40 = .ok (.getfield 26, 3) := by decide +kernel
theorem dX6_addToTrick_43 : decode cX6_addToTrick 43 = .ok (.getfield 202, 3) := by decide +kernel
theorem dX6_addToTrick_46 : decode cX6_addToTrick 46 = .ok (.iconst 4, 1) := by decide +kernel
theorem dX6_addToTrick_47 : decode cX6_addToTrick 47 = .ok (.if_icmp .ge 16, 3) := by decide +kernel
theorem dX6_addToTrick_50 : decode cX6_addToTrick 50 = .ok (.aload_n 0, 1) := by decide +kernel
theorem dX6_addToTrick_51 : decode cX6_addToTrick 51 = .ok (.aload_n 0, 1) := by decide +kernel
theorem dX6_addToTrick_52 : decode cX6_addToTrick 52 = .ok (.getfield 56, 3) := by decide +kernel
theorem dX6_addToTrick_55 : decode cX6_addToTrick 55 = .ok (.invokestatic 84, 3) := by decide +kernel
theorem dX6_addToTrick_58 : decode cX6_addToTrick 58 = .ok (.putfield 56, 3) := by decide +kernel
theorem dX6_addToTrick_61 : decode cX6_addToTrick 61 = .ok (.iconst (-1), 1) := by decide +kernel
theorem dX6_addToTrick_62 : decode cX6_addToTrick 62 = .ok (.ireturn, 1) := by decide +kernel
theorem dX6_addToTrick_63 : decode cX6_addToTrick 63 = .ok (.aload_n 0, 1) := by decide +kernel
theorem dX6_addToTrick_64 : decode cX6_addToTrick 64 = .ok (.getfield 26, 3) := by decide +kernel
theorem dX6_addToTrick_67 : decode cX6_addToTrick 67 = .ok (.invokevirtual 300, 3) := by decide +kernel
theorem dX6_addToTrick_70 : decode cX6_addToTrick 70 = .ok (.istore_n 2, 1) := by decide +kernel
theorem dX6_addToTrick_71 : decode cX6_addToTrick 71 = .ok (.aload_n 0, 1) := by decide +kernel
theorem dX6_addToTrick_72 : decode cX6_addToTrick 72 = .ok (.iload_n 2, 1) := by decide +kernel
theorem dX6_addToTrick_73 : decode cX6_addToTrick 73 = .ok (.invokevirtual 303, 3) := by decide +kernel
theorem dX6_addToTrick_76 : decode cX6_addToTrick 76 = .ok (.iload_n 2, 1) := by decide +kernel
theorem dX6_addToTrick_77 : decode cX6_addToTrick 77 = .ok (.ireturn, 1) := by decide +kernel
set_option maxRecDepth 20000 in
theorem ggX6_endTrick_X6_sideOf : GoodIn wsX6_endTrick wsX6_sideOf := goodIn_r _ [9, 10, 11, 125, 126, 127, 128, 129, 130, 131, 132, 133, 134, 135, 136, 137, 138, 139, 140, 141, 142] (by decide +kernel) (by decide +kernel)
set_option maxRecDepth 20000 in
theorem gX6_endTrick_X6_sideOf : GoodIn wsX6_endTrick (wsV RX6 285 RX6 yX6_sideOf wsX6_sideOf) := goodIn_app (goodIn_of _ (by decide +kernel)) ggX6_endTrick_X6_sideOf
set_option maxRecDepth 20000 in
theorem ggX6_endTrick_X3_at : GoodIn wsX6_endTrick wsX3_at := goodIn_r _ [16, 17, 143] (by decide +kernel) (by decide +kernel)
set_option maxRecDepth 20000 in
theorem gX6_endTrick_X3_at : GoodIn wsX6_endTrick (wsV RX6 154 RX3 yX3_at wsX3_at) := goodIn_app (goodIn_of _ (by decide +kernel)) ggX6_endTrick_X3_at
set_option maxRecDepth 20000 in
theorem ggX6_endTrick_X5_cardSet : GoodIn wsX6_endTrick wsX5_cardSet := goodIn_r _ [22, 23, 24, 25, 26, 27, 28, 29, 30, 31, 8, 32, 144, 145, 146, 147] (by decide +kernel) (by decide +kernel)
set_option maxRecDepth 20000 in
theorem gX6_endTrick_X5_cardSet : GoodIn wsX6_endTrick (wsV RX6 306 RX5 yX5_cardSet wsX5_cardSet) := goodIn_app (goodIn_of _ (by decide +kernel)) ggX6_endTrick_X5_cardSet
set_option maxRecDepth 20000 in
theorem ggX6_endTrick_X3_put : GoodIn wsX6_endTrick wsX3_put := goodIn_r _ [36, 17, 143] (by decide +kernel) (by decide +kernel)
set_option maxRecDepth 20000 in
theorem gX6_endTrick_X3_put : GoodIn wsX6_endTrick (wsV RX6 158 RX3 yX3_put wsX3_put) := goodIn_app (goodIn_of _ (by decide +kernel)) ggX6_endTrick_X3_put
set_option maxRecDepth 20000 in
theorem ggX6_endTrick_X6_enterResult : GoodIn wsX6_endTrick wsX6_enterResult := goodIn_r _ [40, 41, 1, 42, 10, 11, 12, 13, 14, 15, 16, 17, 43, 44, 8, 45, 46, 47, 48, 49, 50, 51, 52, 53, 54, 55, 56, 57, 58, 59, 60, 61, 62, 63, 64, 65, 66, 67, 68, 69, 70, 71, 2, 72, 73, 74, 21, 75, 23, 24, 25, 26, 27, 28, 29, 30, 76, 77, 78, 79, 80, 5, 6, 7, 9, 81, 82, 83, 84, 85, 86, 87, 88, 89, 90, 91, 92, 93, 94, 95, 96, 97, 98, 99, 100, 101, 102, 103, 104, 105, 106, 107, 108, 109, 110, 111, 112, 113, 114, 115, 125, 126, 127, 128, 129, 130, 131, 132, 133, 134, 135, 136, 137, 138, 139, 140, 141, 142, 148, 149, 150, 143, 144, 145, 146, 147, 151, 152, 153] (by decide +kernel) (by decide +kernel)
set_option maxRecDepth 20000 in
theorem gX6_endTrick_X6_enterResult : GoodIn wsX6_endTrick (wsV RX6 309 RX6 yX6_enterResult wsX6_enterResult) := goodIn_app (goodIn_of _ (by decide +kernel)) ggX6_endTrick_X6_enterResult
set_option maxRecDepth 20000 in
theorem ggX6_endTrick_X6_endDeal : GoodIn wsX6_endTrick wsX6_endDeal := goodIn_r _ [119, 120, 4, 125, 126, 127, 128, 129, 130, 131, 132, 133, 134, 135, 136, 137, 138, 139, 140, 141, 142] (by decide +kernel) (by decide +kernel)
set_option maxRecDepth 20000 in
theorem gX6_endTrick_X6_endDeal : GoodIn wsX6_endTrick (wsV RX6 114 RX6 yX6_endDeal wsX6_endDeal) := goodIn_app (goodIn_of _ (by decide +kernel)) ggX6_endTrick_X6_endDeal
set_option maxRecDepth 20000 in
theorem ggX6_endTrick_X5_begin : GoodIn wsX6_endTrick wsX5_begin := goodIn_r _ [124, 80, 23, 144, 145, 146] (by decide +kernel) (by decide +kernel)
set_option maxRecDepth 20000 in
theorem gX6_endTrick_X5_begin : GoodIn wsX6_endTrick (wsV RX6 291 RX5 yX5_begin wsX5_begin) := goodIn_app (goodIn_of _ (by decide +kernel)) ggX6_endTrick_X5_begin
theorem dX6_endTrick_0 : decode cX6_endTrick 0 = .ok (.aload_n 0, 1) := by decide +kernel
theorem dX6_endTrick_1 : decode cX6_endTrick 1 = .ok (.iload_n 1, 1) := by decide +kernel
theorem dX6_endTrick_2 : decode cX6_endTrick 2 = .ok (.invokevirtual 285, 3) := by decide +kernel
theorem dX6_endTrick_5 : decode cX6_endTrick 5 = .ok (.istore_n 2, 1) := by decide +kernel
theorem dX6_endTrick_6 : decode cX6_endTrick 6 = .ok (.aload_n 0, 1) := by decide +kernel
theorem dX6_endTrick_7 : decode cX6_endTrick 7 = .ok (.getfield 46, 3) := by decide +kernel
theorem dX6_endTrick_10 : decode cX6_endTrick 10 = .ok (.iload_n 2, 1) := by decide +kernel
theorem dX6_endTrick_11 : decode cX6_endTrick 11 = .ok (.aload_n 0, 1) := by decide +kernel
theorem dX6_endTrick_12 : decode cX6_endTrick 12 = .ok (.getfield 46, 3) := by decide +kernel
theorem dX6_endTrick_15 : decode cX6_endTrick 15 = .ok (.iload_n 2, 1) := by decide +kernel
theorem dX6_endTrick_16 : decode cX6_endTrick 16 = .ok (.invokevirtual 154, 3) := by decide +kernel
theorem dX6_endTrick_19 : decode cX6_endTrick 19 = .ok (.aload_n 0, 1) := by decide +kernel
theorem dX6_endTrick_20 : decode cX6_endTrick 20 = .ok (.getfield 26, 3) := by decide +kernel
theorem dX6_endTrick_23 : decode cX6_endTrick 23 = .ok (.invokevirtual 306, 3) := by decide +kernel
theorem dX6_endTrick_26 : decode cX6_endTrick 26 = .ok (.lor, 1) := by decide +kernel
theorem dX6_endTrick_27 : decode cX6_endTrick 27 = .ok (.invokevirtual 158, 3) := by decide +kernel
theorem dX6_endTrick_30 : decode cX6_endTrick 30 = .ok (.aload_n 0, 1) := by decide +kernel
theorem dX6_endTrick_31 : decode cX6_endTrick 31 = .ok (.dup, 1) := by decide +kernel
theorem dX6_endTrick_32 : decode cX6_endTrick 32 = .ok (.getfield 199, 3) := by decide +kernel
theorem dX6_endTrick_35 : decode cX6_endTrick 35 = .ok (.iconst 1, 1) := by decide +kernel
theorem dX6_endTrick_36 : decode cX6_endTrick 36 = .ok (.iadd, 1) := by decide +kernel
theorem dX6_endTrick_37 : decode cX6_endTrick 37 = .ok (.putfield 199, 3) := by decide +kernel
theorem dX6_endTrick_40 : decode cX6_endTrick 40 = .ok (.aload_n 0, 1) := by decide +kernel
theorem dX6_endTrick_41 : decode cX6_endTrick 41 = .ok (.iload_n 1, 1) := by decide +kernel
theorem dX6_endTrick_42 : decode cX6_endTrick 42 = .ok (.putfield 56, 3) := by decide +kernel
theorem dX6_endTrick_45 : decode cX6_endTrick 45 = .ok (.aload_n 0, 1) := by decide +kernel
theorem dX6_endTrick_46 : decode cX6_endTrick 46 = .ok (.getfield 199, 3) := by decide +kernel
theorem dX6_endTrick_49 : decode cX6_endTrick 49 = .ok (.bipush 12, 2) := by decide +kernel
theorem dX6_endTrick_51 : decode cX6_endTrick 51 = .ok (.if_icmp .ne 12, 3) := by decide +kernel
theorem dX6_endTrick_54 : decode cX6_endTrick 54 = .ok (.aload_n 0, 1) := by decide +kernel
theorem dX6_endTrick_55 : decode cX6_endTrick 55 = .ok (.iload_n 1, 1) := by decide +kernel
theorem dX6_endTrick_56 : decode cX6_endTrick 56 = .ok (.invokevirtual 309, 3) := by decide +kernel
theorem dX6_endTrick_59 : decode cX6_endTrick 59 = .ok (.aload_n 0, 1) := by decide +kernel
theorem dX6_endTrick_60 : decode cX6_endTrick 60 = .ok (.invokevirtual 114, 3) := by decide +kernel
theorem dX6_endTrick_63 : decode cX6_endTrick 63 = .ok (.aload_n 0, 1) := by decide +kernel
theorem dX6_endTrick_64 : decode cX6_endTrick 64 = .ok (.getfield 26, 3) := by decide +kernel
theorem dX6_endTrick_67 : decode cX6_endTrick 67 = .ok (.iload_n 1, 1) := by decide +kernel
theorem dX6_endTrick_68 : decode cX6_endTrick 68 = .ok (.invokevirtual 291, 3) := by decide +kernel
theorem dX6_endTrick_71 : decode cX6_endTrick 71 = .ok (.return_, 1) := by decide +kernel
theorem dX6_endDeal_0 : decode cX6_endDeal 0 = .ok (.aload_n 0, 1) := by decide +kernel
theorem dX6_endDeal_1 : decode cX6_endDeal 1 = .ok (.iconst 0, 1) := by decide +kernel
theorem dX6_endDeal_2 : decode cX6_endDeal 2 = .ok (.putfield 53, 3) := by decide +kernel
theorem dX6_endDeal_5 : decode cX6_endDeal 5 = .ok (.aload_n 0, 1) := by decide +kernel
theorem dX6_endDeal_6 : decode cX6_endDeal 6 = .ok (.iconst (-1), 1) := by decide +kernel
theorem dX6_endDeal_7 : decode cX6_endDeal 7 = .ok (.putfield 56, 3) := by decide +kernel
theorem dX6_endDeal_10 : decode cX6_endDeal 10 = .ok (.return_, 1) := by decide +kernel
set_option maxRecDepth 20000 in
theorem ggX6_enterResult_X3_at : GoodIn wsX6_enterResult wsX3_at := goodIn_r _ [10, 11, 121] (by decide +kernel) (by decide +kernel)
set_option maxRecDepth 20000 in
theorem gX6_enterResult_X3_at : GoodIn wsX6_enterResult (wsV RX6 154 RX3 yX3_at wsX3_at) := goodIn_app (goodIn_of _ (by decide +kernel)) ggX6_enterResult_X3_at
set_option maxRecDepth 20000 in
theorem ggX6_enterResult_X6_thirdsOf : GoodIn wsX6_enterResult wsX6_thirdsOf := goodIn_r _ [15, 16, 17, 14, 18, 19, 20, 21, 22, 23, 24] (by decide +kernel) (by decide +kernel)
set_option maxRecDepth 20000 in
theorem gX6_enterResult_X6_thirdsOf : GoodIn wsX6_enterResult (va_wsS RX6 262 yX6_thirdsOf wsX6_thirdsOf) := goodIn_app (goodIn_of _ (by decide +kernel)) ggX6_enterResult_X6_thirdsOf
set_option maxRecDepth 20000 in
theorem ggX6_enterResult_X6_gamePoints : GoodIn wsX6_enterResult wsX6_gamePoints := goodIn_r _ [27, 28, 29, 30, 31, 32, 33, 14, 34, 35, 36, 37] (by decide +kernel) (by decide +kernel)
set_option maxRecDepth 20000 in
theorem gX6_enterResult_X6_gamePoints : GoodIn wsX6_enterResult (va_wsS RX6 312 yX6_gamePoints wsX6_gamePoints) := goodIn_app (goodIn_of _ (by decide +kernel)) ggX6_enterResult_X6_gamePoints
set_option maxRecDepth 20000 in
theorem ggX6_enterResult_X6_pagatPoints : GoodIn wsX6_enterResult wsX6_pagatPoints := goodIn_r _ [41, 42, 43, 44, 45, 46, 47, 48, 49, 50, 51, 52, 53, 54, 55, 56, 57, 58, 59, 60, 61, 62, 63, 14, 64, 4, 5, 65, 66, 67, 68, 69, 100, 101, 102, 103, 104, 105, 106, 107, 108, 109, 110, 111, 112, 113, 114, 115, 116, 117, 122, 123, 124, 125] (by decide +kernel) (by decide +kernel)
set_option maxRecDepth 20000 in
theorem gX6_enterResult_X6_pagatPoints : GoodIn wsX6_enterResult (wsV RX6 316 RX6 yX6_pagatPoints wsX6_pagatPoints) := goodIn_app (goodIn_of _ (by decide +kernel)) ggX6_enterResult_X6_pagatPoints
set_option maxRecDepth 20000 in
theorem ggX6_enterResult_X6_kingPoints : GoodIn wsX6_enterResult wsX6_kingPoints := goodIn_r _ [73, 74, 42, 75, 76, 77, 14, 78, 43, 44, 45, 46, 47, 48, 49, 50, 51, 52, 53, 54, 55, 56, 57, 58, 59, 60, 61, 62, 63, 64, 4, 5, 65, 66, 67, 68, 69, 100, 101, 102, 103, 104, 105, 106, 107, 108, 109, 110, 111, 112, 113, 114, 115, 116, 117, 122, 123, 124, 125] (by decide +kernel) (by decide +kernel)
set_option maxRecDepth 20000 in
theorem gX6_enterResult_X6_kingPoints : GoodIn wsX6_enterResult (wsV RX6 319 RX6 yX6_kingPoints wsX6_kingPoints) := goodIn_app (goodIn_of _ (by decide +kernel)) ggX6_enterResult_X6_kingPoints
set_option maxRecDepth 20000 in
theorem ggX6_enterResult_X6_isWon : GoodIn wsX6_enterResult wsX6_isWon := goodIn_r _ [37] (by decide +kernel) (by decide +kernel)
set_option maxRecDepth 20000 in
theorem gX6_enterResult_X6_isWon : GoodIn wsX6_enterResult (va_wsS RX6 322 yX6_isWon wsX6_isWon) := goodIn_app (goodIn_of _ (by decide +kernel)) ggX6_enterResult_X6_isWon
set_option maxRecDepth 20000 in
theorem ggX6_enterResult_X4_enter : GoodIn wsX6_enterResult wsX4_enter := goodIn_r _ [83, 84, 85, 86, 51, 52, 53, 54, 55, 87, 88, 89, 90, 91, 92, 93, 82, 94, 95, 126, 127, 128, 125] (by decide +kernel) (by decide +kernel)
set_option maxRecDepth 20000 in
theorem gX6_enterResult_X4_enter : GoodIn wsX6_enterResult (wsV RX6 325 RX4 yX4_enter wsX4_enter) := goodIn_app (goodIn_of _ (by decide +kernel)) ggX6_enterResult_X4_enter
set_option maxRecDepth 20000 in
theorem ggX6_enterResult_X4_giveRadli : GoodIn wsX6_enterResult wsX4_giveRadli := goodIn_r _ [99, 84, 86, 51, 52, 53, 54, 55, 87, 88, 89, 90, 126, 127, 128, 125] (by decide +kernel) (by decide +kernel)
set_option maxRecDepth 20000 in
theorem gX6_enterResult_X4_giveRadli : GoodIn wsX6_enterResult (wsV RX6 328 RX4 yX4_giveRadli wsX4_giveRadli) := goodIn_app (goodIn_of _ (by decide +kernel)) ggX6_enterResult_X4_giveRadli
theorem dX6_enterResult_0 : decode cX6_enterResult 0 = .ok (.aload_n 0, 1) := by decide +kernel
theorem dX6_enterResult_1 : decode cX6_enterResult 1 = .ok (.getfield 19, 3) := by decide +kernel
theorem dX6_enterResult_4 : decode cX6_enterResult 4 = .ok (.getfield 101, 3) := by decide +kernel
theorem dX6_enterResult_7 : decode cX6_enterResult 7 = .ok (.istore_n 2, 1) := by decide +kernel
theorem dX6_enterResult_8 : decode cX6_enterResult 8 = .ok (.aload_n 0, 1) := by decide +kernel
theorem dX6_enterResult_9 : decode cX6_enterResult 9 = .ok (.getfield 46, 3) := by decide +kernel
theorem dX6_enterResult_12 : decode cX6_enterResult 12 = .ok (.iconst 0, 1) := by decide +kernel
theorem dX6_enterResult_13 : decode cX6_enterResult 13 = .ok (.invokevirtual 154, 3) := by decide +kernel
theorem dX6_enterResult_16 : decode cX6_enterResult 16 = .ok (.invokestatic 262, 3) := by decide +kernel
theorem dX6_enterResult_19 : decode cX6_enterResult 19 = .ok (.istore_n 3, 1) := by decide +kernel
theorem dX6_enterResult_20 : decode cX6_enterResult 20 = .ok (.iload_n 2, 1) := by decide +kernel
theorem dX6_enterResult_21 : decode cX6_enterResult 21 = .ok (.iload_n 3, 1) := by decide +kernel
theorem dX6_enterResult_22 : decode cX6_enterResult 22 = .ok (.invokestatic 312, 3) := by decide +kernel
theorem dX6_enterResult_25 : decode cX6_enterResult 25 = .ok (.aload_n 0, 1) := by decide +kernel
theorem dX6_enterResult_26 : decode cX6_enterResult 26 = .ok (.iload_n 1, 1) := by decide +kernel
theorem dX6_enterResult_27 : decode cX6_enterResult 27 = .ok (.invokevirtual 316, 3) := by decide +kernel
theorem dX6_enterResult_30 : decode cX6_enterResult 30 = .ok (.iadd, 1) := by decide +kernel
theorem dX6_enterResult_31 : decode cX6_enterResult 31 = .ok (.aload_n 0, 1) := by decide +kernel
theorem dX6_enterResult_32 : decode cX6_enterResult 32 = .ok (.iload_n 1, 1) := by decide +kernel
theorem dX6_enterResult_33 : decode cX6_enterResult 33 = .ok (.invokevirtual 319, 3) := by decide +kernel
theorem dX6_enterResult_36 : decode cX6_enterResult 36 = .ok (.iadd, 1) := by decide +kernel
theorem dX6_enterResult_37 : decode cX6_enterResult 37 = .ok (.istore 4, 2) := by decide +kernel
theorem dX6_enterResult_39 : decode cX6_enterResult 39 = .ok (.aload_n 0, 1) := by decide +kernel
theorem dX6_enterResult_40 : decode cX6_enterResult 40 = .ok (.getfield 33, 3) := by decide +kernel
theorem dX6_enterResult_43 : decode cX6_enterResult 43 = .ok (.aload_n 0, 1) := by decide +kernel
theorem dX6_enterResult_44 : decode cX6_enterResult 44 = .ok (.getfield 59, 3) := by decide +kernel
theorem dX6_enterResult_47 : decode cX6_enterResult 47 = .ok (.aload_n 0, 1) := by decide +kernel
theorem dX6_enterResult_48 : decode cX6_enterResult 48 = .ok (.getfield 68, 3) := by decide +kernel
theorem dX6_enterResult_51 : decode cX6_enterResult 51 = .ok (.iload 4, 2) := by decide +kernel
theorem dX6_enterResult_53 : decode cX6_enterResult 53 = .ok (.iload_n 3, 1) := by decide +kernel
theorem dX6_enterResult_54 : decode cX6_enterResult 54 = .ok (.invokestatic 322, 3) := by decide +kernel
theorem dX6_enterResult_57 : decode cX6_enterResult 57 = .ok (.invokevirtual 325, 3) := by decide +kernel
theorem dX6_enterResult_60 : decode cX6_enterResult 60 = .ok (.iload_n 2, 1) := by decide +kernel
theorem dX6_enterResult_61 : decode cX6_enterResult 61 = .ok (.iconst 3, 1) := by decide +kernel
theorem dX6_enterResult_62 : decode cX6_enterResult 62 = .ok (.if_icmp .le 10, 3) := by decide +kernel
theorem dX6_enterResult_65 : decode cX6_enterResult 65 = .ok (.aload_n 0, 1) := by decide +kernel
theorem dX6_enterResult_66 : decode cX6_enterResult 66 = .ok (.getfield 33, 3) := by decide +kernel
theorem dX6_enterResult_69 : decode cX6_enterResult 69 = .ok (.invokevirtual 328, 3) := by decide +kernel
theorem dX6_enterResult_72 : decode cX6_enterResult 72 = .ok (.return_, 1) := by decide +kernel
set_option maxRecDepth 20000 in
theorem ggX6_pagatPoints_X5_playerOf : GoodIn wsX6_pagatPoints wsX5_playerOf := goodIn_r _ [6, 7, 8, 9, 10, 11, 12, 13, 14, 15, 16, 17, 5, 18, 19, 50, 51, 52, 53] (by decide +kernel) (by decide +kernel)
set_option maxRecDepth 20000 in
theorem gX6_pagatPoints_X5_playerOf : GoodIn wsX6_pagatPoints (wsV RX6 331 RX5 yX5_playerOf wsX5_playerOf) := goodIn_app (goodIn_of _ (by decide +kernel)) ggX6_pagatPoints_X5_playerOf
set_option maxRecDepth 20000 in
theorem ggX6_pagatPoints_X6_sideOf : GoodIn wsX6_pagatPoints wsX6_sideOf := goodIn_r _ [24, 25, 26, 32, 33, 34, 35, 36, 37, 38, 39, 40, 41, 42, 43, 44, 45, 46, 47, 48, 49] (by decide +kernel) (by decide +kernel)
set_option maxRecDepth 20000 in
theorem gX6_pagatPoints_X6_sideOf : GoodIn wsX6_pagatPoints (wsV RX6 285 RX6 yX6_sideOf wsX6_sideOf) := goodIn_app (goodIn_of _ (by decide +kernel)) ggX6_pagatPoints_X6_sideOf
set_option maxRecDepth 20000 in
theorem ggX6_pagatPoints_X6_isAnnounced : GoodIn wsX6_pagatPoints wsX6_isAnnounced := goodIn_r _ [30, 31, 32, 33, 34, 35, 36, 37, 38, 39, 40, 41, 42, 43, 44, 45, 46, 47, 48, 49] (by decide +kernel) (by decide +kernel)
set_option maxRecDepth 20000 in
theorem gX6_pagatPoints_X6_isAnnounced : GoodIn wsX6_pagatPoints (wsV RX6 207 RX6 yX6_isAnnounced wsX6_isAnnounced) := goodIn_app (goodIn_of _ (by decide +kernel)) ggX6_pagatPoints_X6_isAnnounced
theorem dX6_pagatPoints_0 : decode cX6_pagatPoints 0 = .ok (.aload_n 0, 1) := by decide +kernel
theorem dX6_pagatPoints_1 : decode cX6_pagatPoints 1 = .ok (.getfield 26, 3) := by decide +kernel
theorem dX6_pagatPoints_4 : decode cX6_pagatPoints 4 = .ok (.bipush 32, 2) := by decide +kernel
theorem dX6_pagatPoints_6 : decode cX6_pagatPoints 6 = .ok (.invokevirtual 331, 3) := by decide +kernel
theorem dX6_pagatPoints_9 : decode cX6_pagatPoints 9 = .ok (.istore_n 2, 1) := by decide +kernel
theorem dX6_pagatPoints_10 : decode cX6_pagatPoints 10 = .ok (.iload_n 2, 1) := by decide +kernel
theorem dX6_pagatPoints_11 : decode cX6_pagatPoints 11 = .ok (.iload_n 1, 1) := by decide +kernel
theorem dX6_pagatPoints_12 : decode cX6_pagatPoints 12 = .ok (.if_icmp .ne 7, 3) := by decide +kernel
theorem dX6_pagatPoints_15 : decode cX6_pagatPoints 15 = .ok (.iconst 1, 1) := by decide +kernel
theorem dX6_pagatPoints_16 : decode cX6_pagatPoints 16 = .ok (.goto 4, 3) := by decide +kernel
theorem dX6_pagatPoints_19 : decode cX6_pagatPoints 19 = .ok (.iconst 0, 1) := by decide +kernel
theorem dX6_pagatPoints_20 : decode cX6_pagatPoints 20 = .ok (.istore_n 3, 1) := by decide +kernel
theorem dX6_pagatPoints_21 : decode cX6_pagatPoints 21 = .ok (.iload_n 2, 1) := by decide +kernel
theorem dX6_pagatPoints_22 : decode cX6_pagatPoints 22 = .ok (.iconst (-1), 1) := by decide +kernel
theorem dX6_pagatPoints_23 : decode cX6_pagatPoints 23 = .ok (.if_icmp .eq 15, 3) := by decide +kernel
theorem dX6_pagatPoints_26 : decode cX6_pagatPoints 26 = .ok (.aload_n 0, 1) := by decide +kernel
theorem dX6_pagatPoints_27 : decode cX6_pagatPoints 27 = .ok (.iload_n 2, 1) := by decide +kernel
theorem dX6_pagatPoints_28 : decode cX6_pagatPoints 28 = .ok (.invokevirtual 285, 3) := by decide +kernel
theorem dX6_pagatPoints_31 : decode cX6_pagatPoints 31 = .ok (.ifCond .ne 7, 3) := by decide +kernel
theorem dX6_pagatPoints_34 : decode cX6_pagatPoints 34 = .ok (.iconst 1, 1) := by decide +kernel
theorem dX6_pagatPoints_35 : decode cX6_pagatPoints 35 = .ok (.goto 4, 3) := by decide +kernel
theorem dX6_pagatPoints_38 : decode cX6_pagatPoints 38 = .ok (.iconst 0, 1) := by decide +kernel
theorem dX6_pagatPoints_39 : decode cX6_pagatPoints 39 = .ok (.istore 4, 2) := by decide +kernel
theorem dX6_pagatPoints_41 : decode cX6_pagatPoints 41 = .ok (.aload_n 0, 1) := by decide +kernel
theorem dX6_pagatPoints_42 : decode cX6_pagatPoints 42 = .ok (.iconst 0, 1) := by decide +kernel
theorem dX6_pagatPoints_43 : decode cX6_pagatPoints 43 = .ok (.invokevirtual 207, 3) := by decide +kernel
theorem dX6_pagatPoints_46 : decode cX6_pagatPoints 46 = .ok (.ifCond .eq 20, 3) := by decide +kernel
theorem dX6_pagatPoints_49 : decode cX6_pagatPoints 49 = .ok (.iload_n 3, 1) := by decide +kernel
theorem dX6_pagatPoints_50 : decode cX6_pagatPoints 50 = .ok (.ifCond .eq 13, 3) := by decide +kernel
theorem dX6_pagatPoints_53 : decode cX6_pagatPoints 53 = .ok (.iload 4, 2) := by decide +kernel
theorem dX6_pagatPoints_55 : decode cX6_pagatPoints 55 = .ok (.ifCond .eq 8, 3) := by decide +kernel
theorem dX6_pagatPoints_58 : decode cX6_pagatPoints 58 = .ok (.bipush 50, 2) := by decide +kernel
theorem dX6_pagatPoints_60 : decode cX6_pagatPoints 60 = .ok (.goto 5, 3) := by decide +kernel
theorem dX6_pagatPoints_63 : decode cX6_pagatPoints 63 = .ok (.bipush (-50), 2) := by decide +kernel
theorem dX6_pagatPoints_65 : decode cX6_pagatPoints 65 = .ok (.ireturn, 1) := by decide +kernel
theorem dX6_pagatPoints_66 : decode cX6_pagatPoints 66 = .ok (.iload_n 2, 1) := by decide +kernel
theorem dX6_pagatPoints_67 : decode cX6_pagatPoints 67 = .ok (.iconst (-1), 1) := by decide +kernel
theorem dX6_pagatPoints_68 : decode cX6_pagatPoints 68 = .ok (.if_icmp .ne 5, 3) := by decide +kernel
theorem dX6_pagatPoints_71 : decode cX6_pagatPoints 71 = .ok (.iconst 0, 1) := by decide +kernel
theorem dX6_pagatPoints_72 : decode cX6_pagatPoints 72 = .ok (.ireturn, 1) := by decide +kernel
theorem dX6_pagatPoints_73 : decode cX6_pagatPoints 73 = .ok (.iload_n 3, 1) := by decide +kernel
theorem dX6_pagatPoints_74 : decode cX6_pagatPoints 74 = .ok (.iload 4, 2) := by decide +kernel
theorem dX6_pagatPoints_76 : decode cX6_pagatPoints 76 = .ok (.if_icmp .ne 8, 3) := by decide +kernel
theorem dX6_pagatPoints_79 : decode cX6_pagatPoints 79 = .ok (.bipush 25, 2) := by decide +kernel
theorem dX6_pagatPoints_81 : decode cX6_pagatPoints 81 = .ok (.goto 5, 3) := by decide +kernel
theorem dX6_pagatPoints_84 : decode cX6_pagatPoints 84 = .ok (.bipush (-25), 2) := by decide +kernel
theorem dX6_pagatPoints_86 : decode cX6_pagatPoints 86 = .ok (.ireturn, 1) := by decide +kernel
set_option maxRecDepth 20000 in
theorem ggX6_kingPoints_X6_calledKing : GoodIn wsX6_kingPoints wsX6_calledKing := goodIn_r _ [7, 1, 37, 38, 39, 40, 41, 42, 43, 44, 45, 46, 47, 48, 49, 50, 51, 52, 53, 54] (by decide +kernel) (by decide +kernel)
set_option maxRecDepth 20000 in
theorem gX6_kingPoints_X6_calledKing : GoodIn wsX6_kingPoints (wsV RX6 133 RX6 yX6_calledKing wsX6_calledKing) := goodIn_app (goodIn_of _ (by decide +kernel)) ggX6_kingPoints_X6_calledKing
set_option maxRecDepth 20000 in
theorem ggX6_kingPoints_X5_playerOf : GoodIn wsX6_kingPoints wsX5_playerOf := goodIn_r _ [12, 13, 14, 15, 16, 17, 18, 19, 20, 21, 22, 23, 11, 24, 25, 55, 56, 57, 58] (by decide +kernel) (by decide +kernel)
set_option maxRecDepth 20000 in
theorem gX6_kingPoints_X5_playerOf : GoodIn wsX6_kingPoints (wsV RX6 331 RX5 yX5_playerOf wsX5_playerOf) := goodIn_app (goodIn_of _ (by decide +kernel)) ggX6_kingPoints_X5_playerOf
set_option maxRecDepth 20000 in
theorem ggX6_kingPoints_X6_sideOf : GoodIn wsX6_kingPoints wsX6_sideOf := goodIn_r _ [29, 30, 31, 37, 38, 39, 40, 41, 42, 43, 44, 45, 46, 47, 48, 49, 50, 51, 52, 53, 54] (by decide +kernel) (by decide +kernel)
set_option maxRecDepth 20000 in
theorem gX6_kingPoints_X6_sideOf : GoodIn wsX6_kingPoints (wsV RX6 285 RX6 yX6_sideOf wsX6_sideOf) := goodIn_app (goodIn_of _ (by decide +kernel)) ggX6_kingPoints_X6_sideOf
set_option maxRecDepth 20000 in
theorem ggX6_kingPoints_X6_isAnnounced : GoodIn wsX6_kingPoints wsX6_isAnnounced := goodIn_r _ [35, 36, 37, 38, 39, 40, 41, 42, 43, 44, 45, 46, 47, 48, 49, 50, 51, 52, 53, 54] (by decide +kernel) (by decide +kernel)
set_option maxRecDepth 20000 in
theorem gX6_kingPoints_X6_isAnnounced : GoodIn wsX6_kingPoints (wsV RX6 207 RX6 yX6_isAnnounced wsX6_isAnnounced) := goodIn_app (goodIn_of _ (by decide +kernel)) ggX6_kingPoints_X6_isAnnounced
theorem dX6_kingPoints_0 : decode cX6_kingPoints 0 = .ok (.aload_n 0, 1) := by decide +kernel
theorem dX6_kingPoints_1 : decode cX6_kingPoints 1 = .ok (.getfield 62, 3) := by decide +kernel
theorem dX6_kingPoints_4 : decode cX6_kingPoints 4 = .ok (.iconst (-1), 1) := by decide +kernel
theorem dX6_kingPoints_5 : decode cX6_kingPoints 5 = .ok (.if_icmp .eq 22, 3) := by decide +kernel
theorem dX6_kingPoints_8 : decode cX6_kingPoints 8 = .ok (.aload_n 0, 1) := by decide +kernel
theorem dX6_kingPoints_9 : decode cX6_kingPoints 9 = .ok (.getfield 26, 3) := by decide +kernel
theorem dX6_kingPoints_12 : decode cX6_kingPoints 12 = .ok (.aload_n 0, 1) := by decide +kernel
theorem dX6_kingPoints_13 : decode cX6_kingPoints 13 = .ok (.invokevirtual 133, 3) := by decide +kernel
theorem dX6_kingPoints_16 : decode cX6_kingPoints 16 = .ok (.invokevirtual 331, 3) := by decide +kernel
theorem dX6_kingPoints_19 : decode cX6_kingPoints 19 = .ok (.iconst (-1), 1) := by decide +kernel
theorem dX6_kingPoints_20 : decode cX6_kingPoints 20 = .ok (.if_icmp .eq 7, 3) := by decide +kernel
theorem dX6_kingPoints_23 : decode cX6_kingPoints 23 = .ok (.iconst 1, 1) := by decide +kernel
theorem dX6_kingPoints_24 : decode cX6_kingPoints 24 = .ok (.goto 4, 3) := by decide +kernel
theorem dX6_kingPoints_27 : decode cX6_kingPoints 27 = .ok (.iconst 0, 1) := by decide +kernel
theorem dX6_kingPoints_28 : decode cX6_kingPoints 28 = .ok (.istore_n 2, 1) := by decide +kernel
theorem dX6_kingPoints_29 : decode cX6_kingPoints 29 = .ok (.iload_n 2, 1) := by decide +kernel
theorem dX6_kingPoints_30 : decode cX6_kingPoints 30 = .ok (.ifCond .eq 15, 3) := by decide +kernel
theorem dX6_kingPoints_33 : decode cX6_kingPoints 33 = .ok (.aload_n 0, 1) := by decide +kernel
theorem dX6_kingPoints_34 : decode cX6_kingPoints 34 = .ok (.iload_n 1, 1) := by decide +kernel
theorem dX6_kingPoints_35 : decode cX6_kingPoints 35 = .ok (.invokevirtual 285, 3) := by decide +kernel
theorem dX6_kingPoints_38 : decode cX6_kingPoints 38 = .ok (.ifCond .ne 7, 3) := by decide +kernel
theorem dX6_kingPoints_41 : decode cX6_kingPoints 41 = .ok (.iconst 1, 1) := by decide +kernel
theorem dX6_kingPoints_42 : decode cX6_kingPoints 42 = .ok (.goto 4, 3) := by decide +kernel
theorem dX6_kingPoints_45 : decode cX6_kingPoints 45 = .ok (.iconst 0, 1) := by decide +kernel
theorem dX6_kingPoints_46 : decode cX6_kingPoints 46 = .ok (.istore_n 3, 1) := by decide +kernel
theorem dX6_kingPoints_47 : decode cX6_kingPoints 47 = .ok (.aload_n 0, 1) := by decide +kernel
theorem dX6_kingPoints_48 : decode cX6_kingPoints 48 = .ok (.iconst 1, 1) := by decide +kernel
theorem dX6_kingPoints_49 : decode cX6_kingPoints 49 = .ok (.invokevirtual 207, 3) := by decide +kernel
theorem dX6_kingPoints_52 : decode cX6_kingPoints 52 = .ok (.ifCond .eq 15, 3) := by decide +kernel
theorem dX6_kingPoints_55 : decode cX6_kingPoints 55 = .ok (.iload_n 3, 1) := by decide +kernel
theorem dX6_kingPoints_56 : decode cX6_kingPoints 56 = .ok (.ifCond .eq 8, 3) := by decide +kernel
theorem dX6_kingPoints_59 : decode cX6_kingPoints 59 = .ok (.bipush 20, 2) := by decide +kernel
theorem dX6_kingPoints_61 : decode cX6_kingPoints 61 = .ok (.goto 5, 3) := by decide +kernel
theorem dX6_kingPoints_64 : decode cX6_kingPoints 64 = .ok (.bipush (-20), 2) := by decide +kernel
theorem dX6_kingPoints_66 : decode cX6_kingPoints 66 = .ok (.ireturn, 1) := by decide +kernel
theorem dX6_kingPoints_67 : decode cX6_kingPoints 67 = .ok (.iload_n 2, 1) := by decide +kernel
theorem dX6_kingPoints_68 : decode cX6_kingPoints 68 = .ok (.ifCond .ne 5, 3) := by decide +kernel
theorem dX6_kingPoints_71 : decode cX6_kingPoints 71 = .ok (.iconst 0, 1) := by decide +kernel
theorem dX6_kingPoints_72 : decode cX6_kingPoints 72 = .ok (.ireturn, 1) := by decide +kernel
theorem dX6_kingPoints_73 : decode cX6_kingPoints 73 = .ok (.iload_n 3, 1) := by decide +kernel
theorem dX6_kingPoints_74 : decode cX6_kingPoints 74 = .ok (.ifCond .eq 8, 3) := by decide +kernel
theorem dX6_kingPoints_77 : decode cX6_kingPoints 77 = .ok (.bipush 10, 2) := by decide +kernel
theorem dX6_kingPoints_79 : decode cX6_kingPoints 79 = .ok (.goto 5, 3) := by decide +kernel
theorem dX6_kingPoints_82 : decode cX6_kingPoints 82 = .ok (.bipush (-10), 2) := by decide +kernel
theorem dX6_kingPoints_84 : decode cX6_kingPoints 84 = .ok (.ireturn, 1) := by decide +kernel
set_option maxRecDepth 20000 in
theorem ggX6_groupsNow_X6_groupsAt : GoodIn wsX6_groupsNow wsX6_groupsAt := goodIn_r _ [6] (by decide +kernel) (by decide +kernel)
set_option maxRecDepth 20000 in
theorem gX6_groupsNow_X6_groupsAt : GoodIn wsX6_groupsNow (va_wsS RX6 334 yX6_groupsAt wsX6_groupsAt) := goodIn_app (goodIn_of _ (by decide +kernel)) ggX6_groupsNow_X6_groupsAt
theorem dX6_groupsNow_0 : decode cX6_groupsNow 0 = .ok (.aload_n 0, 1) := by decide +kernel
theorem dX6_groupsNow_1 : decode cX6_groupsNow 1 = .ok (.getfield 53, 3) := by decide +kernel
theorem dX6_groupsNow_4 : decode cX6_groupsNow 4 = .ok (.iconst 3, 1) := by decide +kernel
theorem dX6_groupsNow_5 : decode cX6_groupsNow 5 = .ok (.if_icmp .ne 16, 3) := by decide +kernel
theorem dX6_groupsNow_8 : decode cX6_groupsNow 8 = .ok (.aload_n 0, 1) := by decide +kernel
theorem dX6_groupsNow_9 : decode cX6_groupsNow 9 = .ok (.getfield 19, 3) := by decide +kernel
theorem dX6_groupsNow_12 : decode cX6_groupsNow 12 = .ok (.getfield 101, 3) := by decide +kernel
theorem dX6_groupsNow_15 : decode cX6_groupsNow 15 = .ok (.invokestatic 334, 3) := by decide +kernel
theorem dX6_groupsNow_18 : decode cX6_groupsNow 18 = .ok (.goto 5, 3) := by decide +kernel
theorem dX6_groupsNow_21 : decode cX6_groupsNow 21 = .ok (.bipush 6, 2) := by decide +kernel
theorem dX6_groupsNow_23 : decode cX6_groupsNow 23 = .ok (.ireturn, 1) := by decide +kernel
set_option maxRecDepth 20000 in
theorem ggX6_playableNow_X3_at : GoodIn wsX6_playableNow wsX3_at := goodIn_r _ [9, 10, 53] (by decide +kernel) (by decide +kernel)
set_option maxRecDepth 20000 in
theorem gX6_playableNow_X3_at : GoodIn wsX6_playableNow (wsV RX6 154 RX3 yX3_at wsX3_at) := goodIn_app (goodIn_of _ (by decide +kernel)) ggX6_playableNow_X3_at
set_option maxRecDepth 20000 in
theorem ggX6_playableNow_X5_ledSuit : GoodIn wsX6_playableNow wsX5_ledSuit := goodIn_r _ [15, 16, 17, 18, 19, 20, 21, 22, 23, 24, 25, 26, 54, 55, 56, 57] (by decide +kernel) (by decide +kernel)
set_option maxRecDepth 20000 in
theorem gX6_playableNow_X5_ledSuit : GoodIn wsX6_playableNow (wsV RX6 337 RX5 yX5_ledSuit wsX5_ledSuit) := goodIn_app (goodIn_of _ (by decide +kernel)) ggX6_playableNow_X5_ledSuit
set_option maxRecDepth 20000 in
theorem ggX6_playableNow_X6_playableOf : GoodIn wsX6_playableNow wsX6_playableOf := goodIn_r _ [29, 30, 31, 25, 32, 33, 34] (by decide +kernel) (by decide +kernel)
set_option maxRecDepth 20000 in
theorem gX6_playableNow_X6_playableOf : GoodIn wsX6_playableNow (va_wsS RX6 340 yX6_playableOf wsX6_playableOf) := goodIn_app (goodIn_of _ (by decide +kernel)) ggX6_playableNow_X6_playableOf
theorem dX6_playableNow_0 : decode cX6_playableNow 0 = .ok (.aload_n 0, 1) := by decide +kernel
theorem dX6_playableNow_1 : decode cX6_playableNow 1 = .ok (.getfield 53, 3) := by decide +kernel
theorem dX6_playableNow_4 : decode cX6_playableNow 4 = .ok (.iconst 5, 1) := by decide +kernel
theorem dX6_playableNow_5 : decode cX6_playableNow 5 = .ok (.if_icmp .ne 27, 3) := by decide +kernel
theorem dX6_playableNow_8 : decode cX6_playableNow 8 = .ok (.aload_n 0, 1) := by decide +kernel
theorem dX6_playableNow_9 : decode cX6_playableNow 9 = .ok (.getfield 42, 3) := by decide +kernel
theorem dX6_playableNow_12 : decode cX6_playableNow 12 = .ok (.aload_n 0, 1) := by decide +kernel
theorem dX6_playableNow_13 : decode cX6_playableNow 13 = .ok (.getfield 56, 3) := by decide +kernel
theorem dX6_playableNow_16 : decode cX6_playableNow 16 = .ok (.invokevirtual 154, 3) := by decide +kernel
theorem dX6_playableNow_19 : decode cX6_playableNow 19 = .ok (.aload_n 0, 1) := by decide +kernel
theorem dX6_playableNow_20 : decode cX6_playableNow 20 = .ok (.getfield 26, 3) := by decide +kernel
theorem dX6_playableNow_23 : decode cX6_playableNow 23 = .ok (.invokevirtual 337, 3) := by decide +kernel
theorem dX6_playableNow_26 : decode cX6_playableNow 26 = .ok (.invokestatic 340, 3) := by decide +kernel
theorem dX6_playableNow_29 : decode cX6_playableNow 29 = .ok (.goto 4, 3) := by decide +kernel
theorem dX6_playableNow_32 : decode cX6_playableNow 32 = .ok (.lconst 0, 1) := by decide +kernel
theorem dX6_playableNow_33 : decode cX6_playableNow 33 = .ok (.lreturn, 1) := by decide +kernel
theorem dX6_isAnnounced_0 : decode cX6_isAnnounced 0 = .ok (.aload_n 0, 1) := by decide +kernel
theorem dX6_isAnnounced_1 : decode cX6_isAnnounced 1 = .ok (.getfield 214, 3) := by decide +kernel
theorem dX6_isAnnounced_4 : decode cX6_isAnnounced 4 = .ok (.iload_n 1, 1) := by decide +kernel
theorem dX6_isAnnounced_5 : decode cX6_isAnnounced 5 = .ok (.ishr, 1) := by decide +kernel
theorem dX6_isAnnounced_6 : decode cX6_isAnnounced 6 = .ok (.iconst 1, 1) := by decide +kernel
theorem dX6_isAnnounced_7 : decode cX6_isAnnounced 7 = .ok (.iand, 1) := by decide +kernel
theorem dX6_isAnnounced_8 : decode cX6_isAnnounced 8 = .ok (.iconst 1, 1) := by decide +kernel
theorem dX6_isAnnounced_9 : decode cX6_isAnnounced 9 = .ok (.if_icmp .ne 7, 3) := by decide +kernel
theorem dX6_isAnnounced_12 : decode cX6_isAnnounced 12 = .ok (.iconst 1, 1) := by decide +kernel
theorem dX6_isAnnounced_13 : decode cX6_isAnnounced 13 = .ok (.goto 4, 3) := by decide +kernel
theorem dX6_isAnnounced_16 : decode cX6_isAnnounced 16 = .ok (.iconst 0, 1) := by decide +kernel
theorem dX6_isAnnounced_17 : decode cX6_isAnnounced 17 = .ok (.ireturn, 1) := by decide +kernel
theorem dX6_calledKing_0 : decode cX6_calledKing 0 = .ok (.bipush 8, 2) := by decide +kernel
theorem dX6_calledKing_2 : decode cX6_calledKing 2 = .ok (.aload_n 0, 1) := by decide +kernel
theorem dX6_calledKing_3 : decode cX6_calledKing 3 = .ok (.getfield 62, 3) := by decide +kernel
theorem dX6_calledKing_6 : decode cX6_calledKing 6 = .ok (.imul, 1) := by decide +kernel
theorem dX6_calledKing_7 : decode cX6_calledKing 7 = .ok (.bipush 7, 2) := by decide +kernel
theorem dX6_calledKing_9 : decode cX6_calledKing 9 = .ok (.iadd, 1) := by decide +kernel
theorem dX6_calledKing_10 : decode cX6_calledKing 10 = .ok (.ireturn, 1) := by decide +kernel
set_option maxRecDepth 20000 in
theorem ggX6_ownerOf_X3_at : GoodIn wsX6_ownerOf wsX3_at := goodIn_r _ [6, 7, 30] (by decide +kernel) (by decide +kernel)
set_option maxRecDepth 20000 in
theorem gX6_ownerOf_X3_at : GoodIn wsX6_ownerOf (wsV RX6 154 RX3 yX3_at wsX3_at) := goodIn_app (goodIn_of _ (by decide +kernel)) ggX6_ownerOf_X3_at
set_option maxRecDepth 20000 in
theorem ggX6_ownerOf_X6_holds : GoodIn wsX6_ownerOf wsX6_holds := goodIn_r _ [11] (by decide +kernel) (by decide +kernel)
set_option maxRecDepth 20000 in
theorem gX6_ownerOf_X6_holds : GoodIn wsX6_ownerOf (va_wsS RX6 179 yX6_holds wsX6_holds) := goodIn_app (goodIn_of _ (by decide +kernel)) ggX6_ownerOf_X6_holds
theorem dX6_ownerOf_0 : decode cX6_ownerOf 0 = .ok (.iconst 0, 1) := by decide +kernel
theorem dX6_ownerOf_1 : decode cX6_ownerOf 1 = .ok (.istore_n 2, 1) := by decide +kernel
theorem dX6_ownerOf_2 : decode cX6_ownerOf 2 = .ok (.iload_n 2, 1) := by decide +kernel
theorem dX6_ownerOf_3 : decode cX6_ownerOf 3 = .ok (.iconst 4, 1) := by decide +kernel
theorem dX6_ownerOf_4 : decode cX6_ownerOf 4 = .ok (.if_icmp .ge 26, 3) := by decide +kernel
theorem dX6_ownerOf_7 : decode cX6_ownerOf 7 = .ok (.aload_n 0, 1) := by decide +kernel
theorem dX6_ownerOf_8 : decode cX6_ownerOf 8 = .ok (.getfield 42, 3) := by decide +kernel
theorem dX6_ownerOf_11 : decode cX6_ownerOf 11 = .ok (.iload_n 2, 1) := by decide +kernel
theorem dX6_ownerOf_12 : decode cX6_ownerOf 12 = .ok (.invokevirtual 154, 3) := by decide +kernel
theorem dX6_ownerOf_15 : decode cX6_ownerOf 15 = .ok (.iload_n 1, 1) := by decide +kernel
theorem dX6_ownerOf_16 : decode cX6_ownerOf 16 = .ok (.invokestatic 179, 3) := by decide +kernel
theorem dX6_ownerOf_19 : decode cX6_ownerOf 19 = .ok (.ifCond .eq 5, 3) := by decide +kernel
theorem dX6_ownerOf_22 : decode cX6_ownerOf 22 = .ok (.iload_n 2, 1) := by decide +kernel
theorem dX6_ownerOf_23 : decode cX6_ownerOf 23 = .ok (.ireturn, 1) := by decide +kernel
theorem dX6_ownerOf_24 : decode cX6_ownerOf 24 = .ok (.iinc 2 1, 3) := by decide +kernel
theorem dX6_ownerOf_27 : decode cX6_ownerOf 27 = .ok (.goto (-25), 3) := by decide +kernel
theorem dX6_ownerOf_30 : decode cX6_ownerOf 30 = .ok (.iconst (-1), 1) := by decide +kernel
theorem dX6_ownerOf_31 : decode cX6_ownerOf 31 = .ok (.ireturn, 1) := by decide +kernel
theorem dX6_sideOf_0 : decode cX6_sideOf 0 = .ok (.iload_n 1, 1) := by decide +kernel
theorem dX6_sideOf_1 : decode cX6_sideOf 1 = .ok (.aload_n 0, 1) := by decide +kernel
theorem dX6_sideOf_2 : decode cX6_sideOf 2 = .ok (.getfield 59, 3) := by decide +kernel
theorem dX6_sideOf_5 : decode cX6_sideOf 5 = .ok (.if_icmp .eq 11, 3) := by decide +kernel
theorem dX6_sideOf_8 : decode cX6_sideOf 8 = .ok (.iload_n 1, 1) := by decide +kernel
theorem dX6_sideOf_9 : decode cX6_sideOf 9 = .ok (.aload_n 0, 1) := by decide +kernel
theorem dX6_sideOf_10 : decode cX6_sideOf 10 = .ok (.getfield 68, 3) := by decide +kernel
theorem dX6_sideOf_13 : decode cX6_sideOf 13 = .ok (.if_icmp .ne 7, 3) := by decide +kernel
theorem dX6_sideOf_16 : decode cX6_sideOf 16 = .ok (.iconst 0, 1) := by decide +kernel
theorem dX6_sideOf_17 : decode cX6_sideOf 17 = .ok (.goto 4, 3) := by decide +kernel
theorem dX6_sideOf_20 : decode cX6_sideOf 20 = .ok (.iconst 1, 1) := by decide +kernel
theorem dX6_sideOf_21 : decode cX6_sideOf 21 = .ok (.ireturn, 1) := by decide +kernel
set_option maxRecDepth 20000 in
theorem ggX6_sidesAreOpen_X3_at : GoodIn wsX6_sidesAreOpen wsX3_at := goodIn_r _ [8, 9, 36] (by decide +kernel) (by decide +kernel)
set_option maxRecDepth 20000 in
theorem gX6_sidesAreOpen_X3_at : GoodIn wsX6_sidesAreOpen (wsV RX6 154 RX3 yX3_at wsX3_at) := goodIn_app (goodIn_of _ (by decide +kernel)) ggX6_sidesAreOpen_X3_at
set_option maxRecDepth 20000 in
theorem ggX6_sidesAreOpen_X6_calledKing : GoodIn wsX6_sidesAreOpen wsX6_calledKing := goodIn_r _ [14, 1, 18, 19, 20, 21, 22, 23, 24, 25, 26, 27, 28, 29, 30, 31, 32, 33, 34, 35] (by decide +kernel) (by decide +kernel)
set_option maxRecDepth 20000 in
theorem gX6_sidesAreOpen_X6_calledKing : GoodIn wsX6_sidesAreOpen (wsV RX6 133 RX6 yX6_calledKing wsX6_calledKing) := goodIn_app (goodIn_of _ (by decide +kernel)) ggX6_sidesAreOpen_X6_calledKing
set_option maxRecDepth 20000 in
theorem ggX6_sidesAreOpen_X6_holds : GoodIn wsX6_sidesAreOpen wsX6_holds := goodIn_r _ [17] (by decide +kernel) (by decide +kernel)
set_option maxRecDepth 20000 in
theorem gX6_sidesAreOpen_X6_holds : GoodIn wsX6_sidesAreOpen (va_wsS RX6 179 yX6_holds wsX6_holds) := goodIn_app (goodIn_of _ (by decide +kernel)) ggX6_sidesAreOpen_X6_holds
theorem dX6_sidesAreOpen_0 : decode cX6_sidesAreOpen 0 = .ok (.aload_n 0, 1) := by decide +kernel
theorem dX6_sidesAreOpen_1 : decode cX6_sidesAreOpen 1 = .ok (.getfield 62, 3) := by decide +kernel
theorem dX6_sidesAreOpen_4 : decode cX6_sidesAreOpen 4 = .ok (.iconst (-1), 1) := by decide +kernel
theorem dX6_sidesAreOpen_5 : decode cX6_sidesAreOpen 5 = .ok (.if_icmp .eq 32, 3) := by decide +kernel
theorem dX6_sidesAreOpen_8 : decode cX6_sidesAreOpen 8 = .ok (.aload_n 0, 1) := by decide +kernel
theorem dX6_sidesAreOpen_9 : decode cX6_sidesAreOpen 9 = .ok (.getfield 65, 3) := by decide +kernel
theorem dX6_sidesAreOpen_12 : decode cX6_sidesAreOpen 12 = .ok (.iconst (-1), 1) := by decide +kernel
theorem dX6_sidesAreOpen_13 : decode cX6_sidesAreOpen 13 = .ok (.if_icmp .eq 24, 3) := by decide +kernel
theorem dX6_sidesAreOpen_16 : decode cX6_sidesAreOpen 16 = .ok (.aload_n 0, 1) := by decide +kernel
theorem dX6_sidesAreOpen_17 : decode cX6_sidesAreOpen 17 = .ok (.getfield 42, 3) := by decide +kernel
theorem dX6_sidesAreOpen_20 : decode cX6_sidesAreOpen 20 = .ok (.aload_n 0, 1) := by decide +kernel
theorem dX6_sidesAreOpen_21 : decode cX6_sidesAreOpen 21 = .ok (.getfield 65, 3) := by decide +kernel
theorem dX6_sidesAreOpen_24 : decode cX6_sidesAreOpen 24 = .ok (.invokevirtual 154, 3) := by decide +kernel
theorem dX6_sidesAreOpen_27 : decode cX6_sidesAreOpen 27 = .ok (.aload_n 0, 1) := by decide +kernel
theorem dX6_sidesAreOpen_28 : decode cX6_sidesAreOpen 28 = .ok (.invokevirtual 133, 3) := by decide +kernel
theorem dX6_sidesAreOpen_31 : decode cX6_sidesAreOpen 31 = .ok (.invokestatic 179, 3) := by decide +kernel
theorem dX6_sidesAreOpen_34 : decode cX6_sidesAreOpen 34 = .ok (.ifCond .ne 7, 3) := by decide +kernel
theorem dX6_sidesAreOpen_37 : decode cX6_sidesAreOpen 37 = .ok (.iconst 1, 1) := by decide +kernel
theorem dX6_sidesAreOpen_38 : decode cX6_sidesAreOpen 38 = .ok (.goto 4, 3) := by decide +kernel
theorem dX6_sidesAreOpen_41 : decode cX6_sidesAreOpen 41 = .ok (.iconst 0, 1) := by decide +kernel
theorem dX6_sidesAreOpen_42 : decode cX6_sidesAreOpen 42 = .ok (.ireturn, 1) := by decide +kernel
theorem dX6_isPlayer_0 : decode cX6_isPlayer 0 = .ok (.iload_n 0, 1) := by decide +kernel
theorem dX6_isPlayer_1 : decode cX6_isPlayer 1 = .ok (.ifCond .lt 12, 3) := by decide +kernel
theorem dX6_isPlayer_4 : decode cX6_isPlayer 4 = .ok (.iload_n 0, 1) := by decide +kernel
theorem dX6_isPlayer_5 : decode cX6_isPlayer 5 = .ok (.iconst 4, 1) := by decide +kernel
theorem dX6_isPlayer_6 : decode cX6_isPlayer 6 = .ok (.if_icmp .ge 7, 3) := by decide +kernel
theorem dX6_isPlayer_9 : decode cX6_isPlayer 9 = .ok (.iconst 1, 1) := by decide +kernel
theorem dX6_isPlayer_10 : decode cX6_isPlayer 10 = .ok (.goto 4, 3) := by decide +kernel
theorem dX6_isPlayer_13 : decode cX6_isPlayer 13 = .ok (.iconst 0, 1) := by decide +kernel
theorem dX6_isPlayer_14 : decode cX6_isPlayer 14 = .ok (.ireturn, 1) := by decide +kernel
theorem dX6_isCard_0 : decode cX6_isCard 0 = .ok (.iload_n 0, 1) := by decide +kernel
theorem dX6_isCard_1 : decode cX6_isCard 1 = .ok (.ifCond .lt 13, 3) := by decide +kernel
theorem dX6_isCard_4 : decode cX6_isCard 4 = .ok (.iload_n 0, 1) := by decide +kernel
theorem dX6_isCard_5 : decode cX6_isCard 5 = .ok (.bipush 54, 2) := by decide +kernel
theorem dX6_isCard_7 : decode cX6_isCard 7 = .ok (.if_icmp .ge 7, 3) := by decide +kernel
theorem dX6_isCard_10 : decode cX6_isCard 10 = .ok (.iconst 1, 1) := by decide +kernel
theorem dX6_isCard_11 : decode cX6_isCard 11 = .ok (.goto 4, 3) := by decide +kernel
theorem dX6_isCard_14 : decode cX6_isCard 14 = .ok (.iconst 0, 1) := by decide +kernel
theorem dX6_isCard_15 : decode cX6_isCard 15 = .ok (.ireturn, 1) := by decide +kernel
theorem dX6_isSide_0 : decode cX6_isSide 0 = .ok (.iload_n 0, 1) := by decide +kernel
theorem dX6_isSide_1 : decode cX6_isSide 1 = .ok (.ifCond .lt 12, 3) := by decide +kernel
theorem dX6_isSide_4 : decode cX6_isSide 4 = .ok (.iload_n 0, 1) := by decide +kernel
theorem dX6_isSide_5 : decode cX6_isSide 5 = .ok (.iconst 2, 1) := by decide +kernel
theorem dX6_isSide_6 : decode cX6_isSide 6 = .ok (.if_icmp .ge 7, 3) := by decide +kernel
theorem dX6_isSide_9 : decode cX6_isSide 9 = .ok (.iconst 1, 1) := by decide +kernel
theorem dX6_isSide_10 : decode cX6_isSide 10 = .ok (.goto 4, 3) := by decide +kernel
theorem dX6_isSide_13 : decode cX6_isSide 13 = .ok (.iconst 0, 1) := by decide +kernel
theorem dX6_isSide_14 : decode cX6_isSide 14 = .ok (.ireturn, 1) := by decide +kernel
theorem dX6_behind_0 : decode cX6_behind 0 = .ok (.iload_n 0, 1) := by decide +kernel
theorem dX6_behind_1 : decode cX6_behind 1 = .ok (.iconst 1, 1) := by decide +kernel
theorem dX6_behind_2 : decode cX6_behind 2 = .ok (.iadd, 1) := by decide +kernel
theorem dX6_behind_3 : decode cX6_behind 3 = .ok (.iconst 4, 1) := by decide +kernel
theorem dX6_behind_4 : decode cX6_behind 4 = .ok (.irem, 1) := by decide +kernel
theorem dX6_behind_5 : decode cX6_behind 5 = .ok (.ireturn, 1) := by decide +kernel
theorem dX6_suitOf_0 : decode cX6_suitOf 0 = .ok (.iload_n 0, 1) := by decide +kernel
theorem dX6_suitOf_1 : decode cX6_suitOf 1 = .ok (.bipush 32, 2) := by decide +kernel
theorem dX6_suitOf_3 : decode cX6_suitOf 3 = .ok (.if_icmp .ge 10, 3) := by decide +kernel
theorem dX6_suitOf_6 : decode cX6_suitOf 6 = .ok (.iload_n 0, 1) := by decide +kernel
theorem dX6_suitOf_7 : decode cX6_suitOf 7 = .ok (.bipush 8, 2) := by decide +kernel
theorem dX6_suitOf_9 : decode cX6_suitOf 9 = .ok (.idiv, 1) := by decide +kernel
theorem dX6_suitOf_10 : decode cX6_suitOf 10 = .ok (.goto 4, 3) := by decide +kernel
theorem dX6_suitOf_13 : decode cX6_suitOf 13 = .ok (.iconst 4, 1) := by decide +kernel
theorem dX6_suitOf_14 : decode cX6_suitOf 14 = .ok (.ireturn, 1) := by decide +kernel
set_option maxRecDepth 20000 in
theorem ggX6_worth_X6_suitOf : GoodIn wsX6_worth wsX6_suitOf := goodIn_r _ [4] (by decide +kernel) (by decide +kernel)
set_option maxRecDepth 20000 in
theorem gX6_worth_X6_suitOf : GoodIn wsX6_worth (va_wsS RX6 344 yX6_suitOf wsX6_suitOf) := goodIn_app (goodIn_of _ (by decide +kernel)) ggX6_worth_X6_suitOf
theorem dX6_worth_0 : decode cX6_worth 0 = .ok (.iload_n 0, 1) := by decide +kernel
theorem dX6_worth_1 : decode cX6_worth 1 = .ok (.invokestatic 344, 3) := by decide +kernel
theorem dX6_worth_4 : decode cX6_worth 4 = .ok (.iconst 4, 1) := by decide +kernel
theorem dX6_worth_5 : decode cX6_worth 5 = .ok (.if_icmp .ne 21, 3) := by decide +kernel
theorem dX6_worth_8 : decode cX6_worth 8 = .ok (.iload_n 0, 1) := by decide +kernel
theorem dX6_worth_9 : decode cX6_worth 9 = .ok (.bipush 32, 2) := by decide +kernel
theorem dX6_worth_11 : decode cX6_worth 11 = .ok (.if_icmp .eq 9, 3) := by decide +kernel
theorem dX6_worth_14 : decode cX6_worth 14 = .ok (.iload_n 0, 1) := by decide +kernel
theorem dX6_worth_15 : decode cX6_worth 15 = .ok (.bipush 52, 2) := by decide +kernel
theorem dX6_worth_17 : decode cX6_worth 17 = .ok (.if_icmp .lt 7, 3) := by decide +kernel
theorem dX6_worth_20 : decode cX6_worth 20 = .ok (.iconst 5, 1) := by decide +kernel
theorem dX6_worth_21 : decode cX6_worth 21 = .ok (.goto 4, 3) := by decide +kernel
theorem dX6_worth_24 : decode cX6_worth 24 = .ok (.iconst 1, 1) := by decide +kernel
theorem dX6_worth_25 : decode cX6_worth 25 = .ok (.ireturn, 1) := by decide +kernel
theorem dX6_worth_26 : decode cX6_worth 26 = .ok (.iload_n 0, 1) := by decide +kernel
theorem dX6_worth_27 : decode cX6_worth 27 = .ok (.bipush 8, 2) := by decide +kernel
theorem dX6_worth_29 : decode cX6_worth 29 = .ok (.irem, 1) := by decide +kernel
theorem dX6_worth_30 : decode cX6_worth 30 = .ok (.istore_n 1, 1) := by decide +kernel
theorem dX6_worth_31 : decode cX6_worth 31 = .ok (.iload_n 1, 1) := by decide +kernel
theorem dX6_worth_32 : decode cX6_worth 32 = .ok (.iconst 3, 1) := by decide +kernel
theorem dX6_worth_33 : decode cX6_worth 33 = .ok (.if_icmp .le 9, 3) := by decide +kernel
theorem dX6_worth_36 : decode cX6_worth 36 = .ok (.iload_n 1, 1) := by decide +kernel
theorem dX6_worth_37 : decode cX6_worth 37 = .ok (.iconst 2, 1) := by decide +kernel
theorem dX6_worth_38 : decode cX6_worth 38 = .ok (.isub, 1) := by decide +kernel
theorem dX6_worth_39 : decode cX6_worth 39 = .ok (.goto 4, 3) := by decide +kernel
theorem dX6_worth_42 : decode cX6_worth 42 = .ok (.iconst 1, 1) := by decide +kernel
theorem dX6_worth_43 : decode cX6_worth 43 = .ok (.ireturn, 1) := by decide +kernel
set_option maxRecDepth 20000 in
theorem ggX6_canBeLaidAway_X6_worth : GoodIn wsX6_canBeLaidAway wsX6_worth := goodIn_r _ [4, 5, 6, 3, 7] (by decide +kernel) (by decide +kernel)
set_option maxRecDepth 20000 in
theorem gX6_canBeLaidAway_X6_worth : GoodIn wsX6_canBeLaidAway (va_wsS RX6 254 yX6_worth wsX6_worth) := goodIn_app (goodIn_of _ (by decide +kernel)) ggX6_canBeLaidAway_X6_worth
theorem dX6_canBeLaidAway_0 : decode cX6_canBeLaidAway 0 = .ok (.iload_n 0, 1) := by decide +kernel
theorem dX6_canBeLaidAway_1 : decode cX6_canBeLaidAway 1 = .ok (.invokestatic 254, 3) := by decide +kernel
theorem dX6_canBeLaidAway_4 : decode cX6_canBeLaidAway 4 = .ok (.iconst 5, 1) := by decide +kernel
theorem dX6_canBeLaidAway_5 : decode cX6_canBeLaidAway 5 = .ok (.if_icmp .ge 7, 3) := by decide +kernel
theorem dX6_canBeLaidAway_8 : decode cX6_canBeLaidAway 8 = .ok (.iconst 1, 1) := by decide +kernel
theorem dX6_canBeLaidAway_9 : decode cX6_canBeLaidAway 9 = .ok (.goto 4, 3) := by decide +kernel
theorem dX6_canBeLaidAway_12 : decode cX6_canBeLaidAway 12 = .ok (.iconst 0, 1) := by decide +kernel
theorem dX6_canBeLaidAway_13 : decode cX6_canBeLaidAway 13 = .ok (.ireturn, 1) := by decide +kernel
theorem dX6_groupSize_0 : decode cX6_groupSize 0 = .ok (.iload_n 0, 1) := by decide +kernel
theorem dX6_groupSize_1 : decode cX6_groupSize 1 = .ok (.iconst 3, 1) := by decide +kernel
theorem dX6_groupSize_2 : decode cX6_groupSize 2 = .ok (.if_icmp .ge 9, 3) := by decide +kernel
theorem dX6_groupSize_5 : decode cX6_groupSize 5 = .ok (.iconst 4, 1) := by decide +kernel
theorem dX6_groupSize_6 : decode cX6_groupSize 6 = .ok (.iload_n 0, 1) := by decide +kernel
theorem dX6_groupSize_7 : decode cX6_groupSize 7 = .ok (.isub, 1) := by decide +kernel
theorem dX6_groupSize_8 : decode cX6_groupSize 8 = .ok (.goto 4, 3) := by decide +kernel
theorem dX6_groupSize_11 : decode cX6_groupSize 11 = .ok (.iconst 1, 1) := by decide +kernel
theorem dX6_groupSize_12 : decode cX6_groupSize 12 = .ok (.ireturn, 1) := by decide +kernel
theorem dX6_groupsAt_0 : decode cX6_groupsAt 0 = .ok (.iload_n 0, 1) := by decide +kernel
theorem dX6_groupsAt_1 : decode cX6_groupsAt 1 = .ok (.iconst 3, 1) := by decide +kernel
theorem dX6_groupsAt_2 : decode cX6_groupsAt 2 = .ok (.if_icmp .ge 9, 3) := by decide +kernel
theorem dX6_groupsAt_5 : decode cX6_groupsAt 5 = .ok (.iload_n 0, 1) := by decide +kernel
theorem dX6_groupsAt_6 : decode cX6_groupsAt 6 = .ok (.iconst 1, 1) := by decide +kernel
theorem dX6_groupsAt_7 : decode cX6_groupsAt 7 = .ok (.iadd, 1) := by decide +kernel
theorem dX6_groupsAt_8 : decode cX6_groupsAt 8 = .ok (.goto 5, 3) := by decide +kernel
theorem dX6_groupsAt_11 : decode cX6_groupsAt 11 = .ok (.bipush 6, 2) := by decide +kernel
theorem dX6_groupsAt_13 : decode cX6_groupsAt 13 = .ok (.ireturn, 1) := by decide +kernel
theorem dX6_isWon_0 : decode cX6_isWon 0 = .ok (.iload_n 0, 1) := by decide +kernel
theorem dX6_isWon_1 : decode cX6_isWon 1 = .ok (.bipush 105, 2) := by decide +kernel
theorem dX6_isWon_3 : decode cX6_isWon 3 = .ok (.if_icmp .le 7, 3) := by decide +kernel
theorem dX6_isWon_6 : decode cX6_isWon 6 = .ok (.iconst 1, 1) := by decide +kernel
theorem dX6_isWon_7 : decode cX6_isWon 7 = .ok (.goto 4, 3) := by decide +kernel
theorem dX6_isWon_10 : decode cX6_isWon 10 = .ok (.iconst 0, 1) := by decide +kernel
theorem dX6_isWon_11 : decode cX6_isWon 11 = .ok (.ireturn, 1) := by decide +kernel
set_option maxRecDepth 20000 in
theorem ggX6_gamePoints_X6_basePoints : GoodIn wsX6_gamePoints wsX6_basePoints := goodIn_r _ [8] (by decide +kernel) (by decide +kernel)
set_option maxRecDepth 20000 in
theorem gX6_gamePoints_X6_basePoints : GoodIn wsX6_gamePoints (va_wsS RX6 347 yX6_basePoints wsX6_basePoints) := goodIn_app (goodIn_of _ (by decide +kernel)) ggX6_gamePoints_X6_basePoints
set_option maxRecDepth 20000 in
theorem ggX6_gamePoints_X6_isWon : GoodIn wsX6_gamePoints wsX6_isWon := goodIn_r _ [11] (by decide +kernel) (by decide +kernel)
set_option maxRecDepth 20000 in
theorem gX6_gamePoints_X6_isWon : GoodIn wsX6_gamePoints (va_wsS RX6 322 yX6_isWon wsX6_isWon) := goodIn_app (goodIn_of _ (by decide +kernel)) ggX6_gamePoints_X6_isWon
theorem dX6_gamePoints_0 : decode cX6_gamePoints 0 = .ok (.iload_n 0, 1) := by decide +kernel
theorem dX6_gamePoints_1 : decode cX6_gamePoints 1 = .ok (.invokestatic 347, 3) := by decide +kernel
theorem dX6_gamePoints_4 : decode cX6_gamePoints 4 = .ok (.istore_n 2, 1) := by decide +kernel
theorem dX6_gamePoints_5 : decode cX6_gamePoints 5 = .ok (.iload_n 0, 1) := by decide +kernel
theorem dX6_gamePoints_6 : decode cX6_gamePoints 6 = .ok (.iconst 4, 1) := by decide +kernel
theorem dX6_gamePoints_7 : decode cX6_gamePoints 7 = .ok (.if_icmp .gt 15, 3) := by decide +kernel
theorem dX6_gamePoints_10 : decode cX6_gamePoints 10 = .ok (.iload_n 2, 1) := by decide +kernel
theorem dX6_gamePoints_11 : decode cX6_gamePoints 11 = .ok (.iload_n 1, 1) := by decide +kernel
theorem dX6_gamePoints_12 : decode cX6_gamePoints 12 = .ok (.bipush 105, 2) := by decide +kernel
theorem dX6_gamePoints_14 : decode cX6_gamePoints 14 = .ok (.isub, 1) := by decide +kernel
theorem dX6_gamePoints_15 : decode cX6_gamePoints 15 = .ok (.invokestatic 350, 3) := by decide +kernel
theorem dX6_gamePoints_18 : decode cX6_gamePoints 18 = .ok (.iconst 3, 1) := by decide +kernel
theorem dX6_gamePoints_19 : decode cX6_gamePoints 19 = .ok (.idiv, 1) := by decide +kernel
theorem dX6_gamePoints_20 : decode cX6_gamePoints 20 = .ok (.iadd, 1) := by decide +kernel
theorem dX6_gamePoints_21 : decode cX6_gamePoints 21 = .ok (.istore_n 2, 1) := by decide +kernel
theorem dX6_gamePoints_22 : decode cX6_gamePoints 22 = .ok (.iload_n 1, 1) := by decide +kernel
theorem dX6_gamePoints_23 : decode cX6_gamePoints 23 = .ok (.invokestatic 322, 3) := by decide +kernel
theorem dX6_gamePoints_26 : decode cX6_gamePoints 26 = .ok (.ifCond .eq 7, 3) := by decide +kernel
theorem dX6_gamePoints_29 : decode cX6_gamePoints 29 = .ok (.iload_n 2, 1) := by decide +kernel
theorem dX6_gamePoints_30 : decode cX6_gamePoints 30 = .ok (.goto 5, 3) := by decide +kernel
theorem dX6_gamePoints_33 : decode cX6_gamePoints 33 = .ok (.iload_n 2, 1) := by decide +kernel
theorem dX6_gamePoints_34 : decode cX6_gamePoints 34 = .ok (.ineg, 1) := by decide +kernel
theorem dX6_gamePoints_35 : decode cX6_gamePoints 35 = .ok (.ireturn, 1) := by decide +kernel
theorem dX6_basePoints_0 : decode cX6_basePoints 0 = .ok (.iload_n 0, 1) := by decide +kernel
theorem dX6_basePoints_1 : decode cX6_basePoints 1 = .ok (.tableswitch 43 1 4 #[31, 34, 37, 40], 31) := by decide +kernel
theorem dX6_basePoints_32 : decode cX6_basePoints 32 = .ok (.bipush 10, 2) := by decide +kernel
theorem dX6_basePoints_34 : decode cX6_basePoints 34 = .ok (.ireturn, 1) := by decide +kernel
theorem dX6_basePoints_35 : decode cX6_basePoints 35 = .ok (.bipush 20, 2) := by decide +kernel
theorem dX6_basePoints_37 : decode cX6_basePoints 37 = .ok (.ireturn, 1) := by decide +kernel
theorem dX6_basePoints_38 : decode cX6_basePoints 38 = .ok (.bipush 30, 2) := by decide +kernel
theorem dX6_basePoints_40 : decode cX6_basePoints 40 = .ok (.ireturn, 1) := by decide +kernel
theorem dX6_basePoints_41 : decode cX6_basePoints 41 = .ok (.bipush 50, 2) := by decide +kernel
theorem dX6_basePoints_43 : decode cX6_basePoints 43 = .ok (.ireturn, 1) := by decide +kernel
theorem dX6_basePoints_44 : decode cX6_basePoints 44 = .ok (.bipush 80, 2) := by decide +kernel
theorem dX6_basePoints_46 : decode cX6_basePoints 46 = .ok (.ireturn, 1) := by decide +kernel
theorem dX6_only_0 : decode cX6_only 0 = .ok (.lconst 1, 1) := by decide +kernel
theorem dX6_only_1 : decode cX6_only 1 = .ok (.iload_n 0, 1) := by decide +kernel
theorem dX6_only_2 : decode cX6_only 2 = .ok (.lshl, 1) := by decide +kernel
theorem dX6_only_3 : decode cX6_only 3 = .ok (.lreturn, 1) := by decide +kernel
theorem dX6_holds_0 : decode cX6_holds 0 = .ok (.lload_n 0, 1) := by decide +kernel
theorem dX6_holds_1 : decode cX6_holds 1 = .ok (.iload_n 2, 1) := by decide +kernel
theorem dX6_holds_2 : decode cX6_holds 2 = .ok (.lshr, 1) := by decide +kernel
theorem dX6_holds_3 : decode cX6_holds 3 = .ok (.lconst 1, 1) := by decide +kernel
theorem dX6_holds_4 : decode cX6_holds 4 = .ok (.land, 1) := by decide +kernel
theorem dX6_holds_5 : decode cX6_holds 5 = .ok (.lconst 1, 1) := by decide +kernel
theorem dX6_holds_6 : decode cX6_holds 6 = .ok (.lcmp, 1) := by decide +kernel
theorem dX6_holds_7 : decode cX6_holds 7 = .ok (.ifCond .ne 7, 3) := by decide +kernel
theorem dX6_holds_10 : decode cX6_holds 10 = .ok (.iconst 1, 1) := by decide +kernel
theorem dX6_holds_11 : decode cX6_holds 11 = .ok (.goto 4, 3) := by decide +kernel
theorem dX6_holds_14 : decode cX6_holds 14 = .ok (.iconst 0, 1) := by decide +kernel
theorem dX6_holds_15 : decode cX6_holds 15 = .ok (.ireturn, 1) := by decide +kernel
theorem dX6_cardsOfSuit_0 : decode cX6_cardsOfSuit 0 = .ok (.iload_n 2, 1) := by decide +kernel
theorem dX6_cardsOfSuit_1 : decode cX6_cardsOfSuit 1 = .ok (.iconst 4, 1) := by decide +kernel
theorem dX6_cardsOfSuit_2 : decode cX6_cardsOfSuit 2 = .ok (.if_icmp .ne 9, 3) := by decide +kernel
theorem dX6_cardsOfSuit_5 : decode cX6_cardsOfSuit 5 = .ok (.ldc2_w 355, 3) := by decide +kernel
theorem dX6_cardsOfSuit_8 : decode cX6_cardsOfSuit 8 = .ok (.goto 11, 3) := by decide +kernel
theorem dX6_cardsOfSuit_11 : decode cX6_cardsOfSuit 11 = .ok (.ldc2_w 357, 3) := by decide +kernel
theorem dX6_cardsOfSuit_14 : decode cX6_cardsOfSuit 14 = .ok (.bipush 8, 2) := by decide +kernel
theorem dX6_cardsOfSuit_16 : decode cX6_cardsOfSuit 16 = .ok (.iload_n 2, 1) := by decide +kernel
theorem dX6_cardsOfSuit_17 : decode cX6_cardsOfSuit 17 = .ok (.imul, 1) := by decide +kernel
theorem dX6_cardsOfSuit_18 : decode cX6_cardsOfSuit 18 = .ok (.lshl, 1) := by decide +kernel
theorem dX6_cardsOfSuit_19 : decode cX6_cardsOfSuit 19 = .ok (.lstore_n 3, 1) := by decide +kernel
theorem dX6_cardsOfSuit_20 : decode cX6_cardsOfSuit 20 = .ok (.lload_n 0, 1) := by decide +kernel
theorem dX6_cardsOfSuit_21 : decode cX6_cardsOfSuit 21 = .ok (.lload_n 3, 1) := by decide +kernel
theorem dX6_cardsOfSuit_22 : decode cX6_cardsOfSuit 22 = .ok (.land, 1) := by decide +kernel
theorem dX6_cardsOfSuit_23 : decode cX6_cardsOfSuit 23 = .ok (.lreturn, 1) := by decide +kernel
set_option maxRecDepth 20000 in
theorem ggX6_playableOf_X6_cardsOfSuit : GoodIn wsX6_playableOf wsX6_cardsOfSuit := goodIn_r _ [4, 5, 6] (by decide +kernel) (by decide +kernel)
set_option maxRecDepth 20000 in
theorem gX6_playableOf_X6_cardsOfSuit : GoodIn wsX6_playableOf (va_wsS RX6 359 yX6_cardsOfSuit wsX6_cardsOfSuit) := goodIn_app (goodIn_of _ (by decide +kernel)) ggX6_playableOf_X6_cardsOfSuit
theorem dX6_playableOf_0 : decode cX6_playableOf 0 = .ok (.iload_n 2, 1) := by decide +kernel
theorem dX6_playableOf_1 : decode cX6_playableOf 1 = .ok (.iconst (-1), 1) := by decide +kernel
theorem dX6_playableOf_2 : decode cX6_playableOf 2 = .ok (.if_icmp .ne 5, 3) := by decide +kernel
theorem dX6_playableOf_5 : decode cX6_playableOf 5 = .ok (.lload_n 0, 1) := by decide +kernel
theorem dX6_playableOf_6 : decode cX6_playableOf 6 = .ok (.lreturn, 1) := by decide +kernel
theorem dX6_playableOf_7 : decode cX6_playableOf 7 = .ok (.lload_n 0, 1) := by decide +kernel
theorem dX6_playableOf_8 : decode cX6_playableOf 8 = .ok (.iload_n 2, 1) := by decide +kernel
theorem dX6_playableOf_9 : decode cX6_playableOf 9 = .ok (.invokestatic 359, 3) := by decide +kernel
theorem dX6_playableOf_12 : decode cX6_playableOf 12 = .ok (.lstore_n 3, 1) := by decide +kernel
theorem dX6_playableOf_13 : decode cX6_playableOf 13 = .ok (.lload_n 3, 1) := by decide +kernel
theorem dX6_playableOf_14 : decode cX6_playableOf 14 = .ok (.lconst 0, 1) := by decide +kernel
theorem dX6_playableOf_15 : decode cX6_playableOf 15 = .ok (.lcmp, 1) := by decide +kernel
theorem dX6_playableOf_16 : decode cX6_playableOf 16 = .ok (.ifCond .eq 5, 3) := by decide +kernel
theorem dX6_playableOf_19 : decode cX6_playableOf 19 = .ok (.lload_n 3, 1) := by decide +kernel
theorem dX6_playableOf_20 : decode cX6_playableOf 20 = .ok (.lreturn, 1) := by decide +kernel
theorem dX6_playableOf_21 : decode cX6_playableOf 21 = .ok (.lload_n 0, 1) := by decide +kernel
theorem dX6_playableOf_22 : decode cX6_playableOf 22 = .ok (.iconst 4, 1) := by decide +kernel
theorem dX6_playableOf_23 : decode cX6_playableOf 23 = .ok (.invokestatic 359, 3) := by decide +kernel
theorem dX6_playableOf_26 : decode cX6_playableOf 26 = .ok (.lstore 5, 2) := by decide +kernel
theorem dX6_playableOf_28 : decode cX6_playableOf 28 = .ok (.lload 5, 2) := by decide +kernel
theorem dX6_playableOf_30 : decode cX6_playableOf 30 = .ok (.lconst 0, 1) := by decide +kernel
theorem dX6_playableOf_31 : decode cX6_playableOf 31 = .ok (.lcmp, 1) := by decide +kernel
theorem dX6_playableOf_32 : decode cX6_playableOf 32 = .ok (.ifCond .eq 8, 3) := by decide +kernel
theorem dX6_playableOf_35 : decode cX6_playableOf 35 = .ok (.lload 5, 2) := by decide +kernel
theorem dX6_playableOf_37 : decode cX6_playableOf 37 = .ok (.goto 4, 3) := by decide +kernel
theorem dX6_playableOf_40 : decode cX6_playableOf 40 = .ok (.lload_n 0, 1) := by decide +kernel
theorem dX6_playableOf_41 : decode cX6_playableOf 41 = .ok (.lreturn, 1) := by decide +kernel
set_option maxRecDepth 20000 in
theorem ggX6_lowestOf_X6_holds : GoodIn wsX6_lowestOf wsX6_holds := goodIn_r _ [4] (by decide +kernel) (by decide +kernel)
set_option maxRecDepth 20000 in
theorem gX6_lowestOf_X6_holds : GoodIn wsX6_lowestOf (va_wsS RX6 179 yX6_holds wsX6_holds) := goodIn_app (goodIn_of _ (by decide +kernel)) ggX6_lowestOf_X6_holds
theorem dX6_lowestOf_0 : decode cX6_lowestOf 0 = .ok (.iconst 0, 1) := by decide +kernel
theorem dX6_lowestOf_1 : decode cX6_lowestOf 1 = .ok (.istore_n 2, 1) := by decide +kernel
theorem dX6_lowestOf_2 : decode cX6_lowestOf 2 = .ok (.iload_n 2, 1) := by decide +kernel
theorem dX6_lowestOf_3 : decode cX6_lowestOf 3 = .ok (.bipush 54, 2) := by decide +kernel
theorem dX6_lowestOf_5 : decode cX6_lowestOf 5 = .ok (.if_icmp .ge 19, 3) := by decide +kernel
theorem dX6_lowestOf_8 : decode cX6_lowestOf 8 = .ok (.lload_n 0, 1) := by decide +kernel
theorem dX6_lowestOf_9 : decode cX6_lowestOf 9 = .ok (.iload_n 2, 1) := by decide +kernel
theorem dX6_lowestOf_10 : decode cX6_lowestOf 10 = .ok (.invokestatic 179, 3) := by decide +kernel
theorem dX6_lowestOf_13 : decode cX6_lowestOf 13 = .ok (.ifCond .eq 5, 3) := by decide +kernel
theorem dX6_lowestOf_16 : decode cX6_lowestOf 16 = .ok (.iload_n 2, 1) := by decide +kernel
theorem dX6_lowestOf_17 : decode cX6_lowestOf 17 = .ok (.ireturn, 1) := by decide +kernel
theorem dX6_lowestOf_18 : decode cX6_lowestOf 18 = .ok (.iinc 2 1, 3) := by decide +kernel
theorem dX6_lowestOf_21 : decode cX6_lowestOf 21 = .ok (.goto (-19), 3) := by decide +kernel
theorem dX6_lowestOf_24 : decode cX6_lowestOf 24 = .ok (.iconst (-1), 1) := by decide +kernel
theorem dX6_lowestOf_25 : decode cX6_lowestOf 25 = .ok (.ireturn, 1) := by decide +kernel
set_option maxRecDepth 20000 in
theorem ggX6_thirdsOf_X6_holds : GoodIn wsX6_thirdsOf wsX6_holds := goodIn_r _ [4] (by decide +kernel) (by decide +kernel)
set_option maxRecDepth 20000 in
theorem gX6_thirdsOf_X6_holds : GoodIn wsX6_thirdsOf (va_wsS RX6 179 yX6_holds wsX6_holds) := goodIn_app (goodIn_of _ (by decide +kernel)) ggX6_thirdsOf_X6_holds
set_option maxRecDepth 20000 in
theorem ggX6_thirdsOf_X6_worth : GoodIn wsX6_thirdsOf wsX6_worth := goodIn_r _ [7, 8, 9, 3, 10] (by decide +kernel) (by decide +kernel)
set_option maxRecDepth 20000 in
theorem gX6_thirdsOf_X6_worth : GoodIn wsX6_thirdsOf (va_wsS RX6 254 yX6_worth wsX6_worth) := goodIn_app (goodIn_of _ (by decide +kernel)) ggX6_thirdsOf_X6_worth
theorem dX6_thirdsOf_0 : decode cX6_thirdsOf 0 = .ok (.iconst 0, 1) := by decide +kernel
theorem dX6_thirdsOf_1 : decode cX6_thirdsOf 1 = .ok (.istore_n 2, 1) := by decide +kernel
theorem dX6_thirdsOf_2 : decode cX6_thirdsOf 2 = .ok (.iconst 0, 1) := by decide +kernel
theorem dX6_thirdsOf_3 : decode cX6_thirdsOf 3 = .ok (.istore_n 3, 1) := by decide +kernel
theorem dX6_thirdsOf_4 : decode cX6_thirdsOf 4 = .ok (.iload_n 3, 1) := by decide +kernel
theorem dX6_thirdsOf_5 : decode cX6_thirdsOf 5 = .ok (.bipush 54, 2) := by decide +kernel
theorem dX6_thirdsOf_7 : decode cX6_thirdsOf 7 = .ok (.if_icmp .ge 28, 3) := by decide +kernel
theorem dX6_thirdsOf_10 : decode cX6_thirdsOf 10 = .ok (.lload_n 0, 1) := by decide +kernel
theorem dX6_thirdsOf_11 : decode cX6_thirdsOf 11 = .ok (.iload_n 3, 1) := by decide +kernel
theorem dX6_thirdsOf_12 : decode cX6_thirdsOf 12 = .ok (.invokestatic 179, 3) := by decide +kernel
theorem dX6_thirdsOf_15 : decode cX6_thirdsOf 15 = .ok (.ifCond .eq 14, 3) := by decide +kernel
theorem dX6_thirdsOf_18 : decode cX6_thirdsOf 18 = .ok (.iload_n 2, 1) := by decide +kernel
theorem dX6_thirdsOf_19 : decode cX6_thirdsOf 19 = .ok (.iconst 3, 1) := by decide +kernel
theorem dX6_thirdsOf_20 : decode cX6_thirdsOf 20 = .ok (.iload_n 3, 1) := by decide +kernel
theorem dX6_thirdsOf_21 : decode cX6_thirdsOf 21 = .ok (.invokestatic 254, 3) := by decide +kernel
theorem dX6_thirdsOf_24 : decode cX6_thirdsOf 24 = .ok (.imul, 1) := by decide +kernel
theorem dX6_thirdsOf_25 : decode cX6_thirdsOf 25 = .ok (.iconst 2, 1) := by decide +kernel
theorem dX6_thirdsOf_26 : decode cX6_thirdsOf 26 = .ok (.isub, 1) := by decide +kernel
theorem dX6_thirdsOf_27 : decode cX6_thirdsOf 27 = .ok (.iadd, 1) := by decide +kernel
theorem dX6_thirdsOf_28 : decode cX6_thirdsOf 28 = .ok (.istore_n 2, 1) := by decide +kernel
theorem dX6_thirdsOf_29 : decode cX6_thirdsOf 29 = .ok (.iinc 3 1, 3) := by decide +kernel
theorem dX6_thirdsOf_32 : decode cX6_thirdsOf 32 = .ok (.goto (-28), 3) := by decide +kernel
theorem dX6_thirdsOf_35 : decode cX6_thirdsOf 35 = .ok (.iload_n 2, 1) := by decide +kernel
theorem dX6_thirdsOf_36 : decode cX6_thirdsOf 36 = .ok (.ireturn, 1) := by decide +kernel
set_option maxRecDepth 20000 in
theorem ggX6_packPointsOf_X6_holds : GoodIn wsX6_packPointsOf wsX6_holds := goodIn_r _ [4] (by decide +kernel) (by decide +kernel)
set_option maxRecDepth 20000 in
theorem gX6_packPointsOf_X6_holds : GoodIn wsX6_packPointsOf (va_wsS RX6 179 yX6_holds wsX6_holds) := goodIn_app (goodIn_of _ (by decide +kernel)) ggX6_packPointsOf_X6_holds
set_option maxRecDepth 20000 in
theorem ggX6_packPointsOf_X6_worth : GoodIn wsX6_packPointsOf wsX6_worth := goodIn_r _ [7, 8, 9, 3, 10] (by decide +kernel) (by decide +kernel)
set_option maxRecDepth 20000 in
theorem gX6_packPointsOf_X6_worth : GoodIn wsX6_packPointsOf (va_wsS RX6 254 yX6_worth wsX6_worth) := goodIn_app (goodIn_of _ (by decide +kernel)) ggX6_packPointsOf_X6_worth
theorem dX6_packPointsOf_0 : decode cX6_packPointsOf 0 = .ok (.iconst 0, 1) := by decide +kernel
theorem dX6_packPointsOf_1 : decode cX6_packPointsOf 1 = .ok (.istore_n 2, 1) := by decide +kernel
theorem dX6_packPointsOf_2 : decode cX6_packPointsOf 2 = .ok (.iconst 0, 1) := by decide +kernel
theorem dX6_packPointsOf_3 : decode cX6_packPointsOf 3 = .ok (.istore_n 3, 1) := by decide +kernel
theorem dX6_packPointsOf_4 : decode cX6_packPointsOf 4 = .ok (.iconst 0, 1) := by decide +kernel
theorem dX6_packPointsOf_5 : decode cX6_packPointsOf 5 = .ok (.istore 4, 2) := by decide +kernel
theorem dX6_packPointsOf_7 : decode cX6_packPointsOf 7 = .ok (.iconst 0, 1) := by decide +kernel
theorem dX6_packPointsOf_8 : decode cX6_packPointsOf 8 = .ok (.istore 5, 2) := by decide +kernel
theorem dX6_packPointsOf_10 : decode cX6_packPointsOf 10 = .ok (.iload 5, 2) := by decide +kernel
theorem dX6_packPointsOf_12 : decode cX6_packPointsOf 12 = .ok (.bipush 54, 2) := by decide +kernel
theorem dX6_packPointsOf_14 : decode cX6_packPointsOf 14 = .ok (.if_icmp .ge 48, 3) := by decide +kernel
theorem dX6_packPointsOf_17 : decode cX6_packPointsOf 17 = .ok (.lload_n 0, 1) := by decide +kernel
theorem dX6_packPointsOf_18 : decode cX6_packPointsOf 18 = .ok (.iload 5, 2) := by decide +kernel
theorem dX6_packPointsOf_20 : decode cX6_packPointsOf 20 = .ok (.invokestatic 179, 3) := by decide +kernel
theorem dX6_packPointsOf_23 : decode cX6_packPointsOf 23 = .ok (.ifCond .eq 16, 3) := by decide +kernel
theorem dX6_packPointsOf_26 : decode cX6_packPointsOf 26 = .ok (.iload 4, 2) := by decide +kernel
theorem dX6_packPointsOf_28 : decode cX6_packPointsOf 28 = .ok (.iload 5, 2) := by decide +kernel
theorem dX6_packPointsOf_30 : decode cX6_packPointsOf 30 = .ok (.invokestatic 254, 3) := by decide +kernel
theorem dX6_packPointsOf_33 : decode cX6_packPointsOf 33 = .ok (.iadd, 1) := by decide +kernel
theorem dX6_packPointsOf_34 : decode cX6_packPointsOf 34 = .ok (.istore 4, 2) := by decide +kernel
theorem dX6_packPointsOf_36 : decode cX6_packPointsOf 36 = .ok (.iinc 3 1, 3) := by decide +kernel
theorem dX6_packPointsOf_39 : decode cX6_packPointsOf 39 = .ok (.iload_n 3, 1) := by decide +kernel
theorem dX6_packPointsOf_40 : decode cX6_packPointsOf 40 = .ok (.iconst 3, 1) := by decide +kernel
theorem dX6_packPointsOf_41 : decode cX6_packPointsOf 41 = .ok (.if_icmp .ne 15, 3) := by decide +kernel
theorem dX6_packPointsOf_44 : decode cX6_packPointsOf 44 = .ok (.iload_n 2, 1) := by decide +kernel
theorem dX6_packPointsOf_45 : decode cX6_packPointsOf 45 = .ok (.iload 4, 2) := by decide +kernel
theorem dX6_packPointsOf_47 : decode cX6_packPointsOf 47 = .ok (.iconst 2, 1) := by decide +kernel
theorem dX6_packPointsOf_48 : decode cX6_packPointsOf 48 = .ok (.isub, 1) := by decide +kernel
theorem dX6_packPointsOf_49 : decode cX6_packPointsOf 49 = .ok (.iadd, 1) := by decide +kernel
theorem dX6_packPointsOf_50 : decode cX6_packPointsOf 50 = .ok (.istore_n 2, 1) := by decide +kernel
theorem dX6_packPointsOf_51 : decode cX6_packPointsOf 51 = .ok (.iconst 0, 1) := by decide +kernel
theorem dX6_packPointsOf_52 : decode cX6_packPointsOf 52 = .ok (.istore_n 3, 1) := by decide +kernel
theorem dX6_packPointsOf_53 : decode cX6_packPointsOf 53 = .ok (.iconst 0, 1) := by decide +kernel
theorem dX6_packPointsOf_54 : decode cX6_packPointsOf 54 = .ok (.istore 4, 2) := by decide +kernel
theorem dX6_packPointsOf_56 : decode cX6_packPointsOf 56 = .ok (.iinc 5 1, 3) := by decide +kernel
theorem dX6_packPointsOf_59 : decode cX6_packPointsOf 59 = .ok (.goto (-49), 3) := by decide +kernel
theorem dX6_packPointsOf_62 : decode cX6_packPointsOf 62 = .ok (.iload_n 2, 1) := by decide +kernel
theorem dX6_packPointsOf_63 : decode cX6_packPointsOf 63 = .ok (.ireturn, 1) := by decide +kernel
theorem dJ6_bitCount_0f7a4_0 : decode cJ6_bitCount_0f7a4 0 = .ok (.iload_n 0, 1) := by decide +kernel
theorem dJ6_bitCount_0f7a4_1 : decode cJ6_bitCount_0f7a4 1 = .ok (.iload_n 0, 1) := by decide +kernel
theorem dJ6_bitCount_0f7a4_2 : decode cJ6_bitCount_0f7a4 2 = .ok (.iconst 1, 1) := by decide +kernel
theorem dJ6_bitCount_0f7a4_3 : decode cJ6_bitCount_0f7a4 3 = .ok (.iushr, 1) := by decide +kernel
theorem dJ6_bitCount_0f7a4_4 : decode cJ6_bitCount_0f7a4 4 = .ok (.ldc_w 265, 3) := by decide +kernel
theorem dJ6_bitCount_0f7a4_7 : decode cJ6_bitCount_0f7a4 7 = .ok (.iand, 1) := by decide +kernel
theorem dJ6_bitCount_0f7a4_8 : decode cJ6_bitCount_0f7a4 8 = .ok (.isub, 1) := by decide +kernel
theorem dJ6_bitCount_0f7a4_9 : decode cJ6_bitCount_0f7a4 9 = .ok (.istore_n 0, 1) := by decide +kernel
theorem dJ6_bitCount_0f7a4_10 : decode cJ6_bitCount_0f7a4 10 = .ok (.iload_n 0, 1) := by decide +kernel
theorem dJ6_bitCount_0f7a4_11 : decode cJ6_bitCount_0f7a4 11 = .ok (.ldc_w 266, 3) := by decide +kernel
theorem dJ6_bitCount_0f7a4_14 : decode cJ6_bitCount_0f7a4 14 = .ok (.iand, 1) := by decide +kernel
theorem dJ6_bitCount_0f7a4_15 : decode cJ6_bitCount_0f7a4 15 = .ok (.iload_n 0, 1) := by decide +kernel
theorem dJ6_bitCount_0f7a4_16 : decode cJ6_bitCount_0f7a4 16 = .ok (.iconst 2, 1) := by decide +kernel
theorem dJ6_bitCount_0f7a4_17 : decode cJ6_bitCount_0f7a4 17 = .ok (.iushr, 1) := by decide +kernel
theorem dJ6_bitCount_0f7a4_18 : decode cJ6_bitCount_0f7a4 18 = .ok (.ldc_w 266, 3) := by decide +kernel
theorem dJ6_bitCount_0f7a4_21 : decode cJ6_bitCount_0f7a4 21 = .ok (.iand, 1) := by decide +kernel
theorem dJ6_bitCount_0f7a4_22 : decode cJ6_bitCount_0f7a4 22 = .ok (.iadd, 1) := by decide +kernel
theorem dJ6_bitCount_0f7a4_23 : decode cJ6_bitCount_0f7a4 23 = .ok (.istore_n 0, 1) := by decide +kernel
theorem dJ6_bitCount_0f7a4_24 : decode cJ6_bitCount_0f7a4 24 = .ok (.iload_n 0, 1) := by decide +kernel
theorem dJ6_bitCount_0f7a4_25 : decode cJ6_bitCount_0f7a4 25 = .ok (.iload_n 0, 1) := by decide +kernel
theorem dJ6_bitCount_0f7a4_26 : decode cJ6_bitCount_0f7a4 26 = .ok (.iconst 4, 1) := by decide +kernel
theorem dJ6_bitCount_0f7a4_27 : decode cJ6_bitCount_0f7a4 27 = .ok (.iushr, 1) := by decide +kernel
theorem dJ6_bitCount_0f7a4_28 : decode cJ6_bitCount_0f7a4 28 = .ok (.iadd, 1) := by decide +kernel
theorem dJ6_bitCount_0f7a4_29 : decode cJ6_bitCount_0f7a4 29 = .ok (.ldc_w 267, 3) := by decide +kernel
theorem dJ6_bitCount_0f7a4_32 : decode cJ6_bitCount_0f7a4 32 = .ok (.iand, 1) := by decide +kernel
theorem dJ6_bitCount_0f7a4_33 : decode cJ6_bitCount_0f7a4 33 = .ok (.istore_n 0, 1) := by decide +kernel
theorem dJ6_bitCount_0f7a4_34 : decode cJ6_bitCount_0f7a4 34 = .ok (.iload_n 0, 1) := by decide +kernel
theorem dJ6_bitCount_0f7a4_35 : decode cJ6_bitCount_0f7a4 35 = .ok (.iload_n 0, 1) := by decide +kernel
theorem dJ6_bitCount_0f7a4_36 : decode cJ6_bitCount_0f7a4 36 = .ok (.bipush 8, 2) := by decide +kernel
theorem dJ6_bitCount_0f7a4_38 : decode cJ6_bitCount_0f7a4 38 = .ok (.iushr, 1) := by decide +kernel
theorem dJ6_bitCount_0f7a4_39 : decode cJ6_bitCount_0f7a4 39 = .ok (.iadd, 1) := by decide +kernel
theorem dJ6_bitCount_0f7a4_40 : decode cJ6_bitCount_0f7a4 40 = .ok (.istore_n 0, 1) := by decide +kernel
theorem dJ6_bitCount_0f7a4_41 : decode cJ6_bitCount_0f7a4 41 = .ok (.iload_n 0, 1) := by decide +kernel
theorem dJ6_bitCount_0f7a4_42 : decode cJ6_bitCount_0f7a4 42 = .ok (.iload_n 0, 1) := by decide +kernel
theorem dJ6_bitCount_0f7a4_43 : decode cJ6_bitCount_0f7a4 43 = .ok (.bipush 16, 2) := by decide +kernel
theorem dJ6_bitCount_0f7a4_45 : decode cJ6_bitCount_0f7a4 45 = .ok (.iushr, 1) := by decide +kernel
theorem dJ6_bitCount_0f7a4_46 : decode cJ6_bitCount_0f7a4 46 = .ok (.iadd, 1) := by decide +kernel
theorem dJ6_bitCount_0f7a4_47 : decode cJ6_bitCount_0f7a4 47 = .ok (.istore_n 0, 1) := by decide +kernel
theorem dJ6_bitCount_0f7a4_48 : decode cJ6_bitCount_0f7a4 48 = .ok (.iload_n 0, 1) := by decide +kernel
theorem dJ6_bitCount_0f7a4_49 : decode cJ6_bitCount_0f7a4 49 = .ok (.bipush 63, 2) := by decide +kernel
theorem dJ6_bitCount_0f7a4_51 : decode cJ6_bitCount_0f7a4 51 = .ok (.iand, 1) := by decide +kernel
theorem dJ6_bitCount_0f7a4_52 : decode cJ6_bitCount_0f7a4 52 = .ok (.ireturn, 1) := by decide +kernel
theorem dJ9_abs_0f7a4_0 : decode cJ9_abs_0f7a4 0 = .ok (.iload_n 0, 1) := by decide +kernel
theorem dJ9_abs_0f7a4_1 : decode cJ9_abs_0f7a4 1 = .ok (.ifCond .ge 8, 3) := by decide +kernel
theorem dJ9_abs_0f7a4_4 : decode cJ9_abs_0f7a4 4 = .ok (.iload_n 0, 1) := by decide +kernel
theorem dJ9_abs_0f7a4_5 : decode cJ9_abs_0f7a4 5 = .ok (.ineg, 1) := by decide +kernel
theorem dJ9_abs_0f7a4_6 : decode cJ9_abs_0f7a4 6 = .ok (.goto 4, 3) := by decide +kernel
theorem dJ9_abs_0f7a4_9 : decode cJ9_abs_0f7a4 9 = .ok (.iload_n 0, 1) := by decide +kernel
theorem dJ9_abs_0f7a4_10 : decode cJ9_abs_0f7a4 10 = .ok (.ireturn, 1) := by decide +kernel
theorem dJ9_max_7cf53_0 : decode cJ9_max_7cf53 0 = .ok (.iload_n 0, 1) := by decide +kernel
theorem dJ9_max_7cf53_1 : decode cJ9_max_7cf53 1 = .ok (.iload_n 1, 1) := by decide +kernel
theorem dJ9_max_7cf53_2 : decode cJ9_max_7cf53 2 = .ok (.if_icmp .lt 7, 3) := by decide +kernel
theorem dJ9_max_7cf53_5 : decode cJ9_max_7cf53 5 = .ok (.iload_n 0, 1) := by decide +kernel
theorem dJ9_max_7cf53_6 : decode cJ9_max_7cf53 6 = .ok (.goto 4, 3) := by decide +kernel
theorem dJ9_max_7cf53_9 : decode cJ9_max_7cf53 9 = .ok (.iload_n 1, 1) := by decide +kernel
theorem dJ9_max_7cf53_10 : decode cJ9_max_7cf53 10 = .ok (.ireturn, 1) := by decide +kernel
end
section
theorem dX7_init_0 : decode cX7_init 0 = .ok (.aload_n 0, 1) := by decide +kernel
theorem dX7_init_1 : decode cX7_init 1 = .ok (.invokespecial 1, 3) := by decide +kernel
theorem dX7_init_4 : decode cX7_init 4 = .ok (.aload_n 0, 1) := by decide +kernel
theorem dX7_init_5 : decode cX7_init 5 = .ok (.iconst 0, 1) := by decide +kernel
theorem dX7_init_6 : decode cX7_init 6 = .ok (.putfield 9, 3) := by decide +kernel
theorem dX7_init_9 : decode cX7_init 9 = .ok (.aload_n 0, 1) := by decide +kernel
theorem dX7_init_10 : decode cX7_init 10 = .ok (.iconst (-1), 1) := by decide +kernel
theorem dX7_init_11 : decode cX7_init 11 = .ok (.putfield 13, 3) := by decide +kernel
theorem dX7_init_14 : decode cX7_init 14 = .ok (.aload_n 0, 1) := by decide +kernel
theorem dX7_init_15 : decode cX7_init 15 = .ok (.bipush 54, 2) := by decide +kernel
theorem dX7_init_17 : decode cX7_init 17 = .ok (.newarray .int, 2) := by decide +kernel
theorem dX7_init_19 : decode cX7_init 19 = .ok (.putfield 16, 3) := by decide +kernel
theorem dX7_init_22 : decode cX7_init 22 = .ok (.aload_n 0, 1) := by decide +kernel
theorem dX7_init_23 : decode cX7_init 23 = .ok (.iconst 4, 1) := by decide +kernel
theorem dX7_init_24 : decode cX7_init 24 = .ok (.newarray .long, 2) := by decide +kernel
theorem dX7_init_26 : decode cX7_init 26 = .ok (.putfield 20, 3) := by decide +kernel
theorem dX7_init_29 : decode cX7_init 29 = .ok (.aload_n 0, 1) := by decide +kernel
theorem dX7_init_30 : decode cX7_init 30 = .ok (.iconst 4, 1) := by decide +kernel
theorem dX7_init_31 : decode cX7_init 31 = .ok (.newarray .boolean, 2) := by decide +kernel
theorem dX7_init_33 : decode cX7_init 33 = .ok (.putfield 24, 3) := by decide +kernel
theorem dX7_init_36 : decode cX7_init 36 = .ok (.aload_n 0, 1) := by decide +kernel
theorem dX7_init_37 : decode cX7_init 37 = .ok (.iconst (-1), 1) := by decide +kernel
theorem dX7_init_38 : decode cX7_init 38 = .ok (.putfield 28, 3) := by decide +kernel
theorem dX7_init_41 : decode cX7_init 41 = .ok (.aload_n 0, 1) := by decide +kernel
theorem dX7_init_42 : decode cX7_init 42 = .ok (.iconst (-1), 1) := by decide +kernel
theorem dX7_init_43 : decode cX7_init 43 = .ok (.putfield 31, 3) := by decide +kernel
theorem dX7_init_46 : decode cX7_init 46 = .ok (.aload_n 0, 1) := by decide +kernel
theorem dX7_init_47 : decode cX7_init 47 = .ok (.iconst (-1), 1) := by decide +kernel
theorem dX7_init_48 : decode cX7_init 48 = .ok (.putfield 34, 3) := by decide +kernel
theorem dX7_init_51 : decode cX7_init 51 = .ok (.aload_n 0, 1) := by decide +kernel
theorem dX7_init_52 : decode cX7_init 52 = .ok (.iconst (-1), 1) := by decide +kernel
theorem dX7_init_53 : decode cX7_init 53 = .ok (.putfield 37, 3) := by decide +kernel
theorem dX7_init_56 : decode cX7_init 56 = .ok (.aload_n 0, 1) := by decide +kernel
theorem dX7_init_57 : decode cX7_init 57 = .ok (.iconst (-1), 1) := by decide +kernel
theorem dX7_init_58 : decode cX7_init 58 = .ok (.putfield 40, 3) := by decide +kernel
theorem dX7_init_61 : decode cX7_init 61 = .ok (.aload_n 0, 1) := by decide +kernel
theorem dX7_init_62 : decode cX7_init 62 = .ok (.iconst 2, 1) := by decide +kernel
theorem dX7_init_63 : decode cX7_init 63 = .ok (.newarray .boolean, 2) := by decide +kernel
theorem dX7_init_65 : decode cX7_init 65 = .ok (.putfield 43, 3) := by decide +kernel
theorem dX7_init_68 : decode cX7_init 68 = .ok (.aload_n 0, 1) := by decide +kernel
theorem dX7_init_69 : decode cX7_init 69 = .ok (.iconst 4, 1) := by decide +kernel
theorem dX7_init_70 : decode cX7_init 70 = .ok (.newarray .int, 2) := by decide +kernel
theorem dX7_init_72 : decode cX7_init 72 = .ok (.putfield 46, 3) := by decide +kernel
theorem dX7_init_75 : decode cX7_init 75 = .ok (.aload_n 0, 1) := by decide +kernel
theorem dX7_init_76 : decode cX7_init 76 = .ok (.iconst 4, 1) := by decide +kernel
theorem dX7_init_77 : decode cX7_init 77 = .ok (.newarray .long, 2) := by decide +kernel
theorem dX7_init_79 : decode cX7_init 79 = .ok (.putfield 49, 3) := by decide +kernel
theorem dX7_init_82 : decode cX7_init 82 = .ok (.aload_n 0, 1) := by decide +kernel
theorem dX7_init_83 : decode cX7_init 83 = .ok (.iconst 4, 1) := by decide +kernel
theorem dX7_init_84 : decode cX7_init 84 = .ok (.newarray .int, 2) := by decide +kernel
theorem dX7_init_86 : decode cX7_init 86 = .ok (.putfield 52, 3) := by decide +kernel
theorem dX7_init_89 : decode cX7_init 89 = .ok (.aload_n 0, 1) := by decide +kernel
theorem dX7_init_90 : decode cX7_init 90 = .ok (.iconst 4, 1) := by decide +kernel
theorem dX7_init_91 : decode cX7_init 91 = .ok (.newarray .int, 2) := by decide +kernel
theorem dX7_init_93 : decode cX7_init 93 = .ok (.putfield 55, 3) := by decide +kernel
theorem dX7_init_96 : decode cX7_init 96 = .ok (.return_, 1) := by decide +kernel
theorem dX7_thrown_0 : decode cX7_thrown 0 = .ok (.aload_n 0, 1) := by decide +kernel
theorem dX7_thrown_1 : decode cX7_thrown 1 = .ok (.getfield 58, 3) := by decide +kernel
theorem dX7_thrown_4 : decode cX7_thrown 4 = .ok (.ireturn, 1) := by decide +kernel
theorem dX7_isFine_0 : decode cX7_isFine 0 = .ok (.aload_n 0, 1) := by decide +kernel
theorem dX7_isFine_1 : decode cX7_isFine 1 = .ok (.iload_n 1, 1) := by decide +kernel
theorem dX7_isFine_2 : decode cX7_isFine 2 = .ok (.putfield 58, 3) := by decide +kernel
theorem dX7_isFine_5 : decode cX7_isFine 5 = .ok (.iload_n 1, 1) := by decide +kernel
theorem dX7_isFine_6 : decode cX7_isFine 6 = .ok (.ifCond .ne 7, 3) := by decide +kernel
theorem dX7_isFine_9 : decode cX7_isFine 9 = .ok (.iconst 1, 1) := by decide +kernel
theorem dX7_isFine_10 : decode cX7_isFine 10 = .ok (.goto 4, 3) := by decide +kernel
theorem dX7_isFine_13 : decode cX7_isFine 13 = .ok (.iconst 0, 1) := by decide +kernel
theorem dX7_isFine_14 : decode cX7_isFine 14 = .ok (.ireturn, 1) := by decide +kernel
theorem dX7_isIn_0 : decode cX7_isIn 0 = .ok (.iload_n 0, 1) := by decide +kernel
theorem dX7_isIn_1 : decode cX7_isIn 1 = .ok (.iload_n 1, 1) := by decide +kernel
theorem dX7_isIn_2 : decode cX7_isIn 2 = .ok (.if_icmp .lt 12, 3) := by decide +kernel
theorem dX7_isIn_5 : decode cX7_isIn 5 = .ok (.iload_n 0, 1) := by decide +kernel
theorem dX7_isIn_6 : decode cX7_isIn 6 = .ok (.iload_n 2, 1) := by decide +kernel
theorem dX7_isIn_7 : decode cX7_isIn 7 = .ok (.if_icmp .gt 7, 3) := by decide +kernel
theorem dX7_isIn_10 : decode cX7_isIn 10 = .ok (.iconst 1, 1) := by decide +kernel
theorem dX7_isIn_11 : decode cX7_isIn 11 = .ok (.goto 4, 3) := by decide +kernel
theorem dX7_isIn_14 : decode cX7_isIn 14 = .ok (.iconst 0, 1) := by decide +kernel
theorem dX7_isIn_15 : decode cX7_isIn 15 = .ok (.ireturn, 1) := by decide +kernel
set_option maxRecDepth 20000 in
theorem ggX7_isPlayer_X7_isIn : GoodIn wsX7_isPlayer wsX7_isIn := goodIn_r _ [4] (by decide +kernel) (by decide +kernel)
set_option maxRecDepth 20000 in
theorem gX7_isPlayer_X7_isIn : GoodIn wsX7_isPlayer (va_wsS RX7 61 yX7_isIn wsX7_isIn) := goodIn_app (goodIn_of _ (by decide +kernel)) ggX7_isPlayer_X7_isIn
theorem dX7_isPlayer_0 : decode cX7_isPlayer 0 = .ok (.iload_n 0, 1) := by decide +kernel
theorem dX7_isPlayer_1 : decode cX7_isPlayer 1 = .ok (.iconst 0, 1) := by decide +kernel
theorem dX7_isPlayer_2 : decode cX7_isPlayer 2 = .ok (.iconst 3, 1) := by decide +kernel
theorem dX7_isPlayer_3 : decode cX7_isPlayer 3 = .ok (.invokestatic 61, 3) := by decide +kernel
theorem dX7_isPlayer_6 : decode cX7_isPlayer 6 = .ok (.ireturn, 1) := by decide +kernel
set_option maxRecDepth 20000 in
theorem ggX7_isCard_X7_isIn : GoodIn wsX7_isCard wsX7_isIn := goodIn_r _ [4] (by decide +kernel) (by decide +kernel)
set_option maxRecDepth 20000 in
theorem gX7_isCard_X7_isIn : GoodIn wsX7_isCard (va_wsS RX7 61 yX7_isIn wsX7_isIn) := goodIn_app (goodIn_of _ (by decide +kernel)) ggX7_isCard_X7_isIn
theorem dX7_isCard_0 : decode cX7_isCard 0 = .ok (.iload_n 0, 1) := by decide +kernel
theorem dX7_isCard_1 : decode cX7_isCard 1 = .ok (.iconst 0, 1) := by decide +kernel
theorem dX7_isCard_2 : decode cX7_isCard 2 = .ok (.bipush 53, 2) := by decide +kernel
theorem dX7_isCard_4 : decode cX7_isCard 4 = .ok (.invokestatic 61, 3) := by decide +kernel
theorem dX7_isCard_7 : decode cX7_isCard 7 = .ok (.ireturn, 1) := by decide +kernel
theorem dX7_suit_0 : decode cX7_suit 0 = .ok (.iload_n 0, 1) := by decide +kernel
theorem dX7_suit_1 : decode cX7_suit 1 = .ok (.bipush 32, 2) := by decide +kernel
theorem dX7_suit_3 : decode cX7_suit 3 = .ok (.if_icmp .ge 10, 3) := by decide +kernel
theorem dX7_suit_6 : decode cX7_suit 6 = .ok (.iload_n 0, 1) := by decide +kernel
theorem dX7_suit_7 : decode cX7_suit 7 = .ok (.bipush 8, 2) := by decide +kernel
theorem dX7_suit_9 : decode cX7_suit 9 = .ok (.idiv, 1) := by decide +kernel
theorem dX7_suit_10 : decode cX7_suit 10 = .ok (.goto 4, 3) := by decide +kernel
theorem dX7_suit_13 : decode cX7_suit 13 = .ok (.iconst 4, 1) := by decide +kernel
theorem dX7_suit_14 : decode cX7_suit 14 = .ok (.ireturn, 1) := by decide +kernel
theorem dX7_worth_0 : decode cX7_worth 0 = .ok (.iload_n 0, 1) := by decide +kernel
theorem dX7_worth_1 : decode cX7_worth 1 = .ok (.bipush 32, 2) := by decide +kernel
theorem dX7_worth_3 : decode cX7_worth 3 = .ok (.if_icmp .lt 21, 3) := by decide +kernel
theorem dX7_worth_6 : decode cX7_worth 6 = .ok (.iload_n 0, 1) := by decide +kernel
theorem dX7_worth_7 : decode cX7_worth 7 = .ok (.bipush 32, 2) := by decide +kernel
theorem dX7_worth_9 : decode cX7_worth 9 = .ok (.if_icmp .eq 9, 3) := by decide +kernel
theorem dX7_worth_12 : decode cX7_worth 12 = .ok (.iload_n 0, 1) := by decide +kernel
theorem dX7_worth_13 : decode cX7_worth 13 = .ok (.bipush 52, 2) := by decide +kernel
theorem dX7_worth_15 : decode cX7_worth 15 = .ok (.if_icmp .lt 7, 3) := by decide +kernel
theorem dX7_worth_18 : decode cX7_worth 18 = .ok (.iconst 5, 1) := by decide +kernel
theorem dX7_worth_19 : decode cX7_worth 19 = .ok (.goto 4, 3) := by decide +kernel
theorem dX7_worth_22 : decode cX7_worth 22 = .ok (.iconst 1, 1) := by decide +kernel
theorem dX7_worth_23 : decode cX7_worth 23 = .ok (.ireturn, 1) := by decide +kernel
theorem dX7_worth_24 : decode cX7_worth 24 = .ok (.iload_n 0, 1) := by decide +kernel
theorem dX7_worth_25 : decode cX7_worth 25 = .ok (.bipush 8, 2) := by decide +kernel
theorem dX7_worth_27 : decode cX7_worth 27 = .ok (.irem, 1) := by decide +kernel
theorem dX7_worth_28 : decode cX7_worth 28 = .ok (.iconst 3, 1) := by decide +kernel
theorem dX7_worth_29 : decode cX7_worth 29 = .ok (.if_icmp .le 12, 3) := by decide +kernel
theorem dX7_worth_32 : decode cX7_worth 32 = .ok (.iload_n 0, 1) := by decide +kernel
theorem dX7_worth_33 : decode cX7_worth 33 = .ok (.bipush 8, 2) := by decide +kernel
theorem dX7_worth_35 : decode cX7_worth 35 = .ok (.irem, 1) := by decide +kernel
theorem dX7_worth_36 : decode cX7_worth 36 = .ok (.iconst 2, 1) := by decide +kernel
theorem dX7_worth_37 : decode cX7_worth 37 = .ok (.isub, 1) := by decide +kernel
theorem dX7_worth_38 : decode cX7_worth 38 = .ok (.goto 4, 3) := by decide +kernel
theorem dX7_worth_41 : decode cX7_worth 41 = .ok (.iconst 1, 1) := by decide +kernel
theorem dX7_worth_42 : decode cX7_worth 42 = .ok (.ireturn, 1) := by decide +kernel
theorem dX7_has_0 : decode cX7_has 0 = .ok (.lload_n 0, 1) := by decide +kernel
theorem dX7_has_1 : decode cX7_has 1 = .ok (.iload_n 2, 1) := by decide +kernel
theorem dX7_has_2 : decode cX7_has 2 = .ok (.lshr, 1) := by decide +kernel
theorem dX7_has_3 : decode cX7_has 3 = .ok (.lconst 1, 1) := by decide +kernel
theorem dX7_has_4 : decode cX7_has 4 = .ok (.land, 1) := by decide +kernel
theorem dX7_has_5 : decode cX7_has 5 = .ok (.lconst 1, 1) := by decide +kernel
theorem dX7_has_6 : decode cX7_has 6 = .ok (.lcmp, 1) := by decide +kernel
theorem dX7_has_7 : decode cX7_has 7 = .ok (.ifCond .ne 7, 3) := by decide +kernel
theorem dX7_has_10 : decode cX7_has 10 = .ok (.iconst 1, 1) := by decide +kernel
theorem dX7_has_11 : decode cX7_has 11 = .ok (.goto 4, 3) := by decide +kernel
theorem dX7_has_14 : decode cX7_has 14 = .ok (.iconst 0, 1) := by decide +kernel
theorem dX7_has_15 : decode cX7_has 15 = .ok (.ireturn, 1) := by decide +kernel
theorem dX7_bit_0 : decode cX7_bit 0 = .ok (.lconst 1, 1) := by decide +kernel
theorem dX7_bit_1 : decode cX7_bit 1 = .ok (.iload_n 0, 1) := by decide +kernel
theorem dX7_bit_2 : decode cX7_bit 2 = .ok (.lshl, 1) := by decide +kernel
theorem dX7_bit_3 : decode cX7_bit 3 = .ok (.lreturn, 1) := by decide +kernel
theorem dX7_king_0 : decode cX7_king 0 = .ok (.bipush 8, 2) := by decide +kernel
theorem dX7_king_2 : decode cX7_king 2 = .ok (.aload_n 0, 1) := by decide +kernel
theorem dX7_king_3 : decode cX7_king 3 = .ok (.getfield 34, 3) := by decide +kernel
theorem dX7_king_6 : decode cX7_king 6 = .ok (.imul, 1) := by decide +kernel
theorem dX7_king_7 : decode cX7_king 7 = .ok (.bipush 7, 2) := by decide +kernel
theorem dX7_king_9 : decode cX7_king 9 = .ok (.iadd, 1) := by decide +kernel
theorem dX7_king_10 : decode cX7_king 10 = .ok (.ireturn, 1) := by decide +kernel
set_option maxRecDepth 20000 in
theorem ggX7_deal_X7_isIn : GoodIn wsX7_deal wsX7_isIn := goodIn_r _ [28] (by decide +kernel) (by decide +kernel)
set_option maxRecDepth 20000 in
theorem gX7_deal_X7_isIn : GoodIn wsX7_deal (va_wsS RX7 61 yX7_isIn wsX7_isIn) := goodIn_app (goodIn_of _ (by decide +kernel)) ggX7_deal_X7_isIn
set_option maxRecDepth 20000 in
theorem ggX7_deal_X7_isFine : GoodIn wsX7_deal wsX7_isFine := goodIn_r _ [32, 33, 37, 38, 39, 40, 41, 42, 43, 44, 45, 46, 47, 48, 49, 50, 51, 52, 53, 54, 55, 56, 57, 58, 59, 60, 61, 62, 63, 64, 65] (by decide +kernel) (by decide +kernel)
set_option maxRecDepth 20000 in
theorem gX7_deal_X7_isFine : GoodIn wsX7_deal (wsV RX7 66 RX7 yX7_isFine wsX7_isFine) := goodIn_app (goodIn_of _ (by decide +kernel)) ggX7_deal_X7_isFine
set_option maxRecDepth 20000 in
theorem ggX7_deal_X7_bit : GoodIn wsX7_deal wsX7_bit := goodIn_r _ [36] (by decide +kernel) (by decide +kernel)
set_option maxRecDepth 20000 in
theorem gX7_deal_X7_bit : GoodIn wsX7_deal (va_wsS RX7 77 yX7_bit wsX7_bit) := goodIn_app (goodIn_of _ (by decide +kernel)) ggX7_deal_X7_bit
theorem dX7_deal_0 : decode cX7_deal 0 = .ok (.aload_n 0, 1) := by decide +kernel
theorem dX7_deal_1 : decode cX7_deal 1 = .ok (.iload_n 1, 1) := by decide +kernel
theorem dX7_deal_2 : decode cX7_deal 2 = .ok (.iconst 0, 1) := by decide +kernel
theorem dX7_deal_3 : decode cX7_deal 3 = .ok (.ldc 65, 2) := by decide +kernel
theorem dX7_deal_5 : decode cX7_deal 5 = .ok (.invokestatic 61, 3) := by decide +kernel
theorem dX7_deal_8 : decode cX7_deal 8 = .ok (.ifCond .ne 7, 3) := by decide +kernel
theorem dX7_deal_11 : decode cX7_deal 11 = .ok (.iconst 1, 1) := by decide +kernel
theorem dX7_deal_12 : decode cX7_deal 12 = .ok (.goto 15, 3) := by decide +kernel
theorem dX7_deal_15 : decode cX7_deal 15 = .ok (.aload_n 0, 1) := by decide +kernel
theorem dX7_deal_16 : decode cX7_deal 16 = .ok (.getfield 9, 3) := by decide +kernel
theorem dX7_deal_19 : decode cX7_deal 19 = .ok (.ifCond .eq 7, 3) := by decide +kernel
theorem dX7_deal_22 : decode cX7_deal 22 = .ok (.iconst 2, 1) := by decide +kernel
theorem dX7_deal_23 : decode cX7_deal 23 = .ok (.goto 4, 3) := by decide +kernel
theorem dX7_deal_26 : decode cX7_deal 26 = .ok (.iconst 0, 1) := by decide +kernel
theorem dX7_deal_27 : decode cX7_deal 27 = .ok (.invokevirtual 66, 3) := by decide +kernel
theorem dX7_deal_30 : decode cX7_deal 30 = .ok (.ifCond .ne 5, 3) := by decide +kernel
theorem dX7_deal_33 : decode cX7_deal 33 = .ok (.iconst 0, 1) := by decide +kernel
theorem dX7_deal_34 : decode cX7_deal 34 = .ok (.ireturn, 1) := by decide +kernel
theorem dX7_deal_35 : decode cX7_deal 35 = .ok (.iconst 0, 1) := by decide +kernel
theorem dX7_deal_36 : decode cX7_deal 36 = .ok (.istore_n 2, 1) := by decide +kernel
theorem dX7_deal_37 : decode cX7_deal 37 = .ok (.iload_n 2, 1) := by decide +kernel
theorem dX7_deal_38 : decode cX7_deal 38 = .ok (.bipush 54, 2) := by decide +kernel
theorem dX7_deal_40 : decode cX7_deal 40 = .ok (.if_icmp .ge 16, 3) := by decide +kernel
theorem dX7_deal_43 : decode cX7_deal 43 = .ok (.aload_n 0, 1) := by decide +kernel
theorem dX7_deal_44 : decode cX7_deal 44 = .ok (.getfield 16, 3) := by decide +kernel
theorem dX7_deal_47 : decode cX7_deal 47 = .ok (.iload_n 2, 1) := by decide +kernel
theorem dX7_deal_48 : decode cX7_deal 48 = .ok (.iload_n 2, 1) := by decide +kernel
theorem dX7_deal_49 : decode cX7_deal 49 = .ok (.iastore, 1) := by decide +kernel
theorem dX7_deal_50 : decode cX7_deal 50 = .ok (.iinc 2 1, 3) := by decide +kernel
theorem dX7_deal_53 : decode cX7_deal 53 = .ok (.goto (-16), 3) := by decide +kernel
theorem dX7_deal_56 : decode cX7_deal 56 = .ok (.iload_n 1, 1) := by decide +kernel
theorem dX7_deal_57 : decode cX7_deal 57 = .ok (.istore_n 2, 1) := by decide +kernel
theorem dX7_deal_58 : decode cX7_deal 58 = .ok (.bipush 53, 2) := by decide +kernel
theorem dX7_deal_60 : decode cX7_deal 60 = .ok (.istore_n 3, 1) := by decide +kernel
theorem dX7_deal_61 : decode cX7_deal 61 = .ok (.iload_n 3, 1) := by decide +kernel
theorem dX7_deal_62 : decode cX7_deal 62 = .ok (.ifCond .le 58, 3) := by decide +kernel
theorem dX7_deal_65 : decode cX7_deal 65 = .ok (.sipush 25173, 3) := by decide +kernel
theorem dX7_deal_68 : decode cX7_deal 68 = .ok (.iload_n 2, 1) := by decide +kernel
theorem dX7_deal_69 : decode cX7_deal 69 = .ok (.imul, 1) := by decide +kernel
theorem dX7_deal_70 : decode cX7_deal 70 = .ok (.sipush 13849, 3) := by decide +kernel
theorem dX7_deal_73 : decode cX7_deal 73 = .ok (.iadd, 1) := by decide +kernel
theorem dX7_deal_74 : decode cX7_deal 74 = .ok (.ldc 70, 2) := by decide +kernel
theorem dX7_deal_76 : decode cX7_deal 76 = .ok (.irem, 1) := by decide +kernel
theorem dX7_deal_77 : decode cX7_deal 77 = .ok (.istore_n 2, 1) := by decide +kernel
theorem dX7_deal_78 : decode cX7_deal 78 = .ok (.aload_n 0, 1) := by decide +kernel
theorem dX7_deal_79 : decode cX7_deal 79 = .ok (.getfield 16, 3) := by decide +kernel
theorem dX7_deal_82 : decode cX7_deal 82 = .ok (.iload_n 3, 1) := by decide +kernel
theorem dX7_deal_83 : decode cX7_deal 83 = .ok (.iaload, 1) := by decide +kernel
theorem dX7_deal_84 : decode cX7_deal 84 = .ok (.istore 4, 2) := by decide +kernel
theorem dX7_deal_86 : decode cX7_deal 86 = .ok (.aload_n 0, 1) := by decide +kernel
theorem dX7_deal_87 : decode cX7_deal 87 = .ok (.getfield 16, 3) := by decide +kernel
theorem dX7_deal_90 : decode cX7_deal 90 = .ok (.iload_n 3, 1) := by decide +kernel
theorem dX7_deal_91 : decode cX7_deal 91 = .ok (.aload_n 0, 1) := by decide +kernel
theorem dX7_deal_92 : decode cX7_deal 92 = .ok (.getfield 16, 3) := by decide +kernel
theorem dX7_deal_95 : decode cX7_deal 95 = .ok (.iload_n 2, 1) := by decide +kernel
theorem dX7_deal_96 : decode cX7_deal 96 = .ok (.iload_n 3, 1) := by decide +kernel
theorem dX7_deal_97 : decode cX7_deal 97 = .ok (.iconst 1, 1) := by decide +kernel
theorem dX7_deal_98 : decode cX7_deal 98 = .ok (.iadd, 1) := by decide +kernel
theorem dX7_deal_99 : decode cX7_deal 99 = .ok (.irem, 1) := by decide +kernel
theorem dX7_deal_100 : decode cX7_deal 100 = .ok (.iaload, 1) := by decide +kernel
theorem dX7_deal_101 : decode cX7_deal 101 = .ok (.iastore, 1) := by decide +kernel
theorem dX7_deal_102 : decode cX7_deal 102 = .ok (.aload_n 0, 1) := by decide +kernel
theorem dX7_deal_103 : decode cX7_deal 103 = .ok (.getfield 16, 3) := by decide +kernel
theorem dX7_deal_106 : decode cX7_deal 106 = .ok (.iload_n 2, 1) := by decide +kernel
theorem dX7_deal_107 : decode cX7_deal 107 = .ok (.iload_n 3, 1) := by decide +kernel
theorem dX7_deal_108 : decode cX7_deal 108 = .ok (.iconst 1, 1) := by decide +kernel
theorem dX7_deal_109 : decode cX7_deal 109 = .ok (.iadd, 1) := by decide +kernel
theorem dX7_deal_110 : decode cX7_deal 110 = .ok (.irem, 1) := by decide +kernel
theorem dX7_deal_111 : decode cX7_deal 111 = .ok (.iload 4, 2) := by decide +kernel
theorem dX7_deal_113 : decode cX7_deal 113 = .ok (.iastore, 1) := by decide +kernel
theorem dX7_deal_114 : decode cX7_deal 114 = .ok (.iinc 3 (-1), 3) := by decide +kernel
theorem dX7_deal_117 : decode cX7_deal 117 = .ok (.goto (-56), 3) := by decide +kernel
theorem dX7_deal_120 : decode cX7_deal 120 = .ok (.aload_n 0, 1) := by decide +kernel
theorem dX7_deal_121 : decode cX7_deal 121 = .ok (.aload_n 0, 1) := by decide +kernel
theorem dX7_deal_122 : decode cX7_deal 122 = .ok (.getfield 71, 3) := by decide +kernel
theorem dX7_deal_125 : decode cX7_deal 125 = .ok (.iconst 4, 1) := by decide +kernel
theorem dX7_deal_126 : decode cX7_deal 126 = .ok (.irem, 1) := by decide +kernel
theorem dX7_deal_127 : decode cX7_deal 127 = .ok (.putfield 74, 3) := by decide +kernel
theorem dX7_deal_130 : decode cX7_deal 130 = .ok (.aload_n 0, 1) := by decide +kernel
theorem dX7_deal_131 : decode cX7_deal 131 = .ok (.dup, 1) := by decide +kernel
theorem dX7_deal_132 : decode cX7_deal 132 = .ok (.getfield 71, 3) := by decide +kernel
theorem dX7_deal_135 : decode cX7_deal 135 = .ok (.iconst 1, 1) := by decide +kernel
theorem dX7_deal_136 : decode cX7_deal 136 = .ok (.iadd, 1) := by decide +kernel
theorem dX7_deal_137 : decode cX7_deal 137 = .ok (.putfield 71, 3) := by decide +kernel
theorem dX7_deal_140 : decode cX7_deal 140 = .ok (.iconst 0, 1) := by decide +kernel
theorem dX7_deal_141 : decode cX7_deal 141 = .ok (.istore_n 3, 1) := by decide +kernel
theorem dX7_deal_142 : decode cX7_deal 142 = .ok (.iload_n 3, 1) := by decide +kernel
theorem dX7_deal_143 : decode cX7_deal 143 = .ok (.iconst 4, 1) := by decide +kernel
theorem dX7_deal_144 : decode cX7_deal 144 = .ok (.if_icmp .ge 30, 3) := by decide +kernel
theorem dX7_deal_147 : decode cX7_deal 147 = .ok (.aload_n 0, 1) := by decide +kernel
theorem dX7_deal_148 : decode cX7_deal 148 = .ok (.getfield 20, 3) := by decide +kernel
theorem dX7_deal_151 : decode cX7_deal 151 = .ok (.iload_n 3, 1) := by decide +kernel
theorem dX7_deal_152 : decode cX7_deal 152 = .ok (.lconst 0, 1) := by decide +kernel
theorem dX7_deal_153 : decode cX7_deal 153 = .ok (.lastore, 1) := by decide +kernel
theorem dX7_deal_154 : decode cX7_deal 154 = .ok (.aload_n 0, 1) := by decide +kernel
theorem dX7_deal_155 : decode cX7_deal 155 = .ok (.getfield 49, 3) := by decide +kernel
theorem dX7_deal_158 : decode cX7_deal 158 = .ok (.iload_n 3, 1) := by decide +kernel
theorem dX7_deal_159 : decode cX7_deal 159 = .ok (.lconst 0, 1) := by decide +kernel
theorem dX7_deal_160 : decode cX7_deal 160 = .ok (.lastore, 1) := by decide +kernel
theorem dX7_deal_161 : decode cX7_deal 161 = .ok (.aload_n 0, 1) := by decide +kernel
theorem dX7_deal_162 : decode cX7_deal 162 = .ok (.getfield 24, 3) := by decide +kernel
theorem dX7_deal_165 : decode cX7_deal 165 = .ok (.iload_n 3, 1) := by decide +kernel
theorem dX7_deal_166 : decode cX7_deal 166 = .ok (.iconst 0, 1) := by decide +kernel
theorem dX7_deal_167 : decode cX7_deal 167 = .ok (.bastore, 1) := by decide +kernel
theorem dX7_deal_168 : decode cX7_deal 168 = .ok (.iinc 3 1, 3) := by decide +kernel
theorem dX7_deal_171 : decode cX7_deal 171 = .ok (.goto (-29), 3) := by decide +kernel
theorem dX7_deal_174 : decode cX7_deal 174 = .ok (.iconst 0, 1) := by decide +kernel
theorem dX7_deal_175 : decode cX7_deal 175 = .ok (.istore_n 3, 1) := by decide +kernel
theorem dX7_deal_176 : decode cX7_deal 176 = .ok (.iload_n 3, 1) := by decide +kernel
theorem dX7_deal_177 : decode cX7_deal 177 = .ok (.bipush 48, 2) := by decide +kernel
theorem dX7_deal_179 : decode cX7_deal 179 = .ok (.if_icmp .ge 37, 3) := by decide +kernel
theorem dX7_deal_182 : decode cX7_deal 182 = .ok (.aload_n 0, 1) := by decide +kernel
theorem dX7_deal_183 : decode cX7_deal 183 = .ok (.getfield 20, 3) := by decide +kernel
theorem dX7_deal_186 : decode cX7_deal 186 = .ok (.aload_n 0, 1) := by decide +kernel
theorem dX7_deal_187 : decode cX7_deal 187 = .ok (.getfield 74, 3) := by decide +kernel
theorem dX7_deal_190 : decode cX7_deal 190 = .ok (.iload_n 3, 1) := by decide +kernel
theorem dX7_deal_191 : decode cX7_deal 191 = .ok (.bipush 12, 2) := by decide +kernel
theorem dX7_deal_193 : decode cX7_deal 193 = .ok (.idiv, 1) := by decide +kernel
theorem dX7_deal_194 : decode cX7_deal 194 = .ok (.iadd, 1) := by decide +kernel
theorem dX7_deal_195 : decode cX7_deal 195 = .ok (.iconst 4, 1) := by decide +kernel
theorem dX7_deal_196 : decode cX7_deal 196 = .ok (.irem, 1) := by decide +kernel
theorem dX7_deal_197 : decode cX7_deal 197 = .ok (.dup2, 1) := by decide +kernel
theorem dX7_deal_198 : decode cX7_deal 198 = .ok (.laload, 1) := by decide +kernel
theorem dX7_deal_199 : decode cX7_deal 199 = .ok (.aload_n 0, 1) := by decide +kernel
theorem dX7_deal_200 : decode cX7_deal 200 = .ok (.getfield 16, 3) := by decide +kernel
theorem dX7_deal_203 : decode cX7_deal 203 = .ok (.iload_n 3, 1) := by decide +kernel
theorem dX7_deal_204 : decode cX7_deal 204 = .ok (.iaload, 1) := by decide +kernel
theorem dX7_deal_205 : decode cX7_deal 205 = .ok (.invokestatic 77, 3) := by decide +kernel
theorem dX7_deal_208 : decode cX7_deal 208 = .ok (.lor, 1) := by decide +kernel
theorem dX7_deal_209 : decode cX7_deal 209 = .ok (.lastore, 1) := by decide +kernel
theorem dX7_deal_210 : decode cX7_deal 210 = .ok (.iinc 3 1, 3) := by decide +kernel
theorem dX7_deal_213 : decode cX7_deal 213 = .ok (.goto (-37), 3) := by decide +kernel
theorem dX7_deal_216 : decode cX7_deal 216 = .ok (.aload_n 0, 1) := by decide +kernel
theorem dX7_deal_217 : decode cX7_deal 217 = .ok (.iconst 0, 1) := by decide +kernel
theorem dX7_deal_218 : decode cX7_deal 218 = .ok (.putfield 81, 3) := by decide +kernel
theorem dX7_deal_221 : decode cX7_deal 221 = .ok (.aload_n 0, 1) := by decide +kernel
theorem dX7_deal_222 : decode cX7_deal 222 = .ok (.iconst 0, 1) := by decide +kernel
theorem dX7_deal_223 : decode cX7_deal 223 = .ok (.putfield 84, 3) := by decide +kernel
theorem dX7_deal_226 : decode cX7_deal 226 = .ok (.aload_n 0, 1) := by decide +kernel
theorem dX7_deal_227 : decode cX7_deal 227 = .ok (.iconst (-1), 1) := by decide +kernel
theorem dX7_deal_228 : decode cX7_deal 228 = .ok (.putfield 28, 3) := by decide +kernel
theorem dX7_deal_231 : decode cX7_deal 231 = .ok (.aload_n 0, 1) := by decide +kernel
theorem dX7_deal_232 : decode cX7_deal 232 = .ok (.iconst (-1), 1) := by decide +kernel
theorem dX7_deal_233 : decode cX7_deal 233 = .ok (.putfield 31, 3) := by decide +kernel
theorem dX7_deal_236 : decode cX7_deal 236 = .ok (.aload_n 0, 1) := by decide +kernel
theorem dX7_deal_237 : decode cX7_deal 237 = .ok (.iconst (-1), 1) := by decide +kernel
theorem dX7_deal_238 : decode cX7_deal 238 = .ok (.putfield 34, 3) := by decide +kernel
theorem dX7_deal_241 : decode cX7_deal 241 = .ok (.aload_n 0, 1) := by decide +kernel
theorem dX7_deal_242 : decode cX7_deal 242 = .ok (.iconst (-1), 1) := by decide +kernel
theorem dX7_deal_243 : decode cX7_deal 243 = .ok (.putfield 37, 3) := by decide +kernel
theorem dX7_deal_246 : decode cX7_deal 246 = .ok (.aload_n 0, 1) := by decide +kernel
theorem dX7_deal_247 : decode cX7_deal 247 = .ok (.iconst (-1), 1) := by decide +kernel
theorem dX7_deal_248 : decode cX7_deal 248 = .ok (.putfield 40, 3) := by decide +kernel
theorem dX7_deal_251 : decode cX7_deal 251 = .ok (.aload_n 0, 1) := by decide +kernel
theorem dX7_deal_252 : decode cX7_deal 252 = .ok (.iconst 0, 1) := by decide +kernel
theorem dX7_deal_253 : decode cX7_deal 253 = .ok (.putfield 87, 3) := by decide +kernel
theorem dX7_deal_256 : decode cX7_deal 256 = .ok (.aload_n 0, 1) := by decide +kernel
theorem dX7_deal_257 : decode cX7_deal 257 = .ok (.lconst 0, 1) := by decide +kernel
theorem dX7_deal_258 : decode cX7_deal 258 = .ok (.putfield 91, 3) := by decide +kernel
theorem dX7_deal_261 : decode cX7_deal 261 = .ok (.aload_n 0, 1) := by decide +kernel
theorem dX7_deal_262 : decode cX7_deal 262 = .ok (.lconst 0, 1) := by decide +kernel
theorem dX7_deal_263 : decode cX7_deal 263 = .ok (.putfield 95, 3) := by decide +kernel
theorem dX7_deal_266 : decode cX7_deal 266 = .ok (.aload_n 0, 1) := by decide +kernel
theorem dX7_deal_267 : decode cX7_deal 267 = .ok (.iconst 0, 1) := by decide +kernel
theorem dX7_deal_268 : decode cX7_deal 268 = .ok (.putfield 98, 3) := by decide +kernel
theorem dX7_deal_271 : decode cX7_deal 271 = .ok (.aload_n 0, 1) := by decide +kernel
theorem dX7_deal_272 : decode cX7_deal 272 = .ok (.getfield 43, 3) := by decide +kernel
theorem dX7_deal_275 : decode cX7_deal 275 = .ok (.iconst 0, 1) := by decide +kernel
theorem dX7_deal_276 : decode cX7_deal 276 = .ok (.iconst 0, 1) := by decide +kernel
theorem dX7_deal_277 : decode cX7_deal 277 = .ok (.bastore, 1) := by decide +kernel
theorem dX7_deal_278 : decode cX7_deal 278 = .ok (.aload_n 0, 1) := by decide +kernel
theorem dX7_deal_279 : decode cX7_deal 279 = .ok (.getfield 43, 3) := by decide +kernel
theorem dX7_deal_282 : decode cX7_deal 282 = .ok (.iconst 1, 1) := by decide +kernel
theorem dX7_deal_283 : decode cX7_deal 283 = .ok (.iconst 0, 1) := by decide +kernel
theorem dX7_deal_284 : decode cX7_deal 284 = .ok (.bastore, 1) := by decide +kernel
theorem dX7_deal_285 : decode cX7_deal 285 = .ok (.aload_n 0, 1) := by decide +kernel
theorem dX7_deal_286 : decode cX7_deal 286 = .ok (.iconst 0, 1) := by decide +kernel
theorem dX7_deal_287 : decode cX7_deal 287 = .ok (.putfield 101, 3) := by decide +kernel
theorem dX7_deal_290 : decode cX7_deal 290 = .ok (.aload_n 0, 1) := by decide +kernel
theorem dX7_deal_291 : decode cX7_deal 291 = .ok (.iconst 0, 1) := by decide +kernel
theorem dX7_deal_292 : decode cX7_deal 292 = .ok (.putfield 104, 3) := by decide +kernel
theorem dX7_deal_295 : decode cX7_deal 295 = .ok (.aload_n 0, 1) := by decide +kernel
theorem dX7_deal_296 : decode cX7_deal 296 = .ok (.iconst 1, 1) := by decide +kernel
theorem dX7_deal_297 : decode cX7_deal 297 = .ok (.putfield 9, 3) := by decide +kernel
theorem dX7_deal_300 : decode cX7_deal 300 = .ok (.aload_n 0, 1) := by decide +kernel
theorem dX7_deal_301 : decode cX7_deal 301 = .ok (.aload_n 0, 1) := by decide +kernel
theorem dX7_deal_302 : decode cX7_deal 302 = .ok (.getfield 74, 3) := by decide +kernel
theorem dX7_deal_305 : decode cX7_deal 305 = .ok (.putfield 13, 3) := by decide +kernel
theorem dX7_deal_308 : decode cX7_deal 308 = .ok (.aload_n 0, 1) := by decide +kernel
theorem dX7_deal_309 : decode cX7_deal 309 = .ok (.getfield 74, 3) := by decide +kernel
theorem dX7_deal_312 : decode cX7_deal 312 = .ok (.ireturn, 1) := by decide +kernel
theorem dX7_talon_0 : decode cX7_talon 0 = .ok (.aload_n 0, 1) := by decide +kernel
theorem dX7_talon_1 : decode cX7_talon 1 = .ok (.getfield 16, 3) := by decide +kernel
theorem dX7_talon_4 : decode cX7_talon 4 = .ok (.bipush 48, 2) := by decide +kernel
theorem dX7_talon_6 : decode cX7_talon 6 = .ok (.iload_n 1, 1) := by decide +kernel
theorem dX7_talon_7 : decode cX7_talon 7 = .ok (.iadd, 1) := by decide +kernel
theorem dX7_talon_8 : decode cX7_talon 8 = .ok (.iaload, 1) := by decide +kernel
theorem dX7_talon_9 : decode cX7_talon 9 = .ok (.ireturn, 1) := by decide +kernel
theorem dX7_begins_0 : decode cX7_begins 0 = .ok (.aload_n 0, 1) := by decide +kernel
theorem dX7_begins_1 : decode cX7_begins 1 = .ok (.iconst 5, 1) := by decide +kernel
theorem dX7_begins_2 : decode cX7_begins 2 = .ok (.putfield 9, 3) := by decide +kernel
theorem dX7_begins_5 : decode cX7_begins 5 = .ok (.aload_n 0, 1) := by decide +kernel
theorem dX7_begins_6 : decode cX7_begins 6 = .ok (.iconst 1, 1) := by decide +kernel
theorem dX7_begins_7 : decode cX7_begins 7 = .ok (.putfield 98, 3) := by decide +kernel
theorem dX7_begins_10 : decode cX7_begins 10 = .ok (.aload_n 0, 1) := by decide +kernel
theorem dX7_begins_11 : decode cX7_begins 11 = .ok (.aload_n 0, 1) := by decide +kernel
theorem dX7_begins_12 : decode cX7_begins 12 = .ok (.getfield 74, 3) := by decide +kernel
theorem dX7_begins_15 : decode cX7_begins 15 = .ok (.putfield 13, 3) := by decide +kernel
theorem dX7_begins_18 : decode cX7_begins 18 = .ok (.aload_n 0, 1) := by decide +kernel
theorem dX7_begins_19 : decode cX7_begins 19 = .ok (.aload_n 0, 1) := by decide +kernel
theorem dX7_begins_20 : decode cX7_begins 20 = .ok (.getfield 74, 3) := by decide +kernel
theorem dX7_begins_23 : decode cX7_begins 23 = .ok (.putfield 107, 3) := by decide +kernel
theorem dX7_begins_26 : decode cX7_begins 26 = .ok (.return_, 1) := by decide +kernel
set_option maxRecDepth 20000 in
theorem ggX7_declares_X7_talon : GoodIn wsX7_declares wsX7_talon := goodIn_r _ [11, 12, 23, 24, 25, 26, 27, 28, 29, 30, 31, 32, 33, 34, 35, 36, 37, 38, 39, 40, 41, 42, 43, 44, 45, 46, 47, 48, 49, 50, 51] (by decide +kernel) (by decide +kernel)
set_option maxRecDepth 20000 in
theorem gX7_declares_X7_talon : GoodIn wsX7_declares (wsV RX7 110 RX7 yX7_talon wsX7_talon) := goodIn_app (goodIn_of _ (by decide +kernel)) ggX7_declares_X7_talon
set_option maxRecDepth 20000 in
theorem ggX7_declares_X7_bit : GoodIn wsX7_declares wsX7_bit := goodIn_r _ [15] (by decide +kernel) (by decide +kernel)
set_option maxRecDepth 20000 in
theorem gX7_declares_X7_bit : GoodIn wsX7_declares (va_wsS RX7 77 yX7_bit wsX7_bit) := goodIn_app (goodIn_of _ (by decide +kernel)) ggX7_declares_X7_bit
set_option maxRecDepth 20000 in
theorem ggX7_declares_X7_begins : GoodIn wsX7_declares wsX7_begins := goodIn_r _ [19, 6, 20, 21, 3, 22, 23, 24, 25, 26, 27, 28, 29, 30, 31, 32, 33, 34, 35, 36, 37, 38, 39, 40, 41, 42, 43, 44, 45, 46, 47, 48, 49, 50, 51] (by decide +kernel) (by decide +kernel)
set_option maxRecDepth 20000 in
theorem gX7_declares_X7_begins : GoodIn wsX7_declares (wsV RX7 114 RX7 yX7_begins wsX7_begins) := goodIn_app (goodIn_of _ (by decide +kernel)) ggX7_declares_X7_begins
theorem dX7_declares_0 : decode cX7_declares 0 = .ok (.aload_n 0, 1) := by decide +kernel
theorem dX7_declares_1 : decode cX7_declares 1 = .ok (.aload_n 0, 1) := by decide +kernel
theorem dX7_declares_2 : decode cX7_declares 2 = .ok (.getfield 28, 3) := by decide +kernel
theorem dX7_declares_5 : decode cX7_declares 5 = .ok (.putfield 31, 3) := by decide +kernel
theorem dX7_declares_8 : decode cX7_declares 8 = .ok (.aload_n 0, 1) := by decide +kernel
theorem dX7_declares_9 : decode cX7_declares 9 = .ok (.aload_n 0, 1) := by decide +kernel
theorem dX7_declares_10 : decode cX7_declares 10 = .ok (.getfield 31, 3) := by decide +kernel
theorem dX7_declares_13 : decode cX7_declares 13 = .ok (.putfield 13, 3) := by decide +kernel
theorem dX7_declares_16 : decode cX7_declares 16 = .ok (.aload_n 0, 1) := by decide +kernel
theorem dX7_declares_17 : decode cX7_declares 17 = .ok (.getfield 84, 3) := by decide +kernel
theorem dX7_declares_20 : decode cX7_declares 20 = .ok (.iconst 5, 1) := by decide +kernel
theorem dX7_declares_21 : decode cX7_declares 21 = .ok (.if_icmp .ne 41, 3) := by decide +kernel
theorem dX7_declares_24 : decode cX7_declares 24 = .ok (.iconst 0, 1) := by decide +kernel
theorem dX7_declares_25 : decode cX7_declares 25 = .ok (.istore_n 1, 1) := by decide +kernel
theorem dX7_declares_26 : decode cX7_declares 26 = .ok (.iload_n 1, 1) := by decide +kernel
theorem dX7_declares_27 : decode cX7_declares 27 = .ok (.bipush 6, 2) := by decide +kernel
theorem dX7_declares_29 : decode cX7_declares 29 = .ok (.if_icmp .ge 26, 3) := by decide +kernel
theorem dX7_declares_32 : decode cX7_declares 32 = .ok (.aload_n 0, 1) := by decide +kernel
theorem dX7_declares_33 : decode cX7_declares 33 = .ok (.dup, 1) := by decide +kernel
theorem dX7_declares_34 : decode cX7_declares 34 = .ok (.getfield 95, 3) := by decide +kernel
theorem dX7_declares_37 : decode cX7_declares 37 = .ok (.aload_n 0, 1) := by decide +kernel
theorem dX7_declares_38 : decode cX7_declares 38 = .ok (.iload_n 1, 1) := by decide +kernel
theorem dX7_declares_39 : decode cX7_declares 39 = .ok (.invokevirtual 110, 3) := by decide +kernel
theorem dX7_declares_42 : decode cX7_declares 42 = .ok (.invokestatic 77, 3) := by decide +kernel
theorem dX7_declares_45 : decode cX7_declares 45 = .ok (.lor, 1) := by decide +kernel
theorem dX7_declares_46 : decode cX7_declares 46 = .ok (.putfield 95, 3) := by decide +kernel
theorem dX7_declares_49 : decode cX7_declares 49 = .ok (.iinc 1 1, 3) := by decide +kernel
theorem dX7_declares_52 : decode cX7_declares 52 = .ok (.goto (-26), 3) := by decide +kernel
theorem dX7_declares_55 : decode cX7_declares 55 = .ok (.aload_n 0, 1) := by decide +kernel
theorem dX7_declares_56 : decode cX7_declares 56 = .ok (.invokevirtual 114, 3) := by decide +kernel
theorem dX7_declares_59 : decode cX7_declares 59 = .ok (.goto 20, 3) := by decide +kernel
theorem dX7_declares_62 : decode cX7_declares 62 = .ok (.aload_n 0, 1) := by decide +kernel
theorem dX7_declares_63 : decode cX7_declares 63 = .ok (.aload_n 0, 1) := by decide +kernel
theorem dX7_declares_64 : decode cX7_declares 64 = .ok (.getfield 84, 3) := by decide +kernel
theorem dX7_declares_67 : decode cX7_declares 67 = .ok (.iconst 4, 1) := by decide +kernel
theorem dX7_declares_68 : decode cX7_declares 68 = .ok (.if_icmp .ne 7, 3) := by decide +kernel
theorem dX7_declares_71 : decode cX7_declares 71 = .ok (.iconst 3, 1) := by decide +kernel
theorem dX7_declares_72 : decode cX7_declares 72 = .ok (.goto 4, 3) := by decide +kernel
theorem dX7_declares_75 : decode cX7_declares 75 = .ok (.iconst 2, 1) := by decide +kernel
theorem dX7_declares_76 : decode cX7_declares 76 = .ok (.putfield 9, 3) := by decide +kernel
theorem dX7_declares_79 : decode cX7_declares 79 = .ok (.return_, 1) := by decide +kernel
set_option maxRecDepth 20000 in
theorem ggX7_bid_X7_isIn : GoodIn wsX7_bid wsX7_isIn := goodIn_r _ [10] (by decide +kernel) (by decide +kernel)
set_option maxRecDepth 20000 in
theorem gX7_bid_X7_isIn : GoodIn wsX7_bid (va_wsS RX7 61 yX7_isIn wsX7_isIn) := goodIn_app (goodIn_of _ (by decide +kernel)) ggX7_bid_X7_isIn
set_option maxRecDepth 20000 in
theorem ggX7_bid_X7_isFine : GoodIn wsX7_bid wsX7_isFine := goodIn_r _ [14, 15, 37, 38, 39, 40, 41, 42, 43, 44, 45, 46, 47, 48, 49, 50, 51, 52, 53, 54, 55, 56, 57, 58, 59, 60, 61, 62, 63, 64, 65] (by decide +kernel) (by decide +kernel)
set_option maxRecDepth 20000 in
theorem gX7_bid_X7_isFine : GoodIn wsX7_bid (wsV RX7 66 RX7 yX7_isFine wsX7_isFine) := goodIn_app (goodIn_of _ (by decide +kernel)) ggX7_bid_X7_isFine
set_option maxRecDepth 20000 in
theorem ggX7_bid_X7_declares : GoodIn wsX7_bid wsX7_declares := goodIn_r _ [19, 6, 20, 4, 2, 21, 1, 22, 23, 24, 9, 25, 26, 27, 28, 29, 30, 31, 32, 33, 34, 35, 36, 37, 38, 39, 40, 41, 42, 43, 44, 45, 46, 47, 48, 49, 50, 51, 52, 53, 54, 55, 56, 57, 58, 59, 60, 61, 62, 63, 64, 65] (by decide +kernel) (by decide +kernel)
set_option maxRecDepth 20000 in
theorem gX7_bid_X7_declares : GoodIn wsX7_bid (wsV RX7 117 RX7 yX7_declares wsX7_declares) := goodIn_app (goodIn_of _ (by decide +kernel)) ggX7_bid_X7_declares
theorem dX7_bid_0 : decode cX7_bid 0 = .ok (.aload_n 0, 1) := by decide +kernel
theorem dX7_bid_1 : decode cX7_bid 1 = .ok (.iload_n 1, 1) := by decide +kernel
theorem dX7_bid_2 : decode cX7_bid 2 = .ok (.iconst 0, 1) := by decide +kernel
theorem dX7_bid_3 : decode cX7_bid 3 = .ok (.iconst 5, 1) := by decide +kernel
theorem dX7_bid_4 : decode cX7_bid 4 = .ok (.invokestatic 61, 3) := by decide +kernel
theorem dX7_bid_7 : decode cX7_bid 7 = .ok (.ifCond .ne 7, 3) := by decide +kernel
theorem dX7_bid_10 : decode cX7_bid 10 = .ok (.iconst 1, 1) := by decide +kernel
theorem dX7_bid_11 : decode cX7_bid 11 = .ok (.goto 28, 3) := by decide +kernel
theorem dX7_bid_14 : decode cX7_bid 14 = .ok (.aload_n 0, 1) := by decide +kernel
theorem dX7_bid_15 : decode cX7_bid 15 = .ok (.getfield 9, 3) := by decide +kernel
theorem dX7_bid_18 : decode cX7_bid 18 = .ok (.iconst 1, 1) := by decide +kernel
theorem dX7_bid_19 : decode cX7_bid 19 = .ok (.if_icmp .ne 15, 3) := by decide +kernel
theorem dX7_bid_22 : decode cX7_bid 22 = .ok (.iload_n 1, 1) := by decide +kernel
theorem dX7_bid_23 : decode cX7_bid 23 = .ok (.ifCond .le 15, 3) := by decide +kernel
theorem dX7_bid_26 : decode cX7_bid 26 = .ok (.iload_n 1, 1) := by decide +kernel
theorem dX7_bid_27 : decode cX7_bid 27 = .ok (.aload_n 0, 1) := by decide +kernel
theorem dX7_bid_28 : decode cX7_bid 28 = .ok (.getfield 84, 3) := by decide +kernel
theorem dX7_bid_31 : decode cX7_bid 31 = .ok (.if_icmp .gt 7, 3) := by decide +kernel
theorem dX7_bid_34 : decode cX7_bid 34 = .ok (.iconst 2, 1) := by decide +kernel
theorem dX7_bid_35 : decode cX7_bid 35 = .ok (.goto 4, 3) := by decide +kernel
theorem dX7_bid_38 : decode cX7_bid 38 = .ok (.iconst 0, 1) := by decide +kernel
theorem dX7_bid_39 : decode cX7_bid 39 = .ok (.invokevirtual 66, 3) := by decide +kernel
theorem dX7_bid_42 : decode cX7_bid 42 = .ok (.ifCond .ne 5, 3) := by decide +kernel
theorem dX7_bid_45 : decode cX7_bid 45 = .ok (.iconst 0, 1) := by decide +kernel
theorem dX7_bid_46 : decode cX7_bid 46 = .ok (.ireturn, 1) := by decide +kernel
theorem dX7_bid_47 : decode cX7_bid 47 = .ok (.iload_n 1, 1) := by decide +kernel
theorem dX7_bid_48 : decode cX7_bid 48 = .ok (.ifCond .ne 26, 3) := by decide +kernel
theorem dX7_bid_51 : decode cX7_bid 51 = .ok (.aload_n 0, 1) := by decide +kernel
theorem dX7_bid_52 : decode cX7_bid 52 = .ok (.getfield 24, 3) := by decide +kernel
theorem dX7_bid_55 : decode cX7_bid 55 = .ok (.aload_n 0, 1) := by decide +kernel
theorem dX7_bid_56 : decode cX7_bid 56 = .ok (.getfield 13, 3) := by decide +kernel
theorem dX7_bid_59 : decode cX7_bid 59 = .ok (.iconst 1, 1) := by decide +kernel
theorem dX7_bid_60 : decode cX7_bid 60 = .ok (.bastore, 1) := by decide +kernel
theorem dX7_bid_61 : decode cX7_bid 61 = .ok (.aload_n 0, 1) := by decide +kernel
theorem dX7_bid_62 : decode cX7_bid 62 = .ok (.dup, 1) := by decide +kernel
theorem dX7_bid_63 : decode cX7_bid 63 = .ok (.getfield 81, 3) := by decide +kernel
theorem dX7_bid_66 : decode cX7_bid 66 = .ok (.iconst 1, 1) := by decide +kernel
theorem dX7_bid_67 : decode cX7_bid 67 = .ok (.iadd, 1) := by decide +kernel
theorem dX7_bid_68 : decode cX7_bid 68 = .ok (.putfield 81, 3) := by decide +kernel
theorem dX7_bid_71 : decode cX7_bid 71 = .ok (.goto 16, 3) := by decide +kernel
theorem dX7_bid_74 : decode cX7_bid 74 = .ok (.aload_n 0, 1) := by decide +kernel
theorem dX7_bid_75 : decode cX7_bid 75 = .ok (.iload_n 1, 1) := by decide +kernel
theorem dX7_bid_76 : decode cX7_bid 76 = .ok (.putfield 84, 3) := by decide +kernel
theorem dX7_bid_79 : decode cX7_bid 79 = .ok (.aload_n 0, 1) := by decide +kernel
theorem dX7_bid_80 : decode cX7_bid 80 = .ok (.aload_n 0, 1) := by decide +kernel
theorem dX7_bid_81 : decode cX7_bid 81 = .ok (.getfield 13, 3) := by decide +kernel
theorem dX7_bid_84 : decode cX7_bid 84 = .ok (.putfield 28, 3) := by decide +kernel
theorem dX7_bid_87 : decode cX7_bid 87 = .ok (.aload_n 0, 1) := by decide +kernel
theorem dX7_bid_88 : decode cX7_bid 88 = .ok (.getfield 81, 3) := by decide +kernel
theorem dX7_bid_91 : decode cX7_bid 91 = .ok (.iconst 4, 1) := by decide +kernel
theorem dX7_bid_92 : decode cX7_bid 92 = .ok (.if_icmp .ne 16, 3) := by decide +kernel
theorem dX7_bid_95 : decode cX7_bid 95 = .ok (.aload_n 0, 1) := by decide +kernel
theorem dX7_bid_96 : decode cX7_bid 96 = .ok (.iconst 0, 1) := by decide +kernel
theorem dX7_bid_97 : decode cX7_bid 97 = .ok (.putfield 9, 3) := by decide +kernel
theorem dX7_bid_100 : decode cX7_bid 100 = .ok (.aload_n 0, 1) := by decide +kernel
theorem dX7_bid_101 : decode cX7_bid 101 = .ok (.iconst (-1), 1) := by decide +kernel
theorem dX7_bid_102 : decode cX7_bid 102 = .ok (.putfield 13, 3) := by decide +kernel
theorem dX7_bid_105 : decode cX7_bid 105 = .ok (.goto 65, 3) := by decide +kernel
theorem dX7_bid_108 : decode cX7_bid 108 = .ok (.aload_n 0, 1) := by decide +kernel
theorem dX7_bid_109 : decode cX7_bid 109 = .ok (.getfield 81, 3) := by decide +kernel
theorem dX7_bid_112 : decode cX7_bid 112 = .ok (.iconst 3, 1) := by decide +kernel
theorem dX7_bid_113 : decode cX7_bid 113 = .ok (.if_icmp .ne 18, 3) := by decide +kernel
theorem dX7_bid_116 : decode cX7_bid 116 = .ok (.aload_n 0, 1) := by decide +kernel
theorem dX7_bid_117 : decode cX7_bid 117 = .ok (.getfield 28, 3) := by decide +kernel
theorem dX7_bid_120 : decode cX7_bid 120 = .ok (.iconst (-1), 1) := by decide +kernel
theorem dX7_bid_121 : decode cX7_bid 121 = .ok (.if_icmp .eq 10, 3) := by decide +kernel
theorem dX7_bid_124 : decode cX7_bid 124 = .ok (.aload_n 0, 1) := by decide +kernel
theorem dX7_bid_125 : decode cX7_bid 125 = .ok (.invokevirtual 117, 3) := by decide +kernel
theorem dX7_bid_128 : decode cX7_bid 128 = .ok (.goto 42, 3) := by decide +kernel
theorem dX7_bid_131 : decode cX7_bid 131 = .ok (.aload_n 0, 1) := by decide +kernel
theorem dX7_bid_132 : decode cX7_bid 132 = .ok (.aload_n 0, 1) := by decide +kernel
theorem dX7_bid_133 : decode cX7_bid 133 = .ok (.getfield 13, 3) := by decide +kernel
theorem dX7_bid_136 : decode cX7_bid 136 = .ok (.iconst 1, 1) := by decide +kernel
theorem dX7_bid_137 : decode cX7_bid 137 = .ok (.iadd, 1) := by decide +kernel
theorem dX7_bid_138 : decode cX7_bid 138 = .ok (.iconst 4, 1) := by decide +kernel
theorem dX7_bid_139 : decode cX7_bid 139 = .ok (.irem, 1) := by decide +kernel
theorem dX7_bid_140 : decode cX7_bid 140 = .ok (.putfield 13, 3) := by decide +kernel
theorem dX7_bid_143 : decode cX7_bid 143 = .ok (.aload_n 0, 1) := by decide +kernel
theorem dX7_bid_144 : decode cX7_bid 144 = .ok (.getfield 24, 3) := by decide +kernel
theorem dX7_bid_147 : decode cX7_bid 147 = .ok (.aload_n 0, 1) := by decide +kernel
theorem dX7_bid_148 : decode cX7_bid 148 = .ok (.getfield 13, 3) := by decide +kernel
theorem dX7_bid_151 : decode cX7_bid 151 = .ok (.baload, 1) := by decide +kernel
theorem dX7_bid_152 : decode cX7_bid 152 = .ok (.ifCond .eq 18, 3) := by decide +kernel
theorem dX7_bid_155 : decode cX7_bid 155 = .ok (.aload_n 0, 1) := by decide +kernel
theorem dX7_bid_156 : decode cX7_bid 156 = .ok (.aload_n 0, 1) := by decide +kernel
theorem dX7_bid_157 : decode cX7_bid 157 = .ok (.getfield 13, 3) := by decide +kernel
theorem dX7_bid_160 : decode cX7_bid 160 = .ok (.iconst 1, 1) := by decide +kernel
theorem dX7_bid_161 : decode cX7_bid 161 = .ok (.iadd, 1) := by decide +kernel
theorem dX7_bid_162 : decode cX7_bid 162 = .ok (.iconst 4, 1) := by decide +kernel
theorem dX7_bid_163 : decode cX7_bid 163 = .ok (.irem, 1) := by decide +kernel
theorem dX7_bid_164 : decode cX7_bid 164 = .ok (.putfield 13, 3) := by decide +kernel
theorem dX7_bid_167 : decode cX7_bid 167 = .ok (.goto (-24), 3) := by decide +kernel
theorem dX7_bid_170 : decode cX7_bid 170 = .ok (.aload_n 0, 1) := by decide +kernel
theorem dX7_bid_171 : decode cX7_bid 171 = .ok (.getfield 9, 3) := by decide +kernel
theorem dX7_bid_174 : decode cX7_bid 174 = .ok (.ireturn, 1) := by decide +kernel
set_option maxRecDepth 20000 in
theorem ggX7_call_X7_isIn : GoodIn wsX7_call wsX7_isIn := goodIn_r _ [10] (by decide +kernel) (by decide +kernel)
set_option maxRecDepth 20000 in
theorem gX7_call_X7_isIn : GoodIn wsX7_call (va_wsS RX7 61 yX7_isIn wsX7_isIn) := goodIn_app (goodIn_of _ (by decide +kernel)) ggX7_call_X7_isIn
set_option maxRecDepth 20000 in
theorem ggX7_call_X7_isFine : GoodIn wsX7_call wsX7_isFine := goodIn_r _ [14, 15, 23, 24, 25, 26, 27, 28, 29, 30, 31, 32, 33, 34, 35, 36, 37, 38, 39, 40, 41, 42, 43, 44, 45, 46, 47, 48, 49, 50, 51] (by decide +kernel) (by decide +kernel)
set_option maxRecDepth 20000 in
theorem gX7_call_X7_isFine : GoodIn wsX7_call (wsV RX7 66 RX7 yX7_isFine wsX7_isFine) := goodIn_app (goodIn_of _ (by decide +kernel)) ggX7_call_X7_isFine
set_option maxRecDepth 20000 in
theorem ggX7_call_X7_king : GoodIn wsX7_call wsX7_king := goodIn_r _ [19, 2, 23, 24, 25, 26, 27, 28, 29, 30, 31, 32, 33, 34, 35, 36, 37, 38, 39, 40, 41, 42, 43, 44, 45, 46, 47, 48, 49, 50, 51] (by decide +kernel) (by decide +kernel)
set_option maxRecDepth 20000 in
theorem gX7_call_X7_king : GoodIn wsX7_call (wsV RX7 120 RX7 yX7_king wsX7_king) := goodIn_app (goodIn_of _ (by decide +kernel)) ggX7_call_X7_king
set_option maxRecDepth 20000 in
theorem ggX7_call_X7_has : GoodIn wsX7_call wsX7_has := goodIn_r _ [22] (by decide +kernel) (by decide +kernel)
set_option maxRecDepth 20000 in
theorem gX7_call_X7_has : GoodIn wsX7_call (va_wsS RX7 124 yX7_has wsX7_has) := goodIn_app (goodIn_of _ (by decide +kernel)) ggX7_call_X7_has
theorem dX7_call_0 : decode cX7_call 0 = .ok (.aload_n 0, 1) := by decide +kernel
theorem dX7_call_1 : decode cX7_call 1 = .ok (.iload_n 1, 1) := by decide +kernel
theorem dX7_call_2 : decode cX7_call 2 = .ok (.iconst 0, 1) := by decide +kernel
theorem dX7_call_3 : decode cX7_call 3 = .ok (.iconst 3, 1) := by decide +kernel
theorem dX7_call_4 : decode cX7_call 4 = .ok (.invokestatic 61, 3) := by decide +kernel
theorem dX7_call_7 : decode cX7_call 7 = .ok (.ifCond .ne 7, 3) := by decide +kernel
theorem dX7_call_10 : decode cX7_call 10 = .ok (.iconst 1, 1) := by decide +kernel
theorem dX7_call_11 : decode cX7_call 11 = .ok (.goto 16, 3) := by decide +kernel
theorem dX7_call_14 : decode cX7_call 14 = .ok (.aload_n 0, 1) := by decide +kernel
theorem dX7_call_15 : decode cX7_call 15 = .ok (.getfield 9, 3) := by decide +kernel
theorem dX7_call_18 : decode cX7_call 18 = .ok (.iconst 2, 1) := by decide +kernel
theorem dX7_call_19 : decode cX7_call 19 = .ok (.if_icmp .eq 7, 3) := by decide +kernel
theorem dX7_call_22 : decode cX7_call 22 = .ok (.iconst 2, 1) := by decide +kernel
theorem dX7_call_23 : decode cX7_call 23 = .ok (.goto 4, 3) := by decide +kernel
theorem dX7_call_26 : decode cX7_call 26 = .ok (.iconst 0, 1) := by decide +kernel
theorem dX7_call_27 : decode cX7_call 27 = .ok (.invokevirtual 66, 3) := by decide +kernel
theorem dX7_call_30 : decode cX7_call 30 = .ok (.ifCond .ne 5, 3) := by decide +kernel
theorem dX7_call_33 : decode cX7_call 33 = .ok (.iconst 0, 1) := by decide +kernel
theorem dX7_call_34 : decode cX7_call 34 = .ok (.ireturn, 1) := by decide +kernel
theorem dX7_call_35 : decode cX7_call 35 = .ok (.aload_n 0, 1) := by decide +kernel
theorem dX7_call_36 : decode cX7_call 36 = .ok (.iload_n 1, 1) := by decide +kernel
theorem dX7_call_37 : decode cX7_call 37 = .ok (.putfield 34, 3) := by decide +kernel
theorem dX7_call_40 : decode cX7_call 40 = .ok (.iconst 0, 1) := by decide +kernel
theorem dX7_call_41 : decode cX7_call 41 = .ok (.istore_n 2, 1) := by decide +kernel
theorem dX7_call_42 : decode cX7_call 42 = .ok (.iload_n 2, 1) := by decide +kernel
theorem dX7_call_43 : decode cX7_call 43 = .ok (.iconst 4, 1) := by decide +kernel
theorem dX7_call_44 : decode cX7_call 44 = .ok (.if_icmp .ge 37, 3) := by decide +kernel
theorem dX7_call_47 : decode cX7_call 47 = .ok (.aload_n 0, 1) := by decide +kernel
theorem dX7_call_48 : decode cX7_call 48 = .ok (.aload_n 0, 1) := by decide +kernel
theorem dX7_call_49 : decode cX7_call 49 = .ok (.getfield 20, 3) := by decide +kernel
theorem dX7_call_52 : decode cX7_call 52 = .ok (.iload_n 2, 1) := by decide +kernel
theorem dX7_call_53 : decode cX7_call 53 = .ok (.laload, 1) := by decide +kernel
theorem dX7_call_54 : decode cX7_call 54 = .ok (.aload_n 0, 1) := by decide +kernel
theorem dX7_call_55 : decode cX7_call 55 = .ok (.invokevirtual 120, 3) := by decide +kernel
theorem dX7_call_58 : decode cX7_call 58 = .ok (.invokestatic 124, 3) := by decide +kernel
theorem dX7_call_61 : decode cX7_call 61 = .ok (.ifCond .eq 7, 3) := by decide +kernel
theorem dX7_call_64 : decode cX7_call 64 = .ok (.iload_n 2, 1) := by decide +kernel
theorem dX7_call_65 : decode cX7_call 65 = .ok (.goto 7, 3) := by decide +kernel
theorem dX7_call_68 : decode cX7_call 68 = .ok (.aload_n 0, 1) := by decide +kernel
theorem dX7_call_69 : decode cX7_call 69 = .ok (.getfield 40, 3) := by decide +kernel
theorem dX7_call_72 : decode cX7_call 72 = .ok (.putfield 40, 3) := by decide +kernel
theorem dX7_call_75 : decode cX7_call 75 = .ok (.iinc 2 1, 3) := by decide +kernel
theorem dX7_call_78 : decode cX7_call 78 = .ok (.goto (-36), 3) := by decide +kernel
theorem dX7_call_81 : decode cX7_call 81 = .ok (.aload_n 0, 1) := by decide +kernel
theorem dX7_call_82 : decode cX7_call 82 = .ok (.aload_n 0, 1) := by decide +kernel
theorem dX7_call_83 : decode cX7_call 83 = .ok (.getfield 40, 3) := by decide +kernel
theorem dX7_call_86 : decode cX7_call 86 = .ok (.aload_n 0, 1) := by decide +kernel
theorem dX7_call_87 : decode cX7_call 87 = .ok (.getfield 31, 3) := by decide +kernel
theorem dX7_call_90 : decode cX7_call 90 = .ok (.if_icmp .ne 7, 3) := by decide +kernel
theorem dX7_call_93 : decode cX7_call 93 = .ok (.iconst (-1), 1) := by decide +kernel
theorem dX7_call_94 : decode cX7_call 94 = .ok (.goto 7, 3) := by decide +kernel
theorem dX7_call_97 : decode cX7_call 97 = .ok (.aload_n 0, 1) := by decide +kernel
theorem dX7_call_98 : decode cX7_call 98 = .ok (.getfield 40, 3) := by decide +kernel
theorem dX7_call_101 : decode cX7_call 101 = .ok (.putfield 37, 3) := by decide +kernel
theorem dX7_call_104 : decode cX7_call 104 = .ok (.aload_n 0, 1) := by decide +kernel
theorem dX7_call_105 : decode cX7_call 105 = .ok (.iconst 3, 1) := by decide +kernel
theorem dX7_call_106 : decode cX7_call 106 = .ok (.putfield 9, 3) := by decide +kernel
theorem dX7_call_109 : decode cX7_call 109 = .ok (.aload_n 0, 1) := by decide +kernel
theorem dX7_call_110 : decode cX7_call 110 = .ok (.getfield 9, 3) := by decide +kernel
theorem dX7_call_113 : decode cX7_call 113 = .ok (.ireturn, 1) := by decide +kernel
set_option maxRecDepth 20000 in
theorem ggX7_take_X7_isIn : GoodIn wsX7_take wsX7_isIn := goodIn_r _ [10] (by decide +kernel) (by decide +kernel)
set_option maxRecDepth 20000 in
theorem gX7_take_X7_isIn : GoodIn wsX7_take (va_wsS RX7 61 yX7_isIn wsX7_isIn) := goodIn_app (goodIn_of _ (by decide +kernel)) ggX7_take_X7_isIn
set_option maxRecDepth 20000 in
theorem ggX7_take_X7_isFine : GoodIn wsX7_take wsX7_isFine := goodIn_r _ [14, 15, 24, 25, 26, 27, 28, 29, 30, 31, 32, 33, 34, 35, 36, 37, 38, 39, 40, 41, 42, 43, 44, 45, 46, 47, 48, 49, 50, 51, 52] (by decide +kernel) (by decide +kernel)
set_option maxRecDepth 20000 in
theorem gX7_take_X7_isFine : GoodIn wsX7_take (wsV RX7 66 RX7 yX7_isFine wsX7_isFine) := goodIn_app (goodIn_of _ (by decide +kernel)) ggX7_take_X7_isFine
set_option maxRecDepth 20000 in
theorem ggX7_take_X7_talon : GoodIn wsX7_take wsX7_talon := goodIn_r _ [19, 20, 24, 25, 26, 27, 28, 29, 30, 31, 32, 33, 34, 35, 36, 37, 38, 39, 40, 41, 42, 43, 44, 45, 46, 47, 48, 49, 50, 51, 52] (by decide +kernel) (by decide +kernel)
set_option maxRecDepth 20000 in
theorem gX7_take_X7_talon : GoodIn wsX7_take (wsV RX7 110 RX7 yX7_talon wsX7_talon) := goodIn_app (goodIn_of _ (by decide +kernel)) ggX7_take_X7_talon
set_option maxRecDepth 20000 in
theorem ggX7_take_X7_bit : GoodIn wsX7_take wsX7_bit := goodIn_r _ [23] (by decide +kernel) (by decide +kernel)
set_option maxRecDepth 20000 in
theorem gX7_take_X7_bit : GoodIn wsX7_take (va_wsS RX7 77 yX7_bit wsX7_bit) := goodIn_app (goodIn_of _ (by decide +kernel)) ggX7_take_X7_bit
theorem dX7_take_0 : decode cX7_take 0 = .ok (.aload_n 0, 1) := by decide +kernel
theorem dX7_take_1 : decode cX7_take 1 = .ok (.getfield 9, 3) := by decide +kernel
theorem dX7_take_4 : decode cX7_take 4 = .ok (.iconst 3, 1) := by decide +kernel
theorem dX7_take_5 : decode cX7_take 5 = .ok (.if_icmp .ne 20, 3) := by decide +kernel
theorem dX7_take_8 : decode cX7_take 8 = .ok (.aload_n 0, 1) := by decide +kernel
theorem dX7_take_9 : decode cX7_take 9 = .ok (.getfield 84, 3) := by decide +kernel
theorem dX7_take_12 : decode cX7_take 12 = .ok (.iconst 3, 1) := by decide +kernel
theorem dX7_take_13 : decode cX7_take 13 = .ok (.if_icmp .ge 12, 3) := by decide +kernel
theorem dX7_take_16 : decode cX7_take 16 = .ok (.iconst 4, 1) := by decide +kernel
theorem dX7_take_17 : decode cX7_take 17 = .ok (.aload_n 0, 1) := by decide +kernel
theorem dX7_take_18 : decode cX7_take 18 = .ok (.getfield 84, 3) := by decide +kernel
theorem dX7_take_21 : decode cX7_take 21 = .ok (.isub, 1) := by decide +kernel
theorem dX7_take_22 : decode cX7_take 22 = .ok (.goto 4, 3) := by decide +kernel
theorem dX7_take_25 : decode cX7_take 25 = .ok (.iconst 1, 1) := by decide +kernel
theorem dX7_take_26 : decode cX7_take 26 = .ok (.istore_n 2, 1) := by decide +kernel
theorem dX7_take_27 : decode cX7_take 27 = .ok (.aload_n 0, 1) := by decide +kernel
theorem dX7_take_28 : decode cX7_take 28 = .ok (.iload_n 1, 1) := by decide +kernel
theorem dX7_take_29 : decode cX7_take 29 = .ok (.iconst 0, 1) := by decide +kernel
theorem dX7_take_30 : decode cX7_take 30 = .ok (.bipush 6, 2) := by decide +kernel
theorem dX7_take_32 : decode cX7_take 32 = .ok (.iload_n 2, 1) := by decide +kernel
theorem dX7_take_33 : decode cX7_take 33 = .ok (.idiv, 1) := by decide +kernel
theorem dX7_take_34 : decode cX7_take 34 = .ok (.iconst 1, 1) := by decide +kernel
theorem dX7_take_35 : decode cX7_take 35 = .ok (.isub, 1) := by decide +kernel
theorem dX7_take_36 : decode cX7_take 36 = .ok (.invokestatic 61, 3) := by decide +kernel
theorem dX7_take_39 : decode cX7_take 39 = .ok (.ifCond .ne 7, 3) := by decide +kernel
theorem dX7_take_42 : decode cX7_take 42 = .ok (.iconst 1, 1) := by decide +kernel
theorem dX7_take_43 : decode cX7_take 43 = .ok (.goto 16, 3) := by decide +kernel
theorem dX7_take_46 : decode cX7_take 46 = .ok (.aload_n 0, 1) := by decide +kernel
theorem dX7_take_47 : decode cX7_take 47 = .ok (.getfield 9, 3) := by decide +kernel
theorem dX7_take_50 : decode cX7_take 50 = .ok (.iconst 3, 1) := by decide +kernel
theorem dX7_take_51 : decode cX7_take 51 = .ok (.if_icmp .eq 7, 3) := by decide +kernel
theorem dX7_take_54 : decode cX7_take 54 = .ok (.iconst 2, 1) := by decide +kernel
theorem dX7_take_55 : decode cX7_take 55 = .ok (.goto 4, 3) := by decide +kernel
theorem dX7_take_58 : decode cX7_take 58 = .ok (.iconst 0, 1) := by decide +kernel
theorem dX7_take_59 : decode cX7_take 59 = .ok (.invokevirtual 66, 3) := by decide +kernel
theorem dX7_take_62 : decode cX7_take 62 = .ok (.ifCond .ne 5, 3) := by decide +kernel
theorem dX7_take_65 : decode cX7_take 65 = .ok (.iconst 0, 1) := by decide +kernel
theorem dX7_take_66 : decode cX7_take 66 = .ok (.ireturn, 1) := by decide +kernel
theorem dX7_take_67 : decode cX7_take 67 = .ok (.iconst 0, 1) := by decide +kernel
theorem dX7_take_68 : decode cX7_take 68 = .ok (.istore_n 3, 1) := by decide +kernel
theorem dX7_take_69 : decode cX7_take 69 = .ok (.iload_n 3, 1) := by decide +kernel
theorem dX7_take_70 : decode cX7_take 70 = .ok (.bipush 6, 2) := by decide +kernel
theorem dX7_take_72 : decode cX7_take 72 = .ok (.if_icmp .ge 56, 3) := by decide +kernel
theorem dX7_take_75 : decode cX7_take 75 = .ok (.iload_n 3, 1) := by decide +kernel
theorem dX7_take_76 : decode cX7_take 76 = .ok (.iload_n 2, 1) := by decide +kernel
theorem dX7_take_77 : decode cX7_take 77 = .ok (.idiv, 1) := by decide +kernel
theorem dX7_take_78 : decode cX7_take 78 = .ok (.iload_n 1, 1) := by decide +kernel
theorem dX7_take_79 : decode cX7_take 79 = .ok (.if_icmp .ne 26, 3) := by decide +kernel
theorem dX7_take_82 : decode cX7_take 82 = .ok (.aload_n 0, 1) := by decide +kernel
theorem dX7_take_83 : decode cX7_take 83 = .ok (.getfield 20, 3) := by decide +kernel
theorem dX7_take_86 : decode cX7_take 86 = .ok (.aload_n 0, 1) := by decide +kernel
theorem dX7_take_87 : decode cX7_take 87 = .ok (.getfield 31, 3) := by decide +kernel
theorem dX7_take_90 : decode cX7_take 90 = .ok (.dup2, 1) := by decide +kernel
theorem dX7_take_91 : decode cX7_take 91 = .ok (.laload, 1) := by decide +kernel
theorem dX7_take_92 : decode cX7_take 92 = .ok (.aload_n 0, 1) := by decide +kernel
theorem dX7_take_93 : decode cX7_take 93 = .ok (.iload_n 3, 1) := by decide +kernel
theorem dX7_take_94 : decode cX7_take 94 = .ok (.invokevirtual 110, 3) := by decide +kernel
theorem dX7_take_97 : decode cX7_take 97 = .ok (.invokestatic 77, 3) := by decide +kernel
theorem dX7_take_100 : decode cX7_take 100 = .ok (.lor, 1) := by decide +kernel
theorem dX7_take_101 : decode cX7_take 101 = .ok (.lastore, 1) := by decide +kernel
theorem dX7_take_102 : decode cX7_take 102 = .ok (.goto 20, 3) := by decide +kernel
theorem dX7_take_105 : decode cX7_take 105 = .ok (.aload_n 0, 1) := by decide +kernel
theorem dX7_take_106 : decode cX7_take 106 = .ok (.dup, 1) := by decide +kernel
theorem dX7_take_107 : decode cX7_take 107 = .ok (.getfield 95, 3) := by decide +kernel
theorem dX7_take_110 : decode cX7_take 110 = .ok (.aload_n 0, 1) := by decide +kernel
theorem dX7_take_111 : decode cX7_take 111 = .ok (.iload_n 3, 1) := by decide +kernel
theorem dX7_take_112 : decode cX7_take 112 = .ok (.invokevirtual 110, 3) := by decide +kernel
theorem dX7_take_115 : decode cX7_take 115 = .ok (.invokestatic 77, 3) := by decide +kernel
theorem dX7_take_118 : decode cX7_take 118 = .ok (.lor, 1) := by decide +kernel
theorem dX7_take_119 : decode cX7_take 119 = .ok (.putfield 95, 3) := by decide +kernel
theorem dX7_take_122 : decode cX7_take 122 = .ok (.iinc 3 1, 3) := by decide +kernel
theorem dX7_take_125 : decode cX7_take 125 = .ok (.goto (-56), 3) := by decide +kernel
theorem dX7_take_128 : decode cX7_take 128 = .ok (.aload_n 0, 1) := by decide +kernel
theorem dX7_take_129 : decode cX7_take 129 = .ok (.iload_n 2, 1) := by decide +kernel
theorem dX7_take_130 : decode cX7_take 130 = .ok (.putfield 128, 3) := by decide +kernel
theorem dX7_take_133 : decode cX7_take 133 = .ok (.aload_n 0, 1) := by decide +kernel
theorem dX7_take_134 : decode cX7_take 134 = .ok (.iconst 4, 1) := by decide +kernel
theorem dX7_take_135 : decode cX7_take 135 = .ok (.putfield 9, 3) := by decide +kernel
theorem dX7_take_138 : decode cX7_take 138 = .ok (.iload_n 2, 1) := by decide +kernel
theorem dX7_take_139 : decode cX7_take 139 = .ok (.ireturn, 1) := by decide +kernel
set_option maxRecDepth 20000 in
theorem ggX7_discard_X7_isCard : GoodIn wsX7_discard wsX7_isCard := goodIn_r _ [9, 10, 11, 8, 12] (by decide +kernel) (by decide +kernel)
set_option maxRecDepth 20000 in
theorem gX7_discard_X7_isCard : GoodIn wsX7_discard (va_wsS RX7 131 yX7_isCard wsX7_isCard) := goodIn_app (goodIn_of _ (by decide +kernel)) ggX7_discard_X7_isCard
set_option maxRecDepth 20000 in
theorem ggX7_discard_X7_has : GoodIn wsX7_discard wsX7_has := goodIn_r _ [15] (by decide +kernel) (by decide +kernel)
set_option maxRecDepth 20000 in
theorem gX7_discard_X7_has : GoodIn wsX7_discard (va_wsS RX7 124 yX7_has wsX7_has) := goodIn_app (goodIn_of _ (by decide +kernel)) ggX7_discard_X7_has
set_option maxRecDepth 20000 in
theorem ggX7_discard_X7_worth : GoodIn wsX7_discard wsX7_worth := goodIn_r _ [18] (by decide +kernel) (by decide +kernel)
set_option maxRecDepth 20000 in
theorem gX7_discard_X7_worth : GoodIn wsX7_discard (va_wsS RX7 134 yX7_worth wsX7_worth) := goodIn_app (goodIn_of _ (by decide +kernel)) ggX7_discard_X7_worth
set_option maxRecDepth 20000 in
theorem ggX7_discard_X7_isFine : GoodIn wsX7_discard wsX7_isFine := goodIn_r _ [22, 23, 35, 36, 37, 38, 39, 40, 41, 42, 43, 44, 45, 46, 47, 48, 49, 50, 51, 52, 53, 54, 55, 56, 57, 58, 59, 60, 61, 62, 63] (by decide +kernel) (by decide +kernel)
set_option maxRecDepth 20000 in
theorem gX7_discard_X7_isFine : GoodIn wsX7_discard (wsV RX7 66 RX7 yX7_isFine wsX7_isFine) := goodIn_app (goodIn_of _ (by decide +kernel)) ggX7_discard_X7_isFine
set_option maxRecDepth 20000 in
theorem ggX7_discard_X7_bit : GoodIn wsX7_discard wsX7_bit := goodIn_r _ [26] (by decide +kernel) (by decide +kernel)
set_option maxRecDepth 20000 in
theorem gX7_discard_X7_bit : GoodIn wsX7_discard (va_wsS RX7 77 yX7_bit wsX7_bit) := goodIn_app (goodIn_of _ (by decide +kernel)) ggX7_discard_X7_bit
set_option maxRecDepth 20000 in
theorem ggX7_discard_X7_begins : GoodIn wsX7_discard wsX7_begins := goodIn_r _ [30, 1, 31, 32, 33, 34, 35, 36, 37, 38, 39, 40, 41, 42, 43, 44, 45, 46, 47, 48, 49, 50, 51, 52, 53, 54, 55, 56, 57, 58, 59, 60, 61, 62, 63] (by decide +kernel) (by decide +kernel)
set_option maxRecDepth 20000 in
theorem gX7_discard_X7_begins : GoodIn wsX7_discard (wsV RX7 114 RX7 yX7_begins wsX7_begins) := goodIn_app (goodIn_of _ (by decide +kernel)) ggX7_discard_X7_begins
theorem dX7_discard_0 : decode cX7_discard 0 = .ok (.iload_n 1, 1) := by decide +kernel
theorem dX7_discard_1 : decode cX7_discard 1 = .ok (.invokestatic 131, 3) := by decide +kernel
theorem dX7_discard_4 : decode cX7_discard 4 = .ok (.ifCond .eq 39, 3) := by decide +kernel
theorem dX7_discard_7 : decode cX7_discard 7 = .ok (.aload_n 0, 1) := by decide +kernel
theorem dX7_discard_8 : decode cX7_discard 8 = .ok (.getfield 9, 3) := by decide +kernel
theorem dX7_discard_11 : decode cX7_discard 11 = .ok (.iconst 4, 1) := by decide +kernel
theorem dX7_discard_12 : decode cX7_discard 12 = .ok (.if_icmp .ne 31, 3) := by decide +kernel
theorem dX7_discard_15 : decode cX7_discard 15 = .ok (.aload_n 0, 1) := by decide +kernel
theorem dX7_discard_16 : decode cX7_discard 16 = .ok (.getfield 20, 3) := by decide +kernel
theorem dX7_discard_19 : decode cX7_discard 19 = .ok (.aload_n 0, 1) := by decide +kernel
theorem dX7_discard_20 : decode cX7_discard 20 = .ok (.getfield 31, 3) := by decide +kernel
theorem dX7_discard_23 : decode cX7_discard 23 = .ok (.laload, 1) := by decide +kernel
theorem dX7_discard_24 : decode cX7_discard 24 = .ok (.iload_n 1, 1) := by decide +kernel
theorem dX7_discard_25 : decode cX7_discard 25 = .ok (.invokestatic 124, 3) := by decide +kernel
theorem dX7_discard_28 : decode cX7_discard 28 = .ok (.ifCond .eq 15, 3) := by decide +kernel
theorem dX7_discard_31 : decode cX7_discard 31 = .ok (.iload_n 1, 1) := by decide +kernel
theorem dX7_discard_32 : decode cX7_discard 32 = .ok (.invokestatic 134, 3) := by decide +kernel
theorem dX7_discard_35 : decode cX7_discard 35 = .ok (.iconst 5, 1) := by decide +kernel
theorem dX7_discard_36 : decode cX7_discard 36 = .ok (.if_icmp .ge 7, 3) := by decide +kernel
theorem dX7_discard_39 : decode cX7_discard 39 = .ok (.iconst 1, 1) := by decide +kernel
theorem dX7_discard_40 : decode cX7_discard 40 = .ok (.goto 4, 3) := by decide +kernel
theorem dX7_discard_43 : decode cX7_discard 43 = .ok (.iconst 0, 1) := by decide +kernel
theorem dX7_discard_44 : decode cX7_discard 44 = .ok (.istore_n 2, 1) := by decide +kernel
theorem dX7_discard_45 : decode cX7_discard 45 = .ok (.aload_n 0, 1) := by decide +kernel
theorem dX7_discard_46 : decode cX7_discard 46 = .ok (.iload_n 1, 1) := by decide +kernel
theorem dX7_discard_47 : decode cX7_discard 47 = .ok (.invokestatic 131, 3) := by decide +kernel
theorem dX7_discard_50 : decode cX7_discard 50 = .ok (.ifCond .ne 7, 3) := by decide +kernel
theorem dX7_discard_53 : decode cX7_discard 53 = .ok (.iconst 1, 1) := by decide +kernel
theorem dX7_discard_54 : decode cX7_discard 54 = .ok (.goto 12, 3) := by decide +kernel
theorem dX7_discard_57 : decode cX7_discard 57 = .ok (.iload_n 2, 1) := by decide +kernel
theorem dX7_discard_58 : decode cX7_discard 58 = .ok (.ifCond .ne 7, 3) := by decide +kernel
theorem dX7_discard_61 : decode cX7_discard 61 = .ok (.iconst 2, 1) := by decide +kernel
theorem dX7_discard_62 : decode cX7_discard 62 = .ok (.goto 4, 3) := by decide +kernel
theorem dX7_discard_65 : decode cX7_discard 65 = .ok (.iconst 0, 1) := by decide +kernel
theorem dX7_discard_66 : decode cX7_discard 66 = .ok (.invokevirtual 66, 3) := by decide +kernel
theorem dX7_discard_69 : decode cX7_discard 69 = .ok (.ifCond .ne 5, 3) := by decide +kernel
theorem dX7_discard_72 : decode cX7_discard 72 = .ok (.iconst 0, 1) := by decide +kernel
theorem dX7_discard_73 : decode cX7_discard 73 = .ok (.ireturn, 1) := by decide +kernel
theorem dX7_discard_74 : decode cX7_discard 74 = .ok (.aload_n 0, 1) := by decide +kernel
theorem dX7_discard_75 : decode cX7_discard 75 = .ok (.getfield 20, 3) := by decide +kernel
theorem dX7_discard_78 : decode cX7_discard 78 = .ok (.aload_n 0, 1) := by decide +kernel
theorem dX7_discard_79 : decode cX7_discard 79 = .ok (.getfield 31, 3) := by decide +kernel
theorem dX7_discard_82 : decode cX7_discard 82 = .ok (.dup2, 1) := by decide +kernel
theorem dX7_discard_83 : decode cX7_discard 83 = .ok (.laload, 1) := by decide +kernel
theorem dX7_discard_84 : decode cX7_discard 84 = .ok (.iload_n 1, 1) := by decide +kernel
theorem dX7_discard_85 : decode cX7_discard 85 = .ok (.invokestatic 77, 3) := by decide +kernel
theorem dX7_discard_88 : decode cX7_discard 88 = .ok (.lsub, 1) := by decide +kernel
theorem dX7_discard_89 : decode cX7_discard 89 = .ok (.lastore, 1) := by decide +kernel
theorem dX7_discard_90 : decode cX7_discard 90 = .ok (.aload_n 0, 1) := by decide +kernel
theorem dX7_discard_91 : decode cX7_discard 91 = .ok (.dup, 1) := by decide +kernel
theorem dX7_discard_92 : decode cX7_discard 92 = .ok (.getfield 91, 3) := by decide +kernel
theorem dX7_discard_95 : decode cX7_discard 95 = .ok (.iload_n 1, 1) := by decide +kernel
theorem dX7_discard_96 : decode cX7_discard 96 = .ok (.invokestatic 77, 3) := by decide +kernel
theorem dX7_discard_99 : decode cX7_discard 99 = .ok (.lor, 1) := by decide +kernel
theorem dX7_discard_100 : decode cX7_discard 100 = .ok (.putfield 91, 3) := by decide +kernel
theorem dX7_discard_103 : decode cX7_discard 103 = .ok (.aload_n 0, 1) := by decide +kernel
theorem dX7_discard_104 : decode cX7_discard 104 = .ok (.dup, 1) := by decide +kernel
theorem dX7_discard_105 : decode cX7_discard 105 = .ok (.getfield 128, 3) := by decide +kernel
theorem dX7_discard_108 : decode cX7_discard 108 = .ok (.iconst 1, 1) := by decide +kernel
theorem dX7_discard_109 : decode cX7_discard 109 = .ok (.isub, 1) := by decide +kernel
theorem dX7_discard_110 : decode cX7_discard 110 = .ok (.putfield 128, 3) := by decide +kernel
theorem dX7_discard_113 : decode cX7_discard 113 = .ok (.aload_n 0, 1) := by decide +kernel
theorem dX7_discard_114 : decode cX7_discard 114 = .ok (.getfield 128, 3) := by decide +kernel
theorem dX7_discard_117 : decode cX7_discard 117 = .ok (.ifCond .ne 7, 3) := by decide +kernel
theorem dX7_discard_120 : decode cX7_discard 120 = .ok (.aload_n 0, 1) := by decide +kernel
theorem dX7_discard_121 : decode cX7_discard 121 = .ok (.invokevirtual 114, 3) := by decide +kernel
theorem dX7_discard_124 : decode cX7_discard 124 = .ok (.aload_n 0, 1) := by decide +kernel
theorem dX7_discard_125 : decode cX7_discard 125 = .ok (.getfield 128, 3) := by decide +kernel
theorem dX7_discard_128 : decode cX7_discard 128 = .ok (.ireturn, 1) := by decide +kernel
set_option maxRecDepth 20000 in
theorem ggX7_announce_X7_isIn : GoodIn wsX7_announce wsX7_isIn := goodIn_r _ [9] (by decide +kernel) (by decide +kernel)
set_option maxRecDepth 20000 in
theorem gX7_announce_X7_isIn : GoodIn wsX7_announce (va_wsS RX7 61 yX7_isIn wsX7_isIn) := goodIn_app (goodIn_of _ (by decide +kernel)) ggX7_announce_X7_isIn
set_option maxRecDepth 20000 in
theorem ggX7_announce_X7_isFine : GoodIn wsX7_announce wsX7_isFine := goodIn_r _ [13, 14, 15, 16, 17, 18, 19, 20, 21, 22, 23, 24, 25, 26, 27, 28, 29, 30, 31, 32, 33, 34, 35, 36, 37, 38, 39, 40, 41, 42, 43] (by decide +kernel) (by decide +kernel)
set_option maxRecDepth 20000 in
theorem gX7_announce_X7_isFine : GoodIn wsX7_announce (wsV RX7 66 RX7 yX7_isFine wsX7_isFine) := goodIn_app (goodIn_of _ (by decide +kernel)) ggX7_announce_X7_isFine
theorem dX7_announce_0 : decode cX7_announce 0 = .ok (.iload_n 1, 1) := by decide +kernel
theorem dX7_announce_1 : decode cX7_announce 1 = .ok (.iconst 0, 1) := by decide +kernel
theorem dX7_announce_2 : decode cX7_announce 2 = .ok (.iconst 1, 1) := by decide +kernel
theorem dX7_announce_3 : decode cX7_announce 3 = .ok (.invokestatic 61, 3) := by decide +kernel
theorem dX7_announce_6 : decode cX7_announce 6 = .ok (.istore_n 2, 1) := by decide +kernel
theorem dX7_announce_7 : decode cX7_announce 7 = .ok (.iload_n 2, 1) := by decide +kernel
theorem dX7_announce_8 : decode cX7_announce 8 = .ok (.ifCond .eq 50, 3) := by decide +kernel
theorem dX7_announce_11 : decode cX7_announce 11 = .ok (.aload_n 0, 1) := by decide +kernel
theorem dX7_announce_12 : decode cX7_announce 12 = .ok (.getfield 9, 3) := by decide +kernel
theorem dX7_announce_15 : decode cX7_announce 15 = .ok (.iconst 5, 1) := by decide +kernel
theorem dX7_announce_16 : decode cX7_announce 16 = .ok (.if_icmp .ne 42, 3) := by decide +kernel
theorem dX7_announce_19 : decode cX7_announce 19 = .ok (.aload_n 0, 1) := by decide +kernel
theorem dX7_announce_20 : decode cX7_announce 20 = .ok (.getfield 104, 3) := by decide +kernel
theorem dX7_announce_23 : decode cX7_announce 23 = .ok (.ifCond .ne 35, 3) := by decide +kernel
theorem dX7_announce_26 : decode cX7_announce 26 = .ok (.aload_n 0, 1) := by decide +kernel
theorem dX7_announce_27 : decode cX7_announce 27 = .ok (.getfield 101, 3) := by decide +kernel
theorem dX7_announce_30 : decode cX7_announce 30 = .ok (.ifCond .ne 28, 3) := by decide +kernel
theorem dX7_announce_33 : decode cX7_announce 33 = .ok (.aload_n 0, 1) := by decide +kernel
theorem dX7_announce_34 : decode cX7_announce 34 = .ok (.getfield 43, 3) := by decide +kernel
theorem dX7_announce_37 : decode cX7_announce 37 = .ok (.iload_n 1, 1) := by decide +kernel
theorem dX7_announce_38 : decode cX7_announce 38 = .ok (.baload, 1) := by decide +kernel
theorem dX7_announce_39 : decode cX7_announce 39 = .ok (.ifCond .ne 19, 3) := by decide +kernel
theorem dX7_announce_42 : decode cX7_announce 42 = .ok (.iload_n 1, 1) := by decide +kernel
theorem dX7_announce_43 : decode cX7_announce 43 = .ok (.ifCond .eq 11, 3) := by decide +kernel
theorem dX7_announce_46 : decode cX7_announce 46 = .ok (.aload_n 0, 1) := by decide +kernel
theorem dX7_announce_47 : decode cX7_announce 47 = .ok (.getfield 84, 3) := by decide +kernel
theorem dX7_announce_50 : decode cX7_announce 50 = .ok (.iconst 4, 1) := by decide +kernel
theorem dX7_announce_51 : decode cX7_announce 51 = .ok (.if_icmp .ge 7, 3) := by decide +kernel
theorem dX7_announce_54 : decode cX7_announce 54 = .ok (.iconst 1, 1) := by decide +kernel
theorem dX7_announce_55 : decode cX7_announce 55 = .ok (.goto 4, 3) := by decide +kernel
theorem dX7_announce_58 : decode cX7_announce 58 = .ok (.iconst 0, 1) := by decide +kernel
theorem dX7_announce_59 : decode cX7_announce 59 = .ok (.istore_n 3, 1) := by decide +kernel
theorem dX7_announce_60 : decode cX7_announce 60 = .ok (.aload_n 0, 1) := by decide +kernel
theorem dX7_announce_61 : decode cX7_announce 61 = .ok (.iload_n 2, 1) := by decide +kernel
theorem dX7_announce_62 : decode cX7_announce 62 = .ok (.ifCond .ne 7, 3) := by decide +kernel
theorem dX7_announce_65 : decode cX7_announce 65 = .ok (.iconst 1, 1) := by decide +kernel
theorem dX7_announce_66 : decode cX7_announce 66 = .ok (.goto 12, 3) := by decide +kernel
theorem dX7_announce_69 : decode cX7_announce 69 = .ok (.iload_n 3, 1) := by decide +kernel
theorem dX7_announce_70 : decode cX7_announce 70 = .ok (.ifCond .ne 7, 3) := by decide +kernel
theorem dX7_announce_73 : decode cX7_announce 73 = .ok (.iconst 2, 1) := by decide +kernel
theorem dX7_announce_74 : decode cX7_announce 74 = .ok (.goto 4, 3) := by decide +kernel
theorem dX7_announce_77 : decode cX7_announce 77 = .ok (.iconst 0, 1) := by decide +kernel
theorem dX7_announce_78 : decode cX7_announce 78 = .ok (.invokevirtual 66, 3) := by decide +kernel
theorem dX7_announce_81 : decode cX7_announce 81 = .ok (.ifCond .ne 5, 3) := by decide +kernel
theorem dX7_announce_84 : decode cX7_announce 84 = .ok (.iconst 0, 1) := by decide +kernel
theorem dX7_announce_85 : decode cX7_announce 85 = .ok (.ireturn, 1) := by decide +kernel
theorem dX7_announce_86 : decode cX7_announce 86 = .ok (.aload_n 0, 1) := by decide +kernel
theorem dX7_announce_87 : decode cX7_announce 87 = .ok (.getfield 43, 3) := by decide +kernel
theorem dX7_announce_90 : decode cX7_announce 90 = .ok (.iload_n 1, 1) := by decide +kernel
theorem dX7_announce_91 : decode cX7_announce 91 = .ok (.iconst 1, 1) := by decide +kernel
theorem dX7_announce_92 : decode cX7_announce 92 = .ok (.bastore, 1) := by decide +kernel
theorem dX7_announce_93 : decode cX7_announce 93 = .ok (.aload_n 0, 1) := by decide +kernel
theorem dX7_announce_94 : decode cX7_announce 94 = .ok (.getfield 43, 3) := by decide +kernel
theorem dX7_announce_97 : decode cX7_announce 97 = .ok (.iconst 0, 1) := by decide +kernel
theorem dX7_announce_98 : decode cX7_announce 98 = .ok (.baload, 1) := by decide +kernel
theorem dX7_announce_99 : decode cX7_announce 99 = .ok (.ifCond .eq 7, 3) := by decide +kernel
theorem dX7_announce_102 : decode cX7_announce 102 = .ok (.iconst 1, 1) := by decide +kernel
theorem dX7_announce_103 : decode cX7_announce 103 = .ok (.goto 4, 3) := by decide +kernel
theorem dX7_announce_106 : decode cX7_announce 106 = .ok (.iconst 0, 1) := by decide +kernel
theorem dX7_announce_107 : decode cX7_announce 107 = .ok (.aload_n 0, 1) := by decide +kernel
theorem dX7_announce_108 : decode cX7_announce 108 = .ok (.getfield 43, 3) := by decide +kernel
theorem dX7_announce_111 : decode cX7_announce 111 = .ok (.iconst 1, 1) := by decide +kernel
theorem dX7_announce_112 : decode cX7_announce 112 = .ok (.baload, 1) := by decide +kernel
theorem dX7_announce_113 : decode cX7_announce 113 = .ok (.ifCond .eq 7, 3) := by decide +kernel
theorem dX7_announce_116 : decode cX7_announce 116 = .ok (.iconst 1, 1) := by decide +kernel
theorem dX7_announce_117 : decode cX7_announce 117 = .ok (.goto 4, 3) := by decide +kernel
theorem dX7_announce_120 : decode cX7_announce 120 = .ok (.iconst 0, 1) := by decide +kernel
theorem dX7_announce_121 : decode cX7_announce 121 = .ok (.iadd, 1) := by decide +kernel
theorem dX7_announce_122 : decode cX7_announce 122 = .ok (.ireturn, 1) := by decide +kernel
set_option maxRecDepth 20000 in
theorem ggX7_hasSuit_X7_has : GoodIn wsX7_hasSuit wsX7_has := goodIn_r _ [4] (by decide +kernel) (by decide +kernel)
set_option maxRecDepth 20000 in
theorem gX7_hasSuit_X7_has : GoodIn wsX7_hasSuit (va_wsS RX7 124 yX7_has wsX7_has) := goodIn_app (goodIn_of _ (by decide +kernel)) ggX7_hasSuit_X7_has
set_option maxRecDepth 20000 in
theorem ggX7_hasSuit_X7_suit : GoodIn wsX7_hasSuit wsX7_suit := goodIn_r _ [7] (by decide +kernel) (by decide +kernel)
set_option maxRecDepth 20000 in
theorem gX7_hasSuit_X7_suit : GoodIn wsX7_hasSuit (va_wsS RX7 137 yX7_suit wsX7_suit) := goodIn_app (goodIn_of _ (by decide +kernel)) ggX7_hasSuit_X7_suit
theorem dX7_hasSuit_0 : decode cX7_hasSuit 0 = .ok (.iconst 0, 1) := by decide +kernel
theorem dX7_hasSuit_1 : decode cX7_hasSuit 1 = .ok (.istore_n 3, 1) := by decide +kernel
theorem dX7_hasSuit_2 : decode cX7_hasSuit 2 = .ok (.iconst 0, 1) := by decide +kernel
theorem dX7_hasSuit_3 : decode cX7_hasSuit 3 = .ok (.istore 4, 2) := by decide +kernel
theorem dX7_hasSuit_5 : decode cX7_hasSuit 5 = .ok (.iload 4, 2) := by decide +kernel
theorem dX7_hasSuit_7 : decode cX7_hasSuit 7 = .ok (.bipush 54, 2) := by decide +kernel
theorem dX7_hasSuit_9 : decode cX7_hasSuit 9 = .ok (.if_icmp .ge 37, 3) := by decide +kernel
theorem dX7_hasSuit_12 : decode cX7_hasSuit 12 = .ok (.iload_n 3, 1) := by decide +kernel
theorem dX7_hasSuit_13 : decode cX7_hasSuit 13 = .ok (.ifCond .ne 21, 3) := by decide +kernel
theorem dX7_hasSuit_16 : decode cX7_hasSuit 16 = .ok (.lload_n 0, 1) := by decide +kernel
theorem dX7_hasSuit_17 : decode cX7_hasSuit 17 = .ok (.iload 4, 2) := by decide +kernel
theorem dX7_hasSuit_19 : decode cX7_hasSuit 19 = .ok (.invokestatic 124, 3) := by decide +kernel
theorem dX7_hasSuit_22 : decode cX7_hasSuit 22 = .ok (.ifCond .eq 16, 3) := by decide +kernel
theorem dX7_hasSuit_25 : decode cX7_hasSuit 25 = .ok (.iload 4, 2) := by decide +kernel
theorem dX7_hasSuit_27 : decode cX7_hasSuit 27 = .ok (.invokestatic 137, 3) := by decide +kernel
theorem dX7_hasSuit_30 : decode cX7_hasSuit 30 = .ok (.iload_n 2, 1) := by decide +kernel
theorem dX7_hasSuit_31 : decode cX7_hasSuit 31 = .ok (.if_icmp .ne 7, 3) := by decide +kernel
theorem dX7_hasSuit_34 : decode cX7_hasSuit 34 = .ok (.iconst 1, 1) := by decide +kernel
theorem dX7_hasSuit_35 : decode cX7_hasSuit 35 = .ok (.goto 4, 3) := by decide +kernel
theorem dX7_hasSuit_38 : decode cX7_hasSuit 38 = .ok (.iconst 0, 1) := by decide +kernel
theorem dX7_hasSuit_39 : decode cX7_hasSuit 39 = .ok (.istore_n 3, 1) := by decide +kernel
theorem dX7_hasSuit_40 : decode cX7_hasSuit 40 = .ok (.iinc 4 1, 3) := by decide +kernel
theorem dX7_hasSuit_43 : decode cX7_hasSuit 43 = .ok (.goto (-38), 3) := by decide +kernel
theorem dX7_hasSuit_46 : decode cX7_hasSuit 46 = .ok (.iload_n 3, 1) := by decide +kernel
theorem dX7_hasSuit_47 : decode cX7_hasSuit 47 = .ok (.ireturn, 1) := by decide +kernel
set_option maxRecDepth 20000 in
theorem ggX7_isPlayable_X7_has : GoodIn wsX7_isPlayable wsX7_has := goodIn_r _ [9] (by decide +kernel) (by decide +kernel)
set_option maxRecDepth 20000 in
theorem gX7_isPlayable_X7_has : GoodIn wsX7_isPlayable (va_wsS RX7 124 yX7_has wsX7_has) := goodIn_app (goodIn_of _ (by decide +kernel)) ggX7_isPlayable_X7_has
set_option maxRecDepth 20000 in
theorem ggX7_isPlayable_X7_suit : GoodIn wsX7_isPlayable wsX7_suit := goodIn_r _ [12] (by decide +kernel) (by decide +kernel)
set_option maxRecDepth 20000 in
theorem gX7_isPlayable_X7_suit : GoodIn wsX7_isPlayable (va_wsS RX7 137 yX7_suit wsX7_suit) := goodIn_app (goodIn_of _ (by decide +kernel)) ggX7_isPlayable_X7_suit
set_option maxRecDepth 20000 in
theorem ggX7_isPlayable_X7_hasSuit : GoodIn wsX7_isPlayable wsX7_hasSuit := goodIn_r _ [15, 6, 7, 8, 9, 10, 11, 12] (by decide +kernel) (by decide +kernel)
set_option maxRecDepth 20000 in
theorem gX7_isPlayable_X7_hasSuit : GoodIn wsX7_isPlayable (va_wsS RX7 140 yX7_hasSuit wsX7_hasSuit) := goodIn_app (goodIn_of _ (by decide +kernel)) ggX7_isPlayable_X7_hasSuit
theorem dX7_isPlayable_0 : decode cX7_isPlayable 0 = .ok (.aload_n 0, 1) := by decide +kernel
theorem dX7_isPlayable_1 : decode cX7_isPlayable 1 = .ok (.getfield 9, 3) := by decide +kernel
theorem dX7_isPlayable_4 : decode cX7_isPlayable 4 = .ok (.iconst 5, 1) := by decide +kernel
theorem dX7_isPlayable_5 : decode cX7_isPlayable 5 = .ok (.if_icmp .ne 19, 3) := by decide +kernel
theorem dX7_isPlayable_8 : decode cX7_isPlayable 8 = .ok (.aload_n 0, 1) := by decide +kernel
theorem dX7_isPlayable_9 : decode cX7_isPlayable 9 = .ok (.getfield 20, 3) := by decide +kernel
theorem dX7_isPlayable_12 : decode cX7_isPlayable 12 = .ok (.aload_n 0, 1) := by decide +kernel
theorem dX7_isPlayable_13 : decode cX7_isPlayable 13 = .ok (.getfield 13, 3) := by decide +kernel
theorem dX7_isPlayable_16 : decode cX7_isPlayable 16 = .ok (.laload, 1) := by decide +kernel
theorem dX7_isPlayable_17 : decode cX7_isPlayable 17 = .ok (.iload_n 1, 1) := by decide +kernel
theorem dX7_isPlayable_18 : decode cX7_isPlayable 18 = .ok (.invokestatic 124, 3) := by decide +kernel
theorem dX7_isPlayable_21 : decode cX7_isPlayable 21 = .ok (.ifCond .ne 5, 3) := by decide +kernel
theorem dX7_isPlayable_24 : decode cX7_isPlayable 24 = .ok (.iconst 0, 1) := by decide +kernel
theorem dX7_isPlayable_25 : decode cX7_isPlayable 25 = .ok (.ireturn, 1) := by decide +kernel
theorem dX7_isPlayable_26 : decode cX7_isPlayable 26 = .ok (.aload_n 0, 1) := by decide +kernel
theorem dX7_isPlayable_27 : decode cX7_isPlayable 27 = .ok (.getfield 101, 3) := by decide +kernel
theorem dX7_isPlayable_30 : decode cX7_isPlayable 30 = .ok (.ifCond .ne 5, 3) := by decide +kernel
theorem dX7_isPlayable_33 : decode cX7_isPlayable 33 = .ok (.iconst 1, 1) := by decide +kernel
theorem dX7_isPlayable_34 : decode cX7_isPlayable 34 = .ok (.ireturn, 1) := by decide +kernel
theorem dX7_isPlayable_35 : decode cX7_isPlayable 35 = .ok (.aload_n 0, 1) := by decide +kernel
theorem dX7_isPlayable_36 : decode cX7_isPlayable 36 = .ok (.getfield 46, 3) := by decide +kernel
theorem dX7_isPlayable_39 : decode cX7_isPlayable 39 = .ok (.iconst 0, 1) := by decide +kernel
theorem dX7_isPlayable_40 : decode cX7_isPlayable 40 = .ok (.iaload, 1) := by decide +kernel
theorem dX7_isPlayable_41 : decode cX7_isPlayable 41 = .ok (.invokestatic 137, 3) := by decide +kernel
theorem dX7_isPlayable_44 : decode cX7_isPlayable 44 = .ok (.istore_n 2, 1) := by decide +kernel
theorem dX7_isPlayable_45 : decode cX7_isPlayable 45 = .ok (.aload_n 0, 1) := by decide +kernel
theorem dX7_isPlayable_46 : decode cX7_isPlayable 46 = .ok (.getfield 20, 3) := by decide +kernel
theorem dX7_isPlayable_49 : decode cX7_isPlayable 49 = .ok (.aload_n 0, 1) := by decide +kernel
theorem dX7_isPlayable_50 : decode cX7_isPlayable 50 = .ok (.getfield 13, 3) := by decide +kernel
theorem dX7_isPlayable_53 : decode cX7_isPlayable 53 = .ok (.laload, 1) := by decide +kernel
theorem dX7_isPlayable_54 : decode cX7_isPlayable 54 = .ok (.iload_n 2, 1) := by decide +kernel
theorem dX7_isPlayable_55 : decode cX7_isPlayable 55 = .ok (.invokestatic 140, 3) := by decide +kernel
theorem dX7_isPlayable_58 : decode cX7_isPlayable 58 = .ok (.ifCond .eq 17, 3) := by decide +kernel
theorem dX7_isPlayable_61 : decode cX7_isPlayable 61 = .ok (.iload_n 1, 1) := by decide +kernel
theorem dX7_isPlayable_62 : decode cX7_isPlayable 62 = .ok (.invokestatic 137, 3) := by decide +kernel
theorem dX7_isPlayable_65 : decode cX7_isPlayable 65 = .ok (.iload_n 2, 1) := by decide +kernel
theorem dX7_isPlayable_66 : decode cX7_isPlayable 66 = .ok (.if_icmp .ne 7, 3) := by decide +kernel
theorem dX7_isPlayable_69 : decode cX7_isPlayable 69 = .ok (.iconst 1, 1) := by decide +kernel
theorem dX7_isPlayable_70 : decode cX7_isPlayable 70 = .ok (.goto 4, 3) := by decide +kernel
theorem dX7_isPlayable_73 : decode cX7_isPlayable 73 = .ok (.iconst 0, 1) := by decide +kernel
theorem dX7_isPlayable_74 : decode cX7_isPlayable 74 = .ok (.ireturn, 1) := by decide +kernel
theorem dX7_isPlayable_75 : decode cX7_isPlayable 75 = .ok (.iload_n 1, 1) := by decide +kernel
theorem dX7_isPlayable_76 : decode cX7_isPlayable 76 = .ok (.invokestatic 137, 3) := by decide +kernel
theorem dX7_isPlayable_79 : decode cX7_isPlayable 79 = .ok (.iconst 4, 1) := by decide +kernel
theorem dX7_isPlayable_80 : decode cX7_isPlayable 80 = .ok (.if_icmp .eq 19, 3) := by decide +kernel
theorem dX7_isPlayable_83 : decode cX7_isPlayable 83 = .ok (.aload_n 0, 1) := by decide +kernel
theorem dX7_isPlayable_84 : decode cX7_isPlayable 84 = .ok (.getfield 20, 3) := by decide +kernel
theorem dX7_isPlayable_87 : decode cX7_isPlayable 87 = .ok (.aload_n 0, 1) := by decide +kernel
theorem dX7_isPlayable_88 : decode cX7_isPlayable 88 = .ok (.getfield 13, 3) := by decide +kernel
theorem dX7_isPlayable_91 : decode cX7_isPlayable 91 = .ok (.laload, 1) := by decide +kernel
theorem dX7_isPlayable_92 : decode cX7_isPlayable 92 = .ok (.iconst 4, 1) := by decide +kernel
theorem dX7_isPlayable_93 : decode cX7_isPlayable 93 = .ok (.invokestatic 140, 3) := by decide +kernel
theorem dX7_isPlayable_96 : decode cX7_isPlayable 96 = .ok (.ifCond .ne 7, 3) := by decide +kernel
theorem dX7_isPlayable_99 : decode cX7_isPlayable 99 = .ok (.iconst 1, 1) := by decide +kernel
theorem dX7_isPlayable_100 : decode cX7_isPlayable 100 = .ok (.goto 4, 3) := by decide +kernel
theorem dX7_isPlayable_103 : decode cX7_isPlayable 103 = .ok (.iconst 0, 1) := by decide +kernel
theorem dX7_isPlayable_104 : decode cX7_isPlayable 104 = .ok (.ireturn, 1) := by decide +kernel
set_option maxRecDepth 20000 in
theorem ggX7_best_X7_suit : GoodIn wsX7_best wsX7_suit := goodIn_r _ [6] (by decide +kernel) (by decide +kernel)
set_option maxRecDepth 20000 in
theorem gX7_best_X7_suit : GoodIn wsX7_best (va_wsS RX7 137 yX7_suit wsX7_suit) := goodIn_app (goodIn_of _ (by decide +kernel)) ggX7_best_X7_suit
theorem dX7_best_0 : decode cX7_best 0 = .ok (.iconst 0, 1) := by decide +kernel
theorem dX7_best_1 : decode cX7_best 1 = .ok (.istore_n 1, 1) := by decide +kernel
theorem dX7_best_2 : decode cX7_best 2 = .ok (.iconst 1, 1) := by decide +kernel
theorem dX7_best_3 : decode cX7_best 3 = .ok (.istore_n 2, 1) := by decide +kernel
theorem dX7_best_4 : decode cX7_best 4 = .ok (.iload_n 2, 1) := by decide +kernel
theorem dX7_best_5 : decode cX7_best 5 = .ok (.aload_n 0, 1) := by decide +kernel
theorem dX7_best_6 : decode cX7_best 6 = .ok (.getfield 101, 3) := by decide +kernel
theorem dX7_best_9 : decode cX7_best 9 = .ok (.if_icmp .ge 82, 3) := by decide +kernel
theorem dX7_best_12 : decode cX7_best 12 = .ok (.aload_n 0, 1) := by decide +kernel
theorem dX7_best_13 : decode cX7_best 13 = .ok (.getfield 46, 3) := by decide +kernel
theorem dX7_best_16 : decode cX7_best 16 = .ok (.iload_n 2, 1) := by decide +kernel
theorem dX7_best_17 : decode cX7_best 17 = .ok (.iaload, 1) := by decide +kernel
theorem dX7_best_18 : decode cX7_best 18 = .ok (.invokestatic 137, 3) := by decide +kernel
theorem dX7_best_21 : decode cX7_best 21 = .ok (.aload_n 0, 1) := by decide +kernel
theorem dX7_best_22 : decode cX7_best 22 = .ok (.getfield 46, 3) := by decide +kernel
theorem dX7_best_25 : decode cX7_best 25 = .ok (.iload_n 1, 1) := by decide +kernel
theorem dX7_best_26 : decode cX7_best 26 = .ok (.iaload, 1) := by decide +kernel
theorem dX7_best_27 : decode cX7_best 27 = .ok (.invokestatic 137, 3) := by decide +kernel
theorem dX7_best_30 : decode cX7_best 30 = .ok (.if_icmp .ne 26, 3) := by decide +kernel
theorem dX7_best_33 : decode cX7_best 33 = .ok (.aload_n 0, 1) := by decide +kernel
theorem dX7_best_34 : decode cX7_best 34 = .ok (.getfield 46, 3) := by decide +kernel
theorem dX7_best_37 : decode cX7_best 37 = .ok (.iload_n 2, 1) := by decide +kernel
theorem dX7_best_38 : decode cX7_best 38 = .ok (.iaload, 1) := by decide +kernel
theorem dX7_best_39 : decode cX7_best 39 = .ok (.aload_n 0, 1) := by decide +kernel
theorem dX7_best_40 : decode cX7_best 40 = .ok (.getfield 46, 3) := by decide +kernel
theorem dX7_best_43 : decode cX7_best 43 = .ok (.iload_n 1, 1) := by decide +kernel
theorem dX7_best_44 : decode cX7_best 44 = .ok (.iaload, 1) := by decide +kernel
theorem dX7_best_45 : decode cX7_best 45 = .ok (.if_icmp .le 7, 3) := by decide +kernel
theorem dX7_best_48 : decode cX7_best 48 = .ok (.iconst 1, 1) := by decide +kernel
theorem dX7_best_49 : decode cX7_best 49 = .ok (.goto 25, 3) := by decide +kernel
theorem dX7_best_52 : decode cX7_best 52 = .ok (.iconst 0, 1) := by decide +kernel
theorem dX7_best_53 : decode cX7_best 53 = .ok (.goto 21, 3) := by decide +kernel
theorem dX7_best_56 : decode cX7_best 56 = .ok (.aload_n 0, 1) := by decide +kernel
theorem dX7_best_57 : decode cX7_best 57 = .ok (.getfield 46, 3) := by decide +kernel
theorem dX7_best_60 : decode cX7_best 60 = .ok (.iload_n 2, 1) := by decide +kernel
theorem dX7_best_61 : decode cX7_best 61 = .ok (.iaload, 1) := by decide +kernel
theorem dX7_best_62 : decode cX7_best 62 = .ok (.invokestatic 137, 3) := by decide +kernel
theorem dX7_best_65 : decode cX7_best 65 = .ok (.iconst 4, 1) := by decide +kernel
theorem dX7_best_66 : decode cX7_best 66 = .ok (.if_icmp .ne 7, 3) := by decide +kernel
theorem dX7_best_69 : decode cX7_best 69 = .ok (.iconst 1, 1) := by decide +kernel
theorem dX7_best_70 : decode cX7_best 70 = .ok (.goto 4, 3) := by decide +kernel
theorem dX7_best_73 : decode cX7_best 73 = .ok (.iconst 0, 1) := by decide +kernel
theorem dX7_best_74 : decode cX7_best 74 = .ok (.istore_n 3, 1) := by decide +kernel
theorem dX7_best_75 : decode cX7_best 75 = .ok (.iload_n 3, 1) := by decide +kernel
theorem dX7_best_76 : decode cX7_best 76 = .ok (.ifCond .eq 7, 3) := by decide +kernel
theorem dX7_best_79 : decode cX7_best 79 = .ok (.iload_n 2, 1) := by decide +kernel
theorem dX7_best_80 : decode cX7_best 80 = .ok (.goto 4, 3) := by decide +kernel
theorem dX7_best_83 : decode cX7_best 83 = .ok (.iload_n 1, 1) := by decide +kernel
theorem dX7_best_84 : decode cX7_best 84 = .ok (.istore_n 1, 1) := by decide +kernel
theorem dX7_best_85 : decode cX7_best 85 = .ok (.iinc 2 1, 3) := by decide +kernel
theorem dX7_best_88 : decode cX7_best 88 = .ok (.goto (-84), 3) := by decide +kernel
theorem dX7_best_91 : decode cX7_best 91 = .ok (.iload_n 1, 1) := by decide +kernel
theorem dX7_best_92 : decode cX7_best 92 = .ok (.ireturn, 1) := by decide +kernel
theorem dX7_sideOf_0 : decode cX7_sideOf 0 = .ok (.iload_n 1, 1) := by decide +kernel
theorem dX7_sideOf_1 : decode cX7_sideOf 1 = .ok (.aload_n 0, 1) := by decide +kernel
theorem dX7_sideOf_2 : decode cX7_sideOf 2 = .ok (.getfield 31, 3) := by decide +kernel
theorem dX7_sideOf_5 : decode cX7_sideOf 5 = .ok (.if_icmp .eq 19, 3) := by decide +kernel
theorem dX7_sideOf_8 : decode cX7_sideOf 8 = .ok (.iload_n 1, 1) := by decide +kernel
theorem dX7_sideOf_9 : decode cX7_sideOf 9 = .ok (.aload_n 0, 1) := by decide +kernel
theorem dX7_sideOf_10 : decode cX7_sideOf 10 = .ok (.getfield 37, 3) := by decide +kernel
theorem dX7_sideOf_13 : decode cX7_sideOf 13 = .ok (.if_icmp .ne 15, 3) := by decide +kernel
theorem dX7_sideOf_16 : decode cX7_sideOf 16 = .ok (.aload_n 0, 1) := by decide +kernel
theorem dX7_sideOf_17 : decode cX7_sideOf 17 = .ok (.getfield 37, 3) := by decide +kernel
theorem dX7_sideOf_20 : decode cX7_sideOf 20 = .ok (.iconst (-1), 1) := by decide +kernel
theorem dX7_sideOf_21 : decode cX7_sideOf 21 = .ok (.if_icmp .eq 7, 3) := by decide +kernel
theorem dX7_sideOf_24 : decode cX7_sideOf 24 = .ok (.iconst 0, 1) := by decide +kernel
theorem dX7_sideOf_25 : decode cX7_sideOf 25 = .ok (.goto 4, 3) := by decide +kernel
theorem dX7_sideOf_28 : decode cX7_sideOf 28 = .ok (.iconst 1, 1) := by decide +kernel
theorem dX7_sideOf_29 : decode cX7_sideOf 29 = .ok (.ireturn, 1) := by decide +kernel
set_option maxRecDepth 20000 in
theorem ggX7_cardsOf_X7_sideOf : GoodIn wsX7_cardsOf wsX7_sideOf := goodIn_r _ [9, 10, 11, 12, 13, 14, 15, 16, 17, 18, 19, 20, 21, 22, 23, 24, 25, 26, 27, 28, 29, 30, 31, 32, 33, 34, 35, 36, 37, 38, 39, 40] (by decide +kernel) (by decide +kernel)
set_option maxRecDepth 20000 in
theorem gX7_cardsOf_X7_sideOf : GoodIn wsX7_cardsOf (wsV RX7 143 RX7 yX7_sideOf wsX7_sideOf) := goodIn_app (goodIn_of _ (by decide +kernel)) ggX7_cardsOf_X7_sideOf
theorem dX7_cardsOf_0 : decode cX7_cardsOf 0 = .ok (.iload_n 1, 1) := by decide +kernel
theorem dX7_cardsOf_1 : decode cX7_cardsOf 1 = .ok (.ifCond .ne 10, 3) := by decide +kernel
theorem dX7_cardsOf_4 : decode cX7_cardsOf 4 = .ok (.aload_n 0, 1) := by decide +kernel
theorem dX7_cardsOf_5 : decode cX7_cardsOf 5 = .ok (.getfield 91, 3) := by decide +kernel
theorem dX7_cardsOf_8 : decode cX7_cardsOf 8 = .ok (.goto 7, 3) := by decide +kernel
theorem dX7_cardsOf_11 : decode cX7_cardsOf 11 = .ok (.aload_n 0, 1) := by decide +kernel
theorem dX7_cardsOf_12 : decode cX7_cardsOf 12 = .ok (.getfield 95, 3) := by decide +kernel
theorem dX7_cardsOf_15 : decode cX7_cardsOf 15 = .ok (.lstore_n 2, 1) := by decide +kernel
theorem dX7_cardsOf_16 : decode cX7_cardsOf 16 = .ok (.iconst 0, 1) := by decide +kernel
theorem dX7_cardsOf_17 : decode cX7_cardsOf 17 = .ok (.istore 4, 2) := by decide +kernel
theorem dX7_cardsOf_19 : decode cX7_cardsOf 19 = .ok (.iload 4, 2) := by decide +kernel
theorem dX7_cardsOf_21 : decode cX7_cardsOf 21 = .ok (.iconst 4, 1) := by decide +kernel
theorem dX7_cardsOf_22 : decode cX7_cardsOf 22 = .ok (.if_icmp .ge 33, 3) := by decide +kernel
theorem dX7_cardsOf_25 : decode cX7_cardsOf 25 = .ok (.lload_n 2, 1) := by decide +kernel
theorem dX7_cardsOf_26 : decode cX7_cardsOf 26 = .ok (.aload_n 0, 1) := by decide +kernel
theorem dX7_cardsOf_27 : decode cX7_cardsOf 27 = .ok (.iload 4, 2) := by decide +kernel
theorem dX7_cardsOf_29 : decode cX7_cardsOf 29 = .ok (.invokevirtual 143, 3) := by decide +kernel
theorem dX7_cardsOf_32 : decode cX7_cardsOf 32 = .ok (.iload_n 1, 1) := by decide +kernel
theorem dX7_cardsOf_33 : decode cX7_cardsOf 33 = .ok (.if_icmp .ne 13, 3) := by decide +kernel
theorem dX7_cardsOf_36 : decode cX7_cardsOf 36 = .ok (.aload_n 0, 1) := by decide +kernel
theorem dX7_cardsOf_37 : decode cX7_cardsOf 37 = .ok (.getfield 49, 3) := by decide +kernel
theorem dX7_cardsOf_40 : decode cX7_cardsOf 40 = .ok (.iload 4, 2) := by decide +kernel
theorem dX7_cardsOf_42 : decode cX7_cardsOf 42 = .ok (.laload, 1) := by decide +kernel
theorem dX7_cardsOf_43 : decode cX7_cardsOf 43 = .ok (.goto 4, 3) := by decide +kernel
theorem dX7_cardsOf_46 : decode cX7_cardsOf 46 = .ok (.lconst 0, 1) := by decide +kernel
theorem dX7_cardsOf_47 : decode cX7_cardsOf 47 = .ok (.lor, 1) := by decide +kernel
theorem dX7_cardsOf_48 : decode cX7_cardsOf 48 = .ok (.lstore_n 2, 1) := by decide +kernel
theorem dX7_cardsOf_49 : decode cX7_cardsOf 49 = .ok (.iinc 4 1, 3) := by decide +kernel
theorem dX7_cardsOf_52 : decode cX7_cardsOf 52 = .ok (.goto (-33), 3) := by decide +kernel
theorem dX7_cardsOf_55 : decode cX7_cardsOf 55 = .ok (.aload_n 0, 1) := by decide +kernel
theorem dX7_cardsOf_56 : decode cX7_cardsOf 56 = .ok (.getfield 98, 3) := by decide +kernel
theorem dX7_cardsOf_59 : decode cX7_cardsOf 59 = .ok (.ifCond .eq 7, 3) := by decide +kernel
theorem dX7_cardsOf_62 : decode cX7_cardsOf 62 = .ok (.lload_n 2, 1) := by decide +kernel
theorem dX7_cardsOf_63 : decode cX7_cardsOf 63 = .ok (.goto 4, 3) := by decide +kernel
theorem dX7_cardsOf_66 : decode cX7_cardsOf 66 = .ok (.lconst 0, 1) := by decide +kernel
theorem dX7_cardsOf_67 : decode cX7_cardsOf 67 = .ok (.lreturn, 1) := by decide +kernel
set_option maxRecDepth 20000 in
theorem ggX7_counted_X7_cardsOf : GoodIn wsX7_counted wsX7_cardsOf := goodIn_r _ [5, 6, 7, 8, 9, 10, 11, 12, 4, 13, 14, 15, 22, 23, 24, 25, 26, 27, 28, 29, 30, 31, 32, 33, 34, 35, 36, 37, 38, 39, 40, 41, 42, 43, 44, 45, 46, 47, 48, 49, 50] (by decide +kernel) (by decide +kernel)
set_option maxRecDepth 20000 in
theorem gX7_counted_X7_cardsOf : GoodIn wsX7_counted (wsV RX7 146 RX7 yX7_cardsOf wsX7_cardsOf) := goodIn_app (goodIn_of _ (by decide +kernel)) ggX7_counted_X7_cardsOf
set_option maxRecDepth 20000 in
theorem ggX7_counted_X7_has : GoodIn wsX7_counted wsX7_has := goodIn_r _ [18] (by decide +kernel) (by decide +kernel)
set_option maxRecDepth 20000 in
theorem gX7_counted_X7_has : GoodIn wsX7_counted (va_wsS RX7 124 yX7_has wsX7_has) := goodIn_app (goodIn_of _ (by decide +kernel)) ggX7_counted_X7_has
set_option maxRecDepth 20000 in
theorem ggX7_counted_X7_worth : GoodIn wsX7_counted wsX7_worth := goodIn_r _ [21] (by decide +kernel) (by decide +kernel)
set_option maxRecDepth 20000 in
theorem gX7_counted_X7_worth : GoodIn wsX7_counted (va_wsS RX7 134 yX7_worth wsX7_worth) := goodIn_app (goodIn_of _ (by decide +kernel)) ggX7_counted_X7_worth
theorem dX7_counted_0 : decode cX7_counted 0 = .ok (.iconst 0, 1) := by decide +kernel
theorem dX7_counted_1 : decode cX7_counted 1 = .ok (.istore_n 2, 1) := by decide +kernel
theorem dX7_counted_2 : decode cX7_counted 2 = .ok (.iconst 0, 1) := by decide +kernel
theorem dX7_counted_3 : decode cX7_counted 3 = .ok (.istore_n 3, 1) := by decide +kernel
theorem dX7_counted_4 : decode cX7_counted 4 = .ok (.iload_n 3, 1) := by decide +kernel
theorem dX7_counted_5 : decode cX7_counted 5 = .ok (.bipush 54, 2) := by decide +kernel
theorem dX7_counted_7 : decode cX7_counted 7 = .ok (.if_icmp .ge 36, 3) := by decide +kernel
theorem dX7_counted_10 : decode cX7_counted 10 = .ok (.iload_n 2, 1) := by decide +kernel
theorem dX7_counted_11 : decode cX7_counted 11 = .ok (.aload_n 0, 1) := by decide +kernel
theorem dX7_counted_12 : decode cX7_counted 12 = .ok (.iload_n 1, 1) := by decide +kernel
theorem dX7_counted_13 : decode cX7_counted 13 = .ok (.invokevirtual 146, 3) := by decide +kernel
theorem dX7_counted_16 : decode cX7_counted 16 = .ok (.iload_n 3, 1) := by decide +kernel
theorem dX7_counted_17 : decode cX7_counted 17 = .ok (.invokestatic 124, 3) := by decide +kernel
theorem dX7_counted_20 : decode cX7_counted 20 = .ok (.ifCond .eq 14, 3) := by decide +kernel
theorem dX7_counted_23 : decode cX7_counted 23 = .ok (.iconst 3, 1) := by decide +kernel
theorem dX7_counted_24 : decode cX7_counted 24 = .ok (.iload_n 3, 1) := by decide +kernel
theorem dX7_counted_25 : decode cX7_counted 25 = .ok (.invokestatic 134, 3) := by decide +kernel
theorem dX7_counted_28 : decode cX7_counted 28 = .ok (.imul, 1) := by decide +kernel
theorem dX7_counted_29 : decode cX7_counted 29 = .ok (.iconst 2, 1) := by decide +kernel
theorem dX7_counted_30 : decode cX7_counted 30 = .ok (.isub, 1) := by decide +kernel
theorem dX7_counted_31 : decode cX7_counted 31 = .ok (.goto 4, 3) := by decide +kernel
theorem dX7_counted_34 : decode cX7_counted 34 = .ok (.iconst 0, 1) := by decide +kernel
theorem dX7_counted_35 : decode cX7_counted 35 = .ok (.iadd, 1) := by decide +kernel
theorem dX7_counted_36 : decode cX7_counted 36 = .ok (.istore_n 2, 1) := by decide +kernel
theorem dX7_counted_37 : decode cX7_counted 37 = .ok (.iinc 3 1, 3) := by decide +kernel
theorem dX7_counted_40 : decode cX7_counted 40 = .ok (.goto (-36), 3) := by decide +kernel
theorem dX7_counted_43 : decode cX7_counted 43 = .ok (.iload_n 2, 1) := by decide +kernel
theorem dX7_counted_44 : decode cX7_counted 44 = .ok (.ireturn, 1) := by decide +kernel
theorem dX7_placeOf_0 : decode cX7_placeOf 0 = .ok (.iconst 0, 1) := by decide +kernel
theorem dX7_placeOf_1 : decode cX7_placeOf 1 = .ok (.istore_n 2, 1) := by decide +kernel
theorem dX7_placeOf_2 : decode cX7_placeOf 2 = .ok (.iload_n 2, 1) := by decide +kernel
theorem dX7_placeOf_3 : decode cX7_placeOf 3 = .ok (.aload_n 0, 1) := by decide +kernel
theorem dX7_placeOf_4 : decode cX7_placeOf 4 = .ok (.getfield 101, 3) := by decide +kernel
theorem dX7_placeOf_7 : decode cX7_placeOf 7 = .ok (.if_icmp .ge 21, 3) := by decide +kernel
theorem dX7_placeOf_10 : decode cX7_placeOf 10 = .ok (.aload_n 0, 1) := by decide +kernel
theorem dX7_placeOf_11 : decode cX7_placeOf 11 = .ok (.getfield 46, 3) := by decide +kernel
theorem dX7_placeOf_14 : decode cX7_placeOf 14 = .ok (.iload_n 2, 1) := by decide +kernel
theorem dX7_placeOf_15 : decode cX7_placeOf 15 = .ok (.iaload, 1) := by decide +kernel
theorem dX7_placeOf_16 : decode cX7_placeOf 16 = .ok (.iload_n 1, 1) := by decide +kernel
theorem dX7_placeOf_17 : decode cX7_placeOf 17 = .ok (.if_icmp .ne 5, 3) := by decide +kernel
theorem dX7_placeOf_20 : decode cX7_placeOf 20 = .ok (.iload_n 2, 1) := by decide +kernel
theorem dX7_placeOf_21 : decode cX7_placeOf 21 = .ok (.ireturn, 1) := by decide +kernel
theorem dX7_placeOf_22 : decode cX7_placeOf 22 = .ok (.iinc 2 1, 3) := by decide +kernel
theorem dX7_placeOf_25 : decode cX7_placeOf 25 = .ok (.goto (-23), 3) := by decide +kernel
theorem dX7_placeOf_28 : decode cX7_placeOf 28 = .ok (.iconst (-1), 1) := by decide +kernel
theorem dX7_placeOf_29 : decode cX7_placeOf 29 = .ok (.ireturn, 1) := by decide +kernel
set_option maxRecDepth 20000 in
theorem ggX7_pagatCount_X7_placeOf : GoodIn wsX7_pagatCount wsX7_placeOf := goodIn_r _ [7, 8, 9, 23, 24, 25, 26, 27, 28, 29, 30, 31, 32, 33, 34, 35, 36, 37, 38, 39, 40, 41, 42, 43, 44, 45, 46, 47, 48, 49, 50, 51] (by decide +kernel) (by decide +kernel)
set_option maxRecDepth 20000 in
theorem gX7_pagatCount_X7_placeOf : GoodIn wsX7_pagatCount (wsV RX7 149 RX7 yX7_placeOf wsX7_placeOf) := goodIn_app (goodIn_of _ (by decide +kernel)) ggX7_pagatCount_X7_placeOf
set_option maxRecDepth 20000 in
theorem ggX7_pagatCount_X7_sideOf : GoodIn wsX7_pagatCount wsX7_sideOf := goodIn_r _ [13, 14, 15, 23, 24, 25, 26, 27, 28, 29, 30, 31, 32, 33, 34, 35, 36, 37, 38, 39, 40, 41, 42, 43, 44, 45, 46, 47, 48, 49, 50, 51] (by decide +kernel) (by decide +kernel)
set_option maxRecDepth 20000 in
theorem gX7_pagatCount_X7_sideOf : GoodIn wsX7_pagatCount (wsV RX7 143 RX7 yX7_sideOf wsX7_sideOf) := goodIn_app (goodIn_of _ (by decide +kernel)) ggX7_pagatCount_X7_sideOf
set_option maxRecDepth 20000 in
theorem ggX7_pagatCount_X7_best : GoodIn wsX7_pagatCount wsX7_best := goodIn_r _ [19, 8, 9, 20, 21, 6, 22, 23, 24, 25, 26, 27, 28, 29, 30, 31, 32, 33, 34, 35, 36, 37, 38, 39, 40, 41, 42, 43, 44, 45, 46, 47, 48, 49, 50, 51] (by decide +kernel) (by decide +kernel)
set_option maxRecDepth 20000 in
theorem gX7_pagatCount_X7_best : GoodIn wsX7_pagatCount (wsV RX7 152 RX7 yX7_best wsX7_best) := goodIn_app (goodIn_of _ (by decide +kernel)) ggX7_pagatCount_X7_best
theorem dX7_pagatCount_0 : decode cX7_pagatCount 0 = .ok (.aload_n 0, 1) := by decide +kernel
theorem dX7_pagatCount_1 : decode cX7_pagatCount 1 = .ok (.bipush 32, 2) := by decide +kernel
theorem dX7_pagatCount_3 : decode cX7_pagatCount 3 = .ok (.invokevirtual 149, 3) := by decide +kernel
theorem dX7_pagatCount_6 : decode cX7_pagatCount 6 = .ok (.istore_n 1, 1) := by decide +kernel
theorem dX7_pagatCount_7 : decode cX7_pagatCount 7 = .ok (.iload_n 1, 1) := by decide +kernel
theorem dX7_pagatCount_8 : decode cX7_pagatCount 8 = .ok (.iconst (-1), 1) := by decide +kernel
theorem dX7_pagatCount_9 : decode cX7_pagatCount 9 = .ok (.if_icmp .ne 7, 3) := by decide +kernel
theorem dX7_pagatCount_12 : decode cX7_pagatCount 12 = .ok (.iconst (-1), 1) := by decide +kernel
theorem dX7_pagatCount_13 : decode cX7_pagatCount 13 = .ok (.goto 15, 3) := by decide +kernel
theorem dX7_pagatCount_16 : decode cX7_pagatCount 16 = .ok (.aload_n 0, 1) := by decide +kernel
theorem dX7_pagatCount_17 : decode cX7_pagatCount 17 = .ok (.aload_n 0, 1) := by decide +kernel
theorem dX7_pagatCount_18 : decode cX7_pagatCount 18 = .ok (.getfield 107, 3) := by decide +kernel
theorem dX7_pagatCount_21 : decode cX7_pagatCount 21 = .ok (.iload_n 1, 1) := by decide +kernel
theorem dX7_pagatCount_22 : decode cX7_pagatCount 22 = .ok (.iadd, 1) := by decide +kernel
theorem dX7_pagatCount_23 : decode cX7_pagatCount 23 = .ok (.iconst 4, 1) := by decide +kernel
theorem dX7_pagatCount_24 : decode cX7_pagatCount 24 = .ok (.irem, 1) := by decide +kernel
theorem dX7_pagatCount_25 : decode cX7_pagatCount 25 = .ok (.invokevirtual 143, 3) := by decide +kernel
theorem dX7_pagatCount_28 : decode cX7_pagatCount 28 = .ok (.istore_n 2, 1) := by decide +kernel
theorem dX7_pagatCount_29 : decode cX7_pagatCount 29 = .ok (.iload_n 1, 1) := by decide +kernel
theorem dX7_pagatCount_30 : decode cX7_pagatCount 30 = .ok (.iconst (-1), 1) := by decide +kernel
theorem dX7_pagatCount_31 : decode cX7_pagatCount 31 = .ok (.if_icmp .eq 15, 3) := by decide +kernel
theorem dX7_pagatCount_34 : decode cX7_pagatCount 34 = .ok (.aload_n 0, 1) := by decide +kernel
theorem dX7_pagatCount_35 : decode cX7_pagatCount 35 = .ok (.invokevirtual 152, 3) := by decide +kernel
theorem dX7_pagatCount_38 : decode cX7_pagatCount 38 = .ok (.iload_n 1, 1) := by decide +kernel
theorem dX7_pagatCount_39 : decode cX7_pagatCount 39 = .ok (.if_icmp .ne 7, 3) := by decide +kernel
theorem dX7_pagatCount_42 : decode cX7_pagatCount 42 = .ok (.iconst 1, 1) := by decide +kernel
theorem dX7_pagatCount_43 : decode cX7_pagatCount 43 = .ok (.goto 4, 3) := by decide +kernel
theorem dX7_pagatCount_46 : decode cX7_pagatCount 46 = .ok (.iconst 0, 1) := by decide +kernel
theorem dX7_pagatCount_47 : decode cX7_pagatCount 47 = .ok (.istore_n 3, 1) := by decide +kernel
theorem dX7_pagatCount_48 : decode cX7_pagatCount 48 = .ok (.aload_n 0, 1) := by decide +kernel
theorem dX7_pagatCount_49 : decode cX7_pagatCount 49 = .ok (.getfield 43, 3) := by decide +kernel
theorem dX7_pagatCount_52 : decode cX7_pagatCount 52 = .ok (.iconst 0, 1) := by decide +kernel
theorem dX7_pagatCount_53 : decode cX7_pagatCount 53 = .ok (.baload, 1) := by decide +kernel
theorem dX7_pagatCount_54 : decode cX7_pagatCount 54 = .ok (.ifCond .eq 19, 3) := by decide +kernel
theorem dX7_pagatCount_57 : decode cX7_pagatCount 57 = .ok (.iload_n 3, 1) := by decide +kernel
theorem dX7_pagatCount_58 : decode cX7_pagatCount 58 = .ok (.ifCond .eq 12, 3) := by decide +kernel
theorem dX7_pagatCount_61 : decode cX7_pagatCount 61 = .ok (.iload_n 2, 1) := by decide +kernel
theorem dX7_pagatCount_62 : decode cX7_pagatCount 62 = .ok (.ifCond .ne 8, 3) := by decide +kernel
theorem dX7_pagatCount_65 : decode cX7_pagatCount 65 = .ok (.bipush 50, 2) := by decide +kernel
theorem dX7_pagatCount_67 : decode cX7_pagatCount 67 = .ok (.goto 5, 3) := by decide +kernel
theorem dX7_pagatCount_70 : decode cX7_pagatCount 70 = .ok (.bipush (-50), 2) := by decide +kernel
theorem dX7_pagatCount_72 : decode cX7_pagatCount 72 = .ok (.ireturn, 1) := by decide +kernel
theorem dX7_pagatCount_73 : decode cX7_pagatCount 73 = .ok (.iload_n 1, 1) := by decide +kernel
theorem dX7_pagatCount_74 : decode cX7_pagatCount 74 = .ok (.iconst (-1), 1) := by decide +kernel
theorem dX7_pagatCount_75 : decode cX7_pagatCount 75 = .ok (.if_icmp .ne 7, 3) := by decide +kernel
theorem dX7_pagatCount_78 : decode cX7_pagatCount 78 = .ok (.iconst 0, 1) := by decide +kernel
theorem dX7_pagatCount_79 : decode cX7_pagatCount 79 = .ok (.goto 23, 3) := by decide +kernel
theorem dX7_pagatCount_82 : decode cX7_pagatCount 82 = .ok (.iload_n 3, 1) := by decide +kernel
theorem dX7_pagatCount_83 : decode cX7_pagatCount 83 = .ok (.iload_n 2, 1) := by decide +kernel
theorem dX7_pagatCount_84 : decode cX7_pagatCount 84 = .ok (.ifCond .ne 7, 3) := by decide +kernel
theorem dX7_pagatCount_87 : decode cX7_pagatCount 87 = .ok (.iconst 1, 1) := by decide +kernel
theorem dX7_pagatCount_88 : decode cX7_pagatCount 88 = .ok (.goto 4, 3) := by decide +kernel
theorem dX7_pagatCount_91 : decode cX7_pagatCount 91 = .ok (.iconst 0, 1) := by decide +kernel
theorem dX7_pagatCount_92 : decode cX7_pagatCount 92 = .ok (.if_icmp .ne 8, 3) := by decide +kernel
theorem dX7_pagatCount_95 : decode cX7_pagatCount 95 = .ok (.bipush 25, 2) := by decide +kernel
theorem dX7_pagatCount_97 : decode cX7_pagatCount 97 = .ok (.goto 5, 3) := by decide +kernel
theorem dX7_pagatCount_100 : decode cX7_pagatCount 100 = .ok (.bipush (-25), 2) := by decide +kernel
theorem dX7_pagatCount_102 : decode cX7_pagatCount 102 = .ok (.ireturn, 1) := by decide +kernel
set_option maxRecDepth 20000 in
theorem ggX7_kingCount_X7_king : GoodIn wsX7_kingCount wsX7_king := goodIn_r _ [8, 1, 28, 29, 30, 31, 32, 33, 34, 35, 36, 37, 38, 39, 40, 41, 42, 43, 44, 45, 46, 47, 48, 49, 50, 51, 52, 53, 54, 55, 56] (by decide +kernel) (by decide +kernel)
set_option maxRecDepth 20000 in
theorem gX7_kingCount_X7_king : GoodIn wsX7_kingCount (wsV RX7 120 RX7 yX7_king wsX7_king) := goodIn_app (goodIn_of _ (by decide +kernel)) ggX7_kingCount_X7_king
set_option maxRecDepth 20000 in
theorem ggX7_kingCount_X7_placeOf : GoodIn wsX7_kingCount wsX7_placeOf := goodIn_r _ [12, 13, 14, 28, 29, 30, 31, 32, 33, 34, 35, 36, 37, 38, 39, 40, 41, 42, 43, 44, 45, 46, 47, 48, 49, 50, 51, 52, 53, 54, 55, 56] (by decide +kernel) (by decide +kernel)
set_option maxRecDepth 20000 in
theorem gX7_kingCount_X7_placeOf : GoodIn wsX7_kingCount (wsV RX7 149 RX7 yX7_placeOf wsX7_placeOf) := goodIn_app (goodIn_of _ (by decide +kernel)) ggX7_kingCount_X7_placeOf
set_option maxRecDepth 20000 in
theorem ggX7_kingCount_X7_best : GoodIn wsX7_kingCount wsX7_best := goodIn_r _ [18, 13, 14, 19, 20, 7, 21, 28, 29, 30, 31, 32, 33, 34, 35, 36, 37, 38, 39, 40, 41, 42, 43, 44, 45, 46, 47, 48, 49, 50, 51, 52, 53, 54, 55, 56] (by decide +kernel) (by decide +kernel)
set_option maxRecDepth 20000 in
theorem gX7_kingCount_X7_best : GoodIn wsX7_kingCount (wsV RX7 152 RX7 yX7_best wsX7_best) := goodIn_app (goodIn_of _ (by decide +kernel)) ggX7_kingCount_X7_best
set_option maxRecDepth 20000 in
theorem ggX7_kingCount_X7_sideOf : GoodIn wsX7_kingCount wsX7_sideOf := goodIn_r _ [25, 26, 27, 28, 29, 30, 31, 32, 33, 34, 35, 36, 37, 38, 39, 40, 41, 42, 43, 44, 45, 46, 47, 48, 49, 50, 51, 52, 53, 54, 55, 56] (by decide +kernel) (by decide +kernel)
set_option maxRecDepth 20000 in
theorem gX7_kingCount_X7_sideOf : GoodIn wsX7_kingCount (wsV RX7 143 RX7 yX7_sideOf wsX7_sideOf) := goodIn_app (goodIn_of _ (by decide +kernel)) ggX7_kingCount_X7_sideOf
theorem dX7_kingCount_0 : decode cX7_kingCount 0 = .ok (.aload_n 0, 1) := by decide +kernel
theorem dX7_kingCount_1 : decode cX7_kingCount 1 = .ok (.getfield 34, 3) := by decide +kernel
theorem dX7_kingCount_4 : decode cX7_kingCount 4 = .ok (.iconst (-1), 1) := by decide +kernel
theorem dX7_kingCount_5 : decode cX7_kingCount 5 = .ok (.if_icmp .ne 7, 3) := by decide +kernel
theorem dX7_kingCount_8 : decode cX7_kingCount 8 = .ok (.iconst (-1), 1) := by decide +kernel
theorem dX7_kingCount_9 : decode cX7_kingCount 9 = .ok (.goto 11, 3) := by decide +kernel
theorem dX7_kingCount_12 : decode cX7_kingCount 12 = .ok (.aload_n 0, 1) := by decide +kernel
theorem dX7_kingCount_13 : decode cX7_kingCount 13 = .ok (.aload_n 0, 1) := by decide +kernel
theorem dX7_kingCount_14 : decode cX7_kingCount 14 = .ok (.invokevirtual 120, 3) := by decide +kernel
theorem dX7_kingCount_17 : decode cX7_kingCount 17 = .ok (.invokevirtual 149, 3) := by decide +kernel
theorem dX7_kingCount_20 : decode cX7_kingCount 20 = .ok (.istore_n 1, 1) := by decide +kernel
theorem dX7_kingCount_21 : decode cX7_kingCount 21 = .ok (.aload_n 0, 1) := by decide +kernel
theorem dX7_kingCount_22 : decode cX7_kingCount 22 = .ok (.aload_n 0, 1) := by decide +kernel
theorem dX7_kingCount_23 : decode cX7_kingCount 23 = .ok (.getfield 107, 3) := by decide +kernel
theorem dX7_kingCount_26 : decode cX7_kingCount 26 = .ok (.aload_n 0, 1) := by decide +kernel
theorem dX7_kingCount_27 : decode cX7_kingCount 27 = .ok (.invokevirtual 152, 3) := by decide +kernel
theorem dX7_kingCount_30 : decode cX7_kingCount 30 = .ok (.iadd, 1) := by decide +kernel
theorem dX7_kingCount_31 : decode cX7_kingCount 31 = .ok (.iconst 4, 1) := by decide +kernel
theorem dX7_kingCount_32 : decode cX7_kingCount 32 = .ok (.irem, 1) := by decide +kernel
theorem dX7_kingCount_33 : decode cX7_kingCount 33 = .ok (.invokevirtual 143, 3) := by decide +kernel
theorem dX7_kingCount_36 : decode cX7_kingCount 36 = .ok (.ifCond .ne 7, 3) := by decide +kernel
theorem dX7_kingCount_39 : decode cX7_kingCount 39 = .ok (.iconst 1, 1) := by decide +kernel
theorem dX7_kingCount_40 : decode cX7_kingCount 40 = .ok (.goto 4, 3) := by decide +kernel
theorem dX7_kingCount_43 : decode cX7_kingCount 43 = .ok (.iconst 0, 1) := by decide +kernel
theorem dX7_kingCount_44 : decode cX7_kingCount 44 = .ok (.istore_n 2, 1) := by decide +kernel
theorem dX7_kingCount_45 : decode cX7_kingCount 45 = .ok (.aload_n 0, 1) := by decide +kernel
theorem dX7_kingCount_46 : decode cX7_kingCount 46 = .ok (.getfield 43, 3) := by decide +kernel
theorem dX7_kingCount_49 : decode cX7_kingCount 49 = .ok (.iconst 1, 1) := by decide +kernel
theorem dX7_kingCount_50 : decode cX7_kingCount 50 = .ok (.baload, 1) := by decide +kernel
theorem dX7_kingCount_51 : decode cX7_kingCount 51 = .ok (.ifCond .eq 20, 3) := by decide +kernel
theorem dX7_kingCount_54 : decode cX7_kingCount 54 = .ok (.iload_n 1, 1) := by decide +kernel
theorem dX7_kingCount_55 : decode cX7_kingCount 55 = .ok (.iconst (-1), 1) := by decide +kernel
theorem dX7_kingCount_56 : decode cX7_kingCount 56 = .ok (.if_icmp .eq 12, 3) := by decide +kernel
theorem dX7_kingCount_59 : decode cX7_kingCount 59 = .ok (.iload_n 2, 1) := by decide +kernel
theorem dX7_kingCount_60 : decode cX7_kingCount 60 = .ok (.ifCond .eq 8, 3) := by decide +kernel
theorem dX7_kingCount_63 : decode cX7_kingCount 63 = .ok (.bipush 20, 2) := by decide +kernel
theorem dX7_kingCount_65 : decode cX7_kingCount 65 = .ok (.goto 5, 3) := by decide +kernel
theorem dX7_kingCount_68 : decode cX7_kingCount 68 = .ok (.bipush (-20), 2) := by decide +kernel
theorem dX7_kingCount_70 : decode cX7_kingCount 70 = .ok (.ireturn, 1) := by decide +kernel
theorem dX7_kingCount_71 : decode cX7_kingCount 71 = .ok (.iload_n 1, 1) := by decide +kernel
theorem dX7_kingCount_72 : decode cX7_kingCount 72 = .ok (.iconst (-1), 1) := by decide +kernel
theorem dX7_kingCount_73 : decode cX7_kingCount 73 = .ok (.if_icmp .ne 7, 3) := by decide +kernel
theorem dX7_kingCount_76 : decode cX7_kingCount 76 = .ok (.iconst 0, 1) := by decide +kernel
theorem dX7_kingCount_77 : decode cX7_kingCount 77 = .ok (.goto 14, 3) := by decide +kernel
theorem dX7_kingCount_80 : decode cX7_kingCount 80 = .ok (.iload_n 2, 1) := by decide +kernel
theorem dX7_kingCount_81 : decode cX7_kingCount 81 = .ok (.ifCond .eq 8, 3) := by decide +kernel
theorem dX7_kingCount_84 : decode cX7_kingCount 84 = .ok (.bipush 10, 2) := by decide +kernel
theorem dX7_kingCount_86 : decode cX7_kingCount 86 = .ok (.goto 5, 3) := by decide +kernel
theorem dX7_kingCount_89 : decode cX7_kingCount 89 = .ok (.bipush (-10), 2) := by decide +kernel
theorem dX7_kingCount_91 : decode cX7_kingCount 91 = .ok (.ireturn, 1) := by decide +kernel
theorem dX7_gameCount_0 : decode cX7_gameCount 0 = .ok (.aload_n 0, 1) := by decide +kernel
theorem dX7_gameCount_1 : decode cX7_gameCount 1 = .ok (.getfield 84, 3) := by decide +kernel
theorem dX7_gameCount_4 : decode cX7_gameCount 4 = .ok (.iconst 5, 1) := by decide +kernel
theorem dX7_gameCount_5 : decode cX7_gameCount 5 = .ok (.if_icmp .ne 7, 3) := by decide +kernel
theorem dX7_gameCount_8 : decode cX7_gameCount 8 = .ok (.iconst 0, 1) := by decide +kernel
theorem dX7_gameCount_9 : decode cX7_gameCount 9 = .ok (.goto 22, 3) := by decide +kernel
theorem dX7_gameCount_12 : decode cX7_gameCount 12 = .ok (.iload_n 1, 1) := by decide +kernel
theorem dX7_gameCount_13 : decode cX7_gameCount 13 = .ok (.bipush 105, 2) := by decide +kernel
theorem dX7_gameCount_15 : decode cX7_gameCount 15 = .ok (.if_icmp .le 10, 3) := by decide +kernel
theorem dX7_gameCount_18 : decode cX7_gameCount 18 = .ok (.iload_n 1, 1) := by decide +kernel
theorem dX7_gameCount_19 : decode cX7_gameCount 19 = .ok (.bipush 105, 2) := by decide +kernel
theorem dX7_gameCount_21 : decode cX7_gameCount 21 = .ok (.isub, 1) := by decide +kernel
theorem dX7_gameCount_22 : decode cX7_gameCount 22 = .ok (.goto 7, 3) := by decide +kernel
theorem dX7_gameCount_25 : decode cX7_gameCount 25 = .ok (.bipush 105, 2) := by decide +kernel
theorem dX7_gameCount_27 : decode cX7_gameCount 27 = .ok (.iload_n 1, 1) := by decide +kernel
theorem dX7_gameCount_28 : decode cX7_gameCount 28 = .ok (.isub, 1) := by decide +kernel
theorem dX7_gameCount_29 : decode cX7_gameCount 29 = .ok (.iconst 3, 1) := by decide +kernel
theorem dX7_gameCount_30 : decode cX7_gameCount 30 = .ok (.idiv, 1) := by decide +kernel
theorem dX7_gameCount_31 : decode cX7_gameCount 31 = .ok (.istore_n 2, 1) := by decide +kernel
theorem dX7_gameCount_32 : decode cX7_gameCount 32 = .ok (.iload_n 2, 1) := by decide +kernel
theorem dX7_gameCount_33 : decode cX7_gameCount 33 = .ok (.aload_n 0, 1) := by decide +kernel
theorem dX7_gameCount_34 : decode cX7_gameCount 34 = .ok (.getfield 84, 3) := by decide +kernel
theorem dX7_gameCount_37 : decode cX7_gameCount 37 = .ok (.iconst 4, 1) := by decide +kernel
theorem dX7_gameCount_38 : decode cX7_gameCount 38 = .ok (.if_icmp .ge 13, 3) := by decide +kernel
theorem dX7_gameCount_41 : decode cX7_gameCount 41 = .ok (.bipush 10, 2) := by decide +kernel
theorem dX7_gameCount_43 : decode cX7_gameCount 43 = .ok (.aload_n 0, 1) := by decide +kernel
theorem dX7_gameCount_44 : decode cX7_gameCount 44 = .ok (.getfield 84, 3) := by decide +kernel
theorem dX7_gameCount_47 : decode cX7_gameCount 47 = .ok (.imul, 1) := by decide +kernel
theorem dX7_gameCount_48 : decode cX7_gameCount 48 = .ok (.goto 18, 3) := by decide +kernel
theorem dX7_gameCount_51 : decode cX7_gameCount 51 = .ok (.aload_n 0, 1) := by decide +kernel
theorem dX7_gameCount_52 : decode cX7_gameCount 52 = .ok (.getfield 84, 3) := by decide +kernel
theorem dX7_gameCount_55 : decode cX7_gameCount 55 = .ok (.iconst 4, 1) := by decide +kernel
theorem dX7_gameCount_56 : decode cX7_gameCount 56 = .ok (.if_icmp .ne 8, 3) := by decide +kernel
theorem dX7_gameCount_59 : decode cX7_gameCount 59 = .ok (.bipush 50, 2) := by decide +kernel
theorem dX7_gameCount_61 : decode cX7_gameCount 61 = .ok (.goto 5, 3) := by decide +kernel
theorem dX7_gameCount_64 : decode cX7_gameCount 64 = .ok (.bipush 80, 2) := by decide +kernel
theorem dX7_gameCount_66 : decode cX7_gameCount 66 = .ok (.iadd, 1) := by decide +kernel
theorem dX7_gameCount_67 : decode cX7_gameCount 67 = .ok (.istore_n 3, 1) := by decide +kernel
theorem dX7_gameCount_68 : decode cX7_gameCount 68 = .ok (.iload_n 1, 1) := by decide +kernel
theorem dX7_gameCount_69 : decode cX7_gameCount 69 = .ok (.bipush 105, 2) := by decide +kernel
theorem dX7_gameCount_71 : decode cX7_gameCount 71 = .ok (.if_icmp .le 7, 3) := by decide +kernel
theorem dX7_gameCount_74 : decode cX7_gameCount 74 = .ok (.iload_n 3, 1) := by decide +kernel
theorem dX7_gameCount_75 : decode cX7_gameCount 75 = .ok (.goto 5, 3) := by decide +kernel
theorem dX7_gameCount_78 : decode cX7_gameCount 78 = .ok (.iload_n 3, 1) := by decide +kernel
theorem dX7_gameCount_79 : decode cX7_gameCount 79 = .ok (.ineg, 1) := by decide +kernel
theorem dX7_gameCount_80 : decode cX7_gameCount 80 = .ok (.ireturn, 1) := by decide +kernel
set_option maxRecDepth 20000 in
theorem ggX7_scores_X7_counted : GoodIn wsX7_scores wsX7_counted := goodIn_r _ [12, 13, 14, 15, 11, 16, 17, 18, 19, 20, 21, 22, 23, 24, 3, 25, 26, 27, 28, 29, 30, 31, 36, 37, 38, 39, 40, 41, 42, 43, 44, 45, 46, 47, 48, 49, 50, 51, 52, 53, 54, 55, 56, 57, 58, 59, 60, 61, 62, 63, 64] (by decide +kernel) (by decide +kernel)
set_option maxRecDepth 20000 in
theorem gX7_scores_X7_counted : GoodIn wsX7_scores (wsV RX7 155 RX7 yX7_counted wsX7_counted) := goodIn_app (goodIn_of _ (by decide +kernel)) ggX7_scores_X7_counted
set_option maxRecDepth 20000 in
theorem ggX7_scores_X7_gameCount : GoodIn wsX7_scores wsX7_gameCount := goodIn_r _ [35, 5, 36, 37, 38, 39, 40, 41, 42, 43, 44, 45, 46, 47, 48, 49, 50, 51, 52, 53, 54, 55, 56, 57, 58, 59, 60, 61, 62, 63, 64] (by decide +kernel) (by decide +kernel)
set_option maxRecDepth 20000 in
theorem gX7_scores_X7_gameCount : GoodIn wsX7_scores (wsV RX7 158 RX7 yX7_gameCount wsX7_gameCount) := goodIn_app (goodIn_of _ (by decide +kernel)) ggX7_scores_X7_gameCount
set_option maxRecDepth 20000 in
theorem ggX7_scores_X7_sideOf : GoodIn wsX7_scores wsX7_sideOf := goodIn_r _ [24, 3, 25, 36, 37, 38, 39, 40, 41, 42, 43, 44, 45, 46, 47, 48, 49, 50, 51, 52, 53, 54, 55, 56, 57, 58, 59, 60, 61, 62, 63, 64] (by decide +kernel) (by decide +kernel)
set_option maxRecDepth 20000 in
theorem gX7_scores_X7_sideOf : GoodIn wsX7_scores (wsV RX7 143 RX7 yX7_sideOf wsX7_sideOf) := goodIn_app (goodIn_of _ (by decide +kernel)) ggX7_scores_X7_sideOf
theorem dX7_scores_0 : decode cX7_scores 0 = .ok (.aload_n 0, 1) := by decide +kernel
theorem dX7_scores_1 : decode cX7_scores 1 = .ok (.iconst 0, 1) := by decide +kernel
theorem dX7_scores_2 : decode cX7_scores 2 = .ok (.invokevirtual 155, 3) := by decide +kernel
theorem dX7_scores_5 : decode cX7_scores 5 = .ok (.istore_n 2, 1) := by decide +kernel
theorem dX7_scores_6 : decode cX7_scores 6 = .ok (.aload_n 0, 1) := by decide +kernel
theorem dX7_scores_7 : decode cX7_scores 7 = .ok (.aload_n 0, 1) := by decide +kernel
theorem dX7_scores_8 : decode cX7_scores 8 = .ok (.iload_n 2, 1) := by decide +kernel
theorem dX7_scores_9 : decode cX7_scores 9 = .ok (.invokevirtual 158, 3) := by decide +kernel
theorem dX7_scores_12 : decode cX7_scores 12 = .ok (.iload_n 1, 1) := by decide +kernel
theorem dX7_scores_13 : decode cX7_scores 13 = .ok (.iadd, 1) := by decide +kernel
theorem dX7_scores_14 : decode cX7_scores 14 = .ok (.putfield 161, 3) := by decide +kernel
theorem dX7_scores_17 : decode cX7_scores 17 = .ok (.aload_n 0, 1) := by decide +kernel
theorem dX7_scores_18 : decode cX7_scores 18 = .ok (.getfield 55, 3) := by decide +kernel
theorem dX7_scores_21 : decode cX7_scores 21 = .ok (.aload_n 0, 1) := by decide +kernel
theorem dX7_scores_22 : decode cX7_scores 22 = .ok (.getfield 31, 3) := by decide +kernel
theorem dX7_scores_25 : decode cX7_scores 25 = .ok (.iaload, 1) := by decide +kernel
theorem dX7_scores_26 : decode cX7_scores 26 = .ok (.ifCond .le 36, 3) := by decide +kernel
theorem dX7_scores_29 : decode cX7_scores 29 = .ok (.aload_n 0, 1) := by decide +kernel
theorem dX7_scores_30 : decode cX7_scores 30 = .ok (.dup, 1) := by decide +kernel
theorem dX7_scores_31 : decode cX7_scores 31 = .ok (.getfield 161, 3) := by decide +kernel
theorem dX7_scores_34 : decode cX7_scores 34 = .ok (.iconst 2, 1) := by decide +kernel
theorem dX7_scores_35 : decode cX7_scores 35 = .ok (.imul, 1) := by decide +kernel
theorem dX7_scores_36 : decode cX7_scores 36 = .ok (.putfield 161, 3) := by decide +kernel
theorem dX7_scores_39 : decode cX7_scores 39 = .ok (.aload_n 0, 1) := by decide +kernel
theorem dX7_scores_40 : decode cX7_scores 40 = .ok (.getfield 55, 3) := by decide +kernel
theorem dX7_scores_43 : decode cX7_scores 43 = .ok (.aload_n 0, 1) := by decide +kernel
theorem dX7_scores_44 : decode cX7_scores 44 = .ok (.getfield 31, 3) := by decide +kernel
theorem dX7_scores_47 : decode cX7_scores 47 = .ok (.dup2, 1) := by decide +kernel
theorem dX7_scores_48 : decode cX7_scores 48 = .ok (.iaload, 1) := by decide +kernel
theorem dX7_scores_49 : decode cX7_scores 49 = .ok (.iload_n 2, 1) := by decide +kernel
theorem dX7_scores_50 : decode cX7_scores 50 = .ok (.bipush 105, 2) := by decide +kernel
theorem dX7_scores_52 : decode cX7_scores 52 = .ok (.if_icmp .le 7, 3) := by decide +kernel
theorem dX7_scores_55 : decode cX7_scores 55 = .ok (.iconst 1, 1) := by decide +kernel
theorem dX7_scores_56 : decode cX7_scores 56 = .ok (.goto 4, 3) := by decide +kernel
theorem dX7_scores_59 : decode cX7_scores 59 = .ok (.iconst 0, 1) := by decide +kernel
theorem dX7_scores_60 : decode cX7_scores 60 = .ok (.isub, 1) := by decide +kernel
theorem dX7_scores_61 : decode cX7_scores 61 = .ok (.iastore, 1) := by decide +kernel
theorem dX7_scores_62 : decode cX7_scores 62 = .ok (.iconst 0, 1) := by decide +kernel
theorem dX7_scores_63 : decode cX7_scores 63 = .ok (.istore_n 3, 1) := by decide +kernel
theorem dX7_scores_64 : decode cX7_scores 64 = .ok (.iload_n 3, 1) := by decide +kernel
theorem dX7_scores_65 : decode cX7_scores 65 = .ok (.iconst 4, 1) := by decide +kernel
theorem dX7_scores_66 : decode cX7_scores 66 = .ok (.if_icmp .ge 56, 3) := by decide +kernel
theorem dX7_scores_69 : decode cX7_scores 69 = .ok (.aload_n 0, 1) := by decide +kernel
theorem dX7_scores_70 : decode cX7_scores 70 = .ok (.getfield 52, 3) := by decide +kernel
theorem dX7_scores_73 : decode cX7_scores 73 = .ok (.iload_n 3, 1) := by decide +kernel
theorem dX7_scores_74 : decode cX7_scores 74 = .ok (.dup2, 1) := by decide +kernel
theorem dX7_scores_75 : decode cX7_scores 75 = .ok (.iaload, 1) := by decide +kernel
theorem dX7_scores_76 : decode cX7_scores 76 = .ok (.aload_n 0, 1) := by decide +kernel
theorem dX7_scores_77 : decode cX7_scores 77 = .ok (.iload_n 3, 1) := by decide +kernel
theorem dX7_scores_78 : decode cX7_scores 78 = .ok (.invokevirtual 143, 3) := by decide +kernel
theorem dX7_scores_81 : decode cX7_scores 81 = .ok (.ifCond .ne 10, 3) := by decide +kernel
theorem dX7_scores_84 : decode cX7_scores 84 = .ok (.aload_n 0, 1) := by decide +kernel
theorem dX7_scores_85 : decode cX7_scores 85 = .ok (.getfield 161, 3) := by decide +kernel
theorem dX7_scores_88 : decode cX7_scores 88 = .ok (.goto 4, 3) := by decide +kernel
theorem dX7_scores_91 : decode cX7_scores 91 = .ok (.iconst 0, 1) := by decide +kernel
theorem dX7_scores_92 : decode cX7_scores 92 = .ok (.iadd, 1) := by decide +kernel
theorem dX7_scores_93 : decode cX7_scores 93 = .ok (.iastore, 1) := by decide +kernel
theorem dX7_scores_94 : decode cX7_scores 94 = .ok (.aload_n 0, 1) := by decide +kernel
theorem dX7_scores_95 : decode cX7_scores 95 = .ok (.getfield 55, 3) := by decide +kernel
theorem dX7_scores_98 : decode cX7_scores 98 = .ok (.iload_n 3, 1) := by decide +kernel
theorem dX7_scores_99 : decode cX7_scores 99 = .ok (.dup2, 1) := by decide +kernel
theorem dX7_scores_100 : decode cX7_scores 100 = .ok (.iaload, 1) := by decide +kernel
theorem dX7_scores_101 : decode cX7_scores 101 = .ok (.aload_n 0, 1) := by decide +kernel
theorem dX7_scores_102 : decode cX7_scores 102 = .ok (.getfield 84, 3) := by decide +kernel
theorem dX7_scores_105 : decode cX7_scores 105 = .ok (.iconst 3, 1) := by decide +kernel
theorem dX7_scores_106 : decode cX7_scores 106 = .ok (.if_icmp .le 7, 3) := by decide +kernel
theorem dX7_scores_109 : decode cX7_scores 109 = .ok (.iconst 1, 1) := by decide +kernel
theorem dX7_scores_110 : decode cX7_scores 110 = .ok (.goto 4, 3) := by decide +kernel
theorem dX7_scores_113 : decode cX7_scores 113 = .ok (.iconst 0, 1) := by decide +kernel
theorem dX7_scores_114 : decode cX7_scores 114 = .ok (.iadd, 1) := by decide +kernel
theorem dX7_scores_115 : decode cX7_scores 115 = .ok (.iastore, 1) := by decide +kernel
theorem dX7_scores_116 : decode cX7_scores 116 = .ok (.iinc 3 1, 3) := by decide +kernel
theorem dX7_scores_119 : decode cX7_scores 119 = .ok (.goto (-55), 3) := by decide +kernel
theorem dX7_scores_122 : decode cX7_scores 122 = .ok (.aload_n 0, 1) := by decide +kernel
theorem dX7_scores_123 : decode cX7_scores 123 = .ok (.iconst 0, 1) := by decide +kernel
theorem dX7_scores_124 : decode cX7_scores 124 = .ok (.putfield 9, 3) := by decide +kernel
theorem dX7_scores_127 : decode cX7_scores 127 = .ok (.aload_n 0, 1) := by decide +kernel
theorem dX7_scores_128 : decode cX7_scores 128 = .ok (.iconst (-1), 1) := by decide +kernel
theorem dX7_scores_129 : decode cX7_scores 129 = .ok (.putfield 13, 3) := by decide +kernel
theorem dX7_scores_132 : decode cX7_scores 132 = .ok (.return_, 1) := by decide +kernel
set_option maxRecDepth 20000 in
theorem ggX7_plays_X7_bit : GoodIn wsX7_plays wsX7_bit := goodIn_r _ [13] (by decide +kernel) (by decide +kernel)
set_option maxRecDepth 20000 in
theorem gX7_plays_X7_bit : GoodIn wsX7_plays (va_wsS RX7 77 yX7_bit wsX7_bit) := goodIn_app (goodIn_of _ (by decide +kernel)) ggX7_plays_X7_bit
set_option maxRecDepth 20000 in
theorem ggX7_plays_X7_king : GoodIn wsX7_plays wsX7_king := goodIn_r _ [17, 6, 74, 75, 76, 77, 78, 79, 80, 81, 82, 83, 84, 85, 86, 87, 88, 89, 90, 91, 92, 93, 94, 95, 96, 97, 98, 99, 100, 101, 102] (by decide +kernel) (by decide +kernel)
set_option maxRecDepth 20000 in
theorem gX7_plays_X7_king : GoodIn wsX7_plays (wsV RX7 120 RX7 yX7_king wsX7_king) := goodIn_app (goodIn_of _ (by decide +kernel)) ggX7_plays_X7_king
set_option maxRecDepth 20000 in
theorem ggX7_plays_X7_best : GoodIn wsX7_plays wsX7_best := goodIn_r _ [21, 4, 3, 22, 23, 12, 24, 74, 75, 76, 77, 78, 79, 80, 81, 82, 83, 84, 85, 86, 87, 88, 89, 90, 91, 92, 93, 94, 95, 96, 97, 98, 99, 100, 101, 102] (by decide +kernel) (by decide +kernel)
set_option maxRecDepth 20000 in
theorem gX7_plays_X7_best : GoodIn wsX7_plays (wsV RX7 152 RX7 yX7_best wsX7_best) := goodIn_app (goodIn_of _ (by decide +kernel)) ggX7_plays_X7_best
set_option maxRecDepth 20000 in
theorem ggX7_plays_X7_pagatCount : GoodIn wsX7_plays wsX7_pagatCount := goodIn_r _ [28, 7, 29, 30, 31, 32, 12, 33, 4, 3, 34, 35, 36, 37, 38, 39, 18, 19, 20, 21, 22, 23, 24, 74, 75, 76, 77, 78, 79, 80, 81, 82, 83, 84, 85, 86, 87, 88, 89, 90, 91, 92, 93, 94, 95, 96, 97, 98, 99, 100, 101, 102] (by decide +kernel) (by decide +kernel)
set_option maxRecDepth 20000 in
theorem gX7_plays_X7_pagatCount : GoodIn wsX7_plays (wsV RX7 164 RX7 yX7_pagatCount wsX7_pagatCount) := goodIn_app (goodIn_of _ (by decide +kernel)) ggX7_plays_X7_pagatCount
set_option maxRecDepth 20000 in
theorem ggX7_plays_X7_kingCount : GoodIn wsX7_plays wsX7_kingCount := goodIn_r _ [43, 6, 7, 29, 14, 15, 16, 12, 17, 30, 31, 32, 33, 4, 3, 18, 19, 20, 21, 22, 23, 24, 34, 35, 36, 37, 38, 39, 74, 75, 76, 77, 78, 79, 80, 81, 82, 83, 84, 85, 86, 87, 88, 89, 90, 91, 92, 93, 94, 95, 96, 97, 98, 99, 100, 101, 102] (by decide +kernel) (by decide +kernel)
set_option maxRecDepth 20000 in
theorem gX7_plays_X7_kingCount : GoodIn wsX7_plays (wsV RX7 167 RX7 yX7_kingCount wsX7_kingCount) := goodIn_app (goodIn_of _ (by decide +kernel)) ggX7_plays_X7_kingCount
set_option maxRecDepth 20000 in
theorem ggX7_plays_X7_scores : GoodIn wsX7_plays wsX7_scores := goodIn_r _ [47, 48, 49, 38, 50, 51, 52, 2, 53, 54, 55, 12, 56, 57, 58, 59, 60, 61, 62, 8, 63, 34, 35, 36, 37, 39, 64, 65, 66, 67, 68, 69, 70, 71, 72, 73, 74, 75, 76, 77, 78, 79, 80, 81, 82, 83, 84, 85, 86, 87, 88, 89, 90, 91, 92, 93, 94, 95, 96, 97, 98, 99, 100, 101, 102] (by decide +kernel) (by decide +kernel)
set_option maxRecDepth 20000 in
theorem gX7_plays_X7_scores : GoodIn wsX7_plays (wsV RX7 170 RX7 yX7_scores wsX7_scores) := goodIn_app (goodIn_of _ (by decide +kernel)) ggX7_plays_X7_scores
theorem dX7_plays_0 : decode cX7_plays 0 = .ok (.aload_n 0, 1) := by decide +kernel
theorem dX7_plays_1 : decode cX7_plays 1 = .ok (.getfield 20, 3) := by decide +kernel
theorem dX7_plays_4 : decode cX7_plays 4 = .ok (.aload_n 0, 1) := by decide +kernel
theorem dX7_plays_5 : decode cX7_plays 5 = .ok (.getfield 13, 3) := by decide +kernel
theorem dX7_plays_8 : decode cX7_plays 8 = .ok (.dup2, 1) := by decide +kernel
theorem dX7_plays_9 : decode cX7_plays 9 = .ok (.laload, 1) := by decide +kernel
theorem dX7_plays_10 : decode cX7_plays 10 = .ok (.iload_n 1, 1) := by decide +kernel
theorem dX7_plays_11 : decode cX7_plays 11 = .ok (.invokestatic 77, 3) := by decide +kernel
theorem dX7_plays_14 : decode cX7_plays 14 = .ok (.lsub, 1) := by decide +kernel
theorem dX7_plays_15 : decode cX7_plays 15 = .ok (.lastore, 1) := by decide +kernel
theorem dX7_plays_16 : decode cX7_plays 16 = .ok (.aload_n 0, 1) := by decide +kernel
theorem dX7_plays_17 : decode cX7_plays 17 = .ok (.getfield 46, 3) := by decide +kernel
theorem dX7_plays_20 : decode cX7_plays 20 = .ok (.aload_n 0, 1) := by decide +kernel
theorem dX7_plays_21 : decode cX7_plays 21 = .ok (.getfield 101, 3) := by decide +kernel
theorem dX7_plays_24 : decode cX7_plays 24 = .ok (.iload_n 1, 1) := by decide +kernel
theorem dX7_plays_25 : decode cX7_plays 25 = .ok (.iastore, 1) := by decide +kernel
theorem dX7_plays_26 : decode cX7_plays 26 = .ok (.aload_n 0, 1) := by decide +kernel
theorem dX7_plays_27 : decode cX7_plays 27 = .ok (.dup, 1) := by decide +kernel
theorem dX7_plays_28 : decode cX7_plays 28 = .ok (.getfield 101, 3) := by decide +kernel
theorem dX7_plays_31 : decode cX7_plays 31 = .ok (.iconst 1, 1) := by decide +kernel
theorem dX7_plays_32 : decode cX7_plays 32 = .ok (.iadd, 1) := by decide +kernel
theorem dX7_plays_33 : decode cX7_plays 33 = .ok (.putfield 101, 3) := by decide +kernel
theorem dX7_plays_36 : decode cX7_plays 36 = .ok (.aload_n 0, 1) := by decide +kernel
theorem dX7_plays_37 : decode cX7_plays 37 = .ok (.aload_n 0, 1) := by decide +kernel
theorem dX7_plays_38 : decode cX7_plays 38 = .ok (.getfield 87, 3) := by decide +kernel
theorem dX7_plays_41 : decode cX7_plays 41 = .ok (.ifCond .ne 19, 3) := by decide +kernel
theorem dX7_plays_44 : decode cX7_plays 44 = .ok (.aload_n 0, 1) := by decide +kernel
theorem dX7_plays_45 : decode cX7_plays 45 = .ok (.getfield 34, 3) := by decide +kernel
theorem dX7_plays_48 : decode cX7_plays 48 = .ok (.iconst (-1), 1) := by decide +kernel
theorem dX7_plays_49 : decode cX7_plays 49 = .ok (.if_icmp .eq 15, 3) := by decide +kernel
theorem dX7_plays_52 : decode cX7_plays 52 = .ok (.iload_n 1, 1) := by decide +kernel
theorem dX7_plays_53 : decode cX7_plays 53 = .ok (.aload_n 0, 1) := by decide +kernel
theorem dX7_plays_54 : decode cX7_plays 54 = .ok (.invokevirtual 120, 3) := by decide +kernel
theorem dX7_plays_57 : decode cX7_plays 57 = .ok (.if_icmp .ne 7, 3) := by decide +kernel
theorem dX7_plays_60 : decode cX7_plays 60 = .ok (.iconst 1, 1) := by decide +kernel
theorem dX7_plays_61 : decode cX7_plays 61 = .ok (.goto 4, 3) := by decide +kernel
theorem dX7_plays_64 : decode cX7_plays 64 = .ok (.iconst 0, 1) := by decide +kernel
theorem dX7_plays_65 : decode cX7_plays 65 = .ok (.putfield 87, 3) := by decide +kernel
theorem dX7_plays_68 : decode cX7_plays 68 = .ok (.aload_n 0, 1) := by decide +kernel
theorem dX7_plays_69 : decode cX7_plays 69 = .ok (.getfield 101, 3) := by decide +kernel
theorem dX7_plays_72 : decode cX7_plays 72 = .ok (.iconst 4, 1) := by decide +kernel
theorem dX7_plays_73 : decode cX7_plays 73 = .ok (.if_icmp .ge 17, 3) := by decide +kernel
theorem dX7_plays_76 : decode cX7_plays 76 = .ok (.aload_n 0, 1) := by decide +kernel
theorem dX7_plays_77 : decode cX7_plays 77 = .ok (.aload_n 0, 1) := by decide +kernel
theorem dX7_plays_78 : decode cX7_plays 78 = .ok (.getfield 13, 3) := by decide +kernel
theorem dX7_plays_81 : decode cX7_plays 81 = .ok (.iconst 1, 1) := by decide +kernel
theorem dX7_plays_82 : decode cX7_plays 82 = .ok (.iadd, 1) := by decide +kernel
theorem dX7_plays_83 : decode cX7_plays 83 = .ok (.iconst 4, 1) := by decide +kernel
theorem dX7_plays_84 : decode cX7_plays 84 = .ok (.irem, 1) := by decide +kernel
theorem dX7_plays_85 : decode cX7_plays 85 = .ok (.putfield 13, 3) := by decide +kernel
theorem dX7_plays_88 : decode cX7_plays 88 = .ok (.iconst (-1), 1) := by decide +kernel
theorem dX7_plays_89 : decode cX7_plays 89 = .ok (.ireturn, 1) := by decide +kernel
theorem dX7_plays_90 : decode cX7_plays 90 = .ok (.aload_n 0, 1) := by decide +kernel
theorem dX7_plays_91 : decode cX7_plays 91 = .ok (.getfield 107, 3) := by decide +kernel
theorem dX7_plays_94 : decode cX7_plays 94 = .ok (.aload_n 0, 1) := by decide +kernel
theorem dX7_plays_95 : decode cX7_plays 95 = .ok (.invokevirtual 152, 3) := by decide +kernel
theorem dX7_plays_98 : decode cX7_plays 98 = .ok (.iadd, 1) := by decide +kernel
theorem dX7_plays_99 : decode cX7_plays 99 = .ok (.iconst 4, 1) := by decide +kernel
theorem dX7_plays_100 : decode cX7_plays 100 = .ok (.irem, 1) := by decide +kernel
theorem dX7_plays_101 : decode cX7_plays 101 = .ok (.istore_n 2, 1) := by decide +kernel
theorem dX7_plays_102 : decode cX7_plays 102 = .ok (.iconst 0, 1) := by decide +kernel
theorem dX7_plays_103 : decode cX7_plays 103 = .ok (.istore_n 3, 1) := by decide +kernel
theorem dX7_plays_104 : decode cX7_plays 104 = .ok (.iload_n 3, 1) := by decide +kernel
theorem dX7_plays_105 : decode cX7_plays 105 = .ok (.iconst 4, 1) := by decide +kernel
theorem dX7_plays_106 : decode cX7_plays 106 = .ok (.if_icmp .ge 27, 3) := by decide +kernel
theorem dX7_plays_109 : decode cX7_plays 109 = .ok (.aload_n 0, 1) := by decide +kernel
theorem dX7_plays_110 : decode cX7_plays 110 = .ok (.getfield 49, 3) := by decide +kernel
theorem dX7_plays_113 : decode cX7_plays 113 = .ok (.iload_n 2, 1) := by decide +kernel
theorem dX7_plays_114 : decode cX7_plays 114 = .ok (.dup2, 1) := by decide +kernel
theorem dX7_plays_115 : decode cX7_plays 115 = .ok (.laload, 1) := by decide +kernel
theorem dX7_plays_116 : decode cX7_plays 116 = .ok (.aload_n 0, 1) := by decide +kernel
theorem dX7_plays_117 : decode cX7_plays 117 = .ok (.getfield 46, 3) := by decide +kernel
theorem dX7_plays_120 : decode cX7_plays 120 = .ok (.iload_n 3, 1) := by decide +kernel
theorem dX7_plays_121 : decode cX7_plays 121 = .ok (.iaload, 1) := by decide +kernel
theorem dX7_plays_122 : decode cX7_plays 122 = .ok (.invokestatic 77, 3) := by decide +kernel
theorem dX7_plays_125 : decode cX7_plays 125 = .ok (.lor, 1) := by decide +kernel
theorem dX7_plays_126 : decode cX7_plays 126 = .ok (.lastore, 1) := by decide +kernel
theorem dX7_plays_127 : decode cX7_plays 127 = .ok (.iinc 3 1, 3) := by decide +kernel
theorem dX7_plays_130 : decode cX7_plays 130 = .ok (.goto (-26), 3) := by decide +kernel
theorem dX7_plays_133 : decode cX7_plays 133 = .ok (.aload_n 0, 1) := by decide +kernel
theorem dX7_plays_134 : decode cX7_plays 134 = .ok (.dup, 1) := by decide +kernel
theorem dX7_plays_135 : decode cX7_plays 135 = .ok (.getfield 104, 3) := by decide +kernel
theorem dX7_plays_138 : decode cX7_plays 138 = .ok (.iconst 1, 1) := by decide +kernel
theorem dX7_plays_139 : decode cX7_plays 139 = .ok (.iadd, 1) := by decide +kernel
theorem dX7_plays_140 : decode cX7_plays 140 = .ok (.putfield 104, 3) := by decide +kernel
theorem dX7_plays_143 : decode cX7_plays 143 = .ok (.aload_n 0, 1) := by decide +kernel
theorem dX7_plays_144 : decode cX7_plays 144 = .ok (.invokevirtual 164, 3) := by decide +kernel
theorem dX7_plays_147 : decode cX7_plays 147 = .ok (.aload_n 0, 1) := by decide +kernel
theorem dX7_plays_148 : decode cX7_plays 148 = .ok (.invokevirtual 167, 3) := by decide +kernel
theorem dX7_plays_151 : decode cX7_plays 151 = .ok (.iadd, 1) := by decide +kernel
theorem dX7_plays_152 : decode cX7_plays 152 = .ok (.istore_n 3, 1) := by decide +kernel
theorem dX7_plays_153 : decode cX7_plays 153 = .ok (.aload_n 0, 1) := by decide +kernel
theorem dX7_plays_154 : decode cX7_plays 154 = .ok (.iconst 0, 1) := by decide +kernel
theorem dX7_plays_155 : decode cX7_plays 155 = .ok (.putfield 101, 3) := by decide +kernel
theorem dX7_plays_158 : decode cX7_plays 158 = .ok (.aload_n 0, 1) := by decide +kernel
theorem dX7_plays_159 : decode cX7_plays 159 = .ok (.iload_n 2, 1) := by decide +kernel
theorem dX7_plays_160 : decode cX7_plays 160 = .ok (.putfield 107, 3) := by decide +kernel
theorem dX7_plays_163 : decode cX7_plays 163 = .ok (.aload_n 0, 1) := by decide +kernel
theorem dX7_plays_164 : decode cX7_plays 164 = .ok (.iload_n 2, 1) := by decide +kernel
theorem dX7_plays_165 : decode cX7_plays 165 = .ok (.putfield 13, 3) := by decide +kernel
theorem dX7_plays_168 : decode cX7_plays 168 = .ok (.aload_n 0, 1) := by decide +kernel
theorem dX7_plays_169 : decode cX7_plays 169 = .ok (.getfield 104, 3) := by decide +kernel
theorem dX7_plays_172 : decode cX7_plays 172 = .ok (.bipush 12, 2) := by decide +kernel
theorem dX7_plays_174 : decode cX7_plays 174 = .ok (.if_icmp .ne 8, 3) := by decide +kernel
theorem dX7_plays_177 : decode cX7_plays 177 = .ok (.aload_n 0, 1) := by decide +kernel
theorem dX7_plays_178 : decode cX7_plays 178 = .ok (.iload_n 3, 1) := by decide +kernel
theorem dX7_plays_179 : decode cX7_plays 179 = .ok (.invokevirtual 170, 3) := by decide +kernel
theorem dX7_plays_182 : decode cX7_plays 182 = .ok (.iload_n 2, 1) := by decide +kernel
theorem dX7_plays_183 : decode cX7_plays 183 = .ok (.ireturn, 1) := by decide +kernel
set_option maxRecDepth 20000 in
theorem ggX7_play_X7_isCard : GoodIn wsX7_play wsX7_isCard := goodIn_r _ [4, 5, 6, 3, 7] (by decide +kernel) (by decide +kernel)
set_option maxRecDepth 20000 in
theorem gX7_play_X7_isCard : GoodIn wsX7_play (va_wsS RX7 131 yX7_isCard wsX7_isCard) := goodIn_app (goodIn_of _ (by decide +kernel)) ggX7_play_X7_isCard
set_option maxRecDepth 20000 in
theorem ggX7_play_X7_isPlayable : GoodIn wsX7_play wsX7_isPlayable := goodIn_r _ [11, 12, 13, 14, 15, 16, 17, 18, 3, 19, 20, 21, 22, 23, 24, 25, 96, 97, 98, 99, 100, 101, 102, 103, 104, 105, 106, 107, 108, 109, 110, 111, 112, 113, 114, 115, 116, 117, 118, 119, 120, 121, 122, 123, 124] (by decide +kernel) (by decide +kernel)
set_option maxRecDepth 20000 in
theorem gX7_play_X7_isPlayable : GoodIn wsX7_play (wsV RX7 174 RX7 yX7_isPlayable wsX7_isPlayable) := goodIn_app (goodIn_of _ (by decide +kernel)) ggX7_play_X7_isPlayable
set_option maxRecDepth 20000 in
theorem ggX7_play_X7_isFine : GoodIn wsX7_play wsX7_isFine := goodIn_r _ [29, 30, 96, 97, 98, 99, 100, 101, 102, 103, 104, 105, 106, 107, 108, 109, 110, 111, 112, 113, 114, 115, 116, 117, 118, 119, 120, 121, 122, 123, 124] (by decide +kernel) (by decide +kernel)
set_option maxRecDepth 20000 in
theorem gX7_play_X7_isFine : GoodIn wsX7_play (wsV RX7 66 RX7 yX7_isFine wsX7_isFine) := goodIn_app (goodIn_of _ (by decide +kernel)) ggX7_play_X7_isFine
set_option maxRecDepth 20000 in
theorem ggX7_play_X7_plays : GoodIn wsX7_play wsX7_plays := goodIn_r _ [34, 13, 14, 16, 15, 35, 36, 37, 38, 39, 40, 41, 3, 42, 43, 44, 45, 46, 47, 48, 49, 50, 20, 21, 22, 51, 52, 53, 54, 55, 56, 57, 58, 59, 60, 61, 62, 63, 64, 65, 66, 67, 68, 69, 70, 71, 72, 73, 74, 75, 76, 77, 12, 78, 79, 80, 81, 82, 83, 84, 85, 86, 87, 88, 17, 18, 19, 89, 90, 91, 92, 93, 94, 95, 96, 97, 98, 99, 100, 101, 102, 103, 104, 105, 106, 107, 108, 109, 110, 111, 112, 113, 114, 115, 116, 117, 118, 119, 120, 121, 122, 123, 124] (by decide +kernel) (by decide +kernel)
set_option maxRecDepth 20000 in
theorem gX7_play_X7_plays : GoodIn wsX7_play (wsV RX7 177 RX7 yX7_plays wsX7_plays) := goodIn_app (goodIn_of _ (by decide +kernel)) ggX7_play_X7_plays
theorem dX7_play_0 : decode cX7_play 0 = .ok (.aload_n 0, 1) := by decide +kernel
theorem dX7_play_1 : decode cX7_play 1 = .ok (.iload_n 1, 1) := by decide +kernel
theorem dX7_play_2 : decode cX7_play 2 = .ok (.invokestatic 131, 3) := by decide +kernel
theorem dX7_play_5 : decode cX7_play 5 = .ok (.ifCond .ne 7, 3) := by decide +kernel
theorem dX7_play_8 : decode cX7_play 8 = .ok (.iconst 1, 1) := by decide +kernel
theorem dX7_play_9 : decode cX7_play 9 = .ok (.goto 16, 3) := by decide +kernel
theorem dX7_play_12 : decode cX7_play 12 = .ok (.aload_n 0, 1) := by decide +kernel
theorem dX7_play_13 : decode cX7_play 13 = .ok (.iload_n 1, 1) := by decide +kernel
theorem dX7_play_14 : decode cX7_play 14 = .ok (.invokevirtual 174, 3) := by decide +kernel
theorem dX7_play_17 : decode cX7_play 17 = .ok (.ifCond .ne 7, 3) := by decide +kernel
theorem dX7_play_20 : decode cX7_play 20 = .ok (.iconst 2, 1) := by decide +kernel
theorem dX7_play_21 : decode cX7_play 21 = .ok (.goto 4, 3) := by decide +kernel
theorem dX7_play_24 : decode cX7_play 24 = .ok (.iconst 0, 1) := by decide +kernel
theorem dX7_play_25 : decode cX7_play 25 = .ok (.invokevirtual 66, 3) := by decide +kernel
theorem dX7_play_28 : decode cX7_play 28 = .ok (.ifCond .eq 11, 3) := by decide +kernel
theorem dX7_play_31 : decode cX7_play 31 = .ok (.aload_n 0, 1) := by decide +kernel
theorem dX7_play_32 : decode cX7_play 32 = .ok (.iload_n 1, 1) := by decide +kernel
theorem dX7_play_33 : decode cX7_play 33 = .ok (.invokevirtual 177, 3) := by decide +kernel
theorem dX7_play_36 : decode cX7_play 36 = .ok (.goto 4, 3) := by decide +kernel
theorem dX7_play_39 : decode cX7_play 39 = .ok (.iconst 0, 1) := by decide +kernel
theorem dX7_play_40 : decode cX7_play 40 = .ok (.ireturn, 1) := by decide +kernel
set_option maxRecDepth 20000 in
theorem ggX7_playLowest_X7_isIn : GoodIn wsX7_playLowest wsX7_isIn := goodIn_r _ [5] (by decide +kernel) (by decide +kernel)
set_option maxRecDepth 20000 in
theorem gX7_playLowest_X7_isIn : GoodIn wsX7_playLowest (va_wsS RX7 61 yX7_isIn wsX7_isIn) := goodIn_app (goodIn_of _ (by decide +kernel)) ggX7_playLowest_X7_isIn
set_option maxRecDepth 20000 in
theorem ggX7_playLowest_X7_isFine : GoodIn wsX7_playLowest wsX7_isFine := goodIn_r _ [9, 10, 93, 94, 95, 96, 97, 98, 99, 100, 101, 102, 103, 104, 105, 106, 107, 108, 109, 110, 111, 112, 113, 114, 115, 116, 117, 118, 119, 120, 121] (by decide +kernel) (by decide +kernel)
set_option maxRecDepth 20000 in
theorem gX7_playLowest_X7_isFine : GoodIn wsX7_playLowest (wsV RX7 66 RX7 yX7_isFine wsX7_isFine) := goodIn_app (goodIn_of _ (by decide +kernel)) ggX7_playLowest_X7_isFine
set_option maxRecDepth 20000 in
theorem ggX7_playLowest_X7_isPlayable : GoodIn wsX7_playLowest wsX7_isPlayable := goodIn_r _ [14, 1, 15, 16, 17, 18, 19, 20, 4, 21, 22, 23, 24, 25, 26, 27, 93, 94, 95, 96, 97, 98, 99, 100, 101, 102, 103, 104, 105, 106, 107, 108, 109, 110, 111, 112, 113, 114, 115, 116, 117, 118, 119, 120, 121] (by decide +kernel) (by decide +kernel)
set_option maxRecDepth 20000 in
theorem gX7_playLowest_X7_isPlayable : GoodIn wsX7_playLowest (wsV RX7 174 RX7 yX7_isPlayable wsX7_isPlayable) := goodIn_app (goodIn_of _ (by decide +kernel)) ggX7_playLowest_X7_isPlayable
set_option maxRecDepth 20000 in
theorem ggX7_playLowest_X7_plays : GoodIn wsX7_playLowest wsX7_plays := goodIn_r _ [31, 15, 16, 18, 17, 32, 33, 34, 35, 36, 37, 38, 4, 39, 40, 41, 42, 43, 44, 45, 46, 47, 22, 23, 24, 48, 49, 50, 51, 52, 53, 54, 55, 56, 57, 58, 59, 60, 61, 62, 63, 64, 65, 66, 67, 68, 69, 70, 71, 72, 73, 74, 1, 75, 76, 77, 78, 79, 80, 81, 82, 83, 84, 85, 19, 20, 21, 86, 87, 88, 89, 90, 91, 92, 93, 94, 95, 96, 97, 98, 99, 100, 101, 102, 103, 104, 105, 106, 107, 108, 109, 110, 111, 112, 113, 114, 115, 116, 117, 118, 119, 120, 121] (by decide +kernel) (by decide +kernel)
set_option maxRecDepth 20000 in
theorem gX7_playLowest_X7_plays : GoodIn wsX7_playLowest (wsV RX7 177 RX7 yX7_plays wsX7_plays) := goodIn_app (goodIn_of _ (by decide +kernel)) ggX7_playLowest_X7_plays
theorem dX7_playLowest_0 : decode cX7_playLowest 0 = .ok (.aload_n 0, 1) := by decide +kernel
theorem dX7_playLowest_1 : decode cX7_playLowest 1 = .ok (.iload_n 1, 1) := by decide +kernel
theorem dX7_playLowest_2 : decode cX7_playLowest 2 = .ok (.iconst 1, 1) := by decide +kernel
theorem dX7_playLowest_3 : decode cX7_playLowest 3 = .ok (.bipush 48, 2) := by decide +kernel
theorem dX7_playLowest_5 : decode cX7_playLowest 5 = .ok (.invokestatic 61, 3) := by decide +kernel
theorem dX7_playLowest_8 : decode cX7_playLowest 8 = .ok (.ifCond .ne 7, 3) := by decide +kernel
theorem dX7_playLowest_11 : decode cX7_playLowest 11 = .ok (.iconst 1, 1) := by decide +kernel
theorem dX7_playLowest_12 : decode cX7_playLowest 12 = .ok (.goto 16, 3) := by decide +kernel
theorem dX7_playLowest_15 : decode cX7_playLowest 15 = .ok (.aload_n 0, 1) := by decide +kernel
theorem dX7_playLowest_16 : decode cX7_playLowest 16 = .ok (.getfield 9, 3) := by decide +kernel
theorem dX7_playLowest_19 : decode cX7_playLowest 19 = .ok (.iconst 5, 1) := by decide +kernel
theorem dX7_playLowest_20 : decode cX7_playLowest 20 = .ok (.if_icmp .eq 7, 3) := by decide +kernel
theorem dX7_playLowest_23 : decode cX7_playLowest 23 = .ok (.iconst 2, 1) := by decide +kernel
theorem dX7_playLowest_24 : decode cX7_playLowest 24 = .ok (.goto 4, 3) := by decide +kernel
theorem dX7_playLowest_27 : decode cX7_playLowest 27 = .ok (.iconst 0, 1) := by decide +kernel
theorem dX7_playLowest_28 : decode cX7_playLowest 28 = .ok (.invokevirtual 66, 3) := by decide +kernel
theorem dX7_playLowest_31 : decode cX7_playLowest 31 = .ok (.ifCond .ne 5, 3) := by decide +kernel
theorem dX7_playLowest_34 : decode cX7_playLowest 34 = .ok (.iconst 0, 1) := by decide +kernel
theorem dX7_playLowest_35 : decode cX7_playLowest 35 = .ok (.ireturn, 1) := by decide +kernel
theorem dX7_playLowest_36 : decode cX7_playLowest 36 = .ok (.iconst 0, 1) := by decide +kernel
theorem dX7_playLowest_37 : decode cX7_playLowest 37 = .ok (.istore_n 2, 1) := by decide +kernel
theorem dX7_playLowest_38 : decode cX7_playLowest 38 = .ok (.iload_n 2, 1) := by decide +kernel
theorem dX7_playLowest_39 : decode cX7_playLowest 39 = .ok (.iload_n 1, 1) := by decide +kernel
theorem dX7_playLowest_40 : decode cX7_playLowest 40 = .ok (.if_icmp .ge 40, 3) := by decide +kernel
theorem dX7_playLowest_43 : decode cX7_playLowest 43 = .ok (.aload_n 0, 1) := by decide +kernel
theorem dX7_playLowest_44 : decode cX7_playLowest 44 = .ok (.getfield 9, 3) := by decide +kernel
theorem dX7_playLowest_47 : decode cX7_playLowest 47 = .ok (.iconst 5, 1) := by decide +kernel
theorem dX7_playLowest_48 : decode cX7_playLowest 48 = .ok (.if_icmp .ne 32, 3) := by decide +kernel
theorem dX7_playLowest_51 : decode cX7_playLowest 51 = .ok (.iconst 0, 1) := by decide +kernel
theorem dX7_playLowest_52 : decode cX7_playLowest 52 = .ok (.istore_n 3, 1) := by decide +kernel
theorem dX7_playLowest_53 : decode cX7_playLowest 53 = .ok (.aload_n 0, 1) := by decide +kernel
theorem dX7_playLowest_54 : decode cX7_playLowest 54 = .ok (.iload_n 3, 1) := by decide +kernel
theorem dX7_playLowest_55 : decode cX7_playLowest 55 = .ok (.invokevirtual 174, 3) := by decide +kernel
theorem dX7_playLowest_58 : decode cX7_playLowest 58 = .ok (.ifCond .ne 9, 3) := by decide +kernel
theorem dX7_playLowest_61 : decode cX7_playLowest 61 = .ok (.iinc 3 1, 3) := by decide +kernel
theorem dX7_playLowest_64 : decode cX7_playLowest 64 = .ok (.goto (-11), 3) := by decide +kernel
theorem dX7_playLowest_67 : decode cX7_playLowest 67 = .ok (.aload_n 0, 1) := by decide +kernel
theorem dX7_playLowest_68 : decode cX7_playLowest 68 = .ok (.iload_n 3, 1) := by decide +kernel
theorem dX7_playLowest_69 : decode cX7_playLowest 69 = .ok (.invokevirtual 177, 3) := by decide +kernel
theorem dX7_playLowest_72 : decode cX7_playLowest 72 = .ok (.istore 4, 2) := by decide +kernel
theorem dX7_playLowest_74 : decode cX7_playLowest 74 = .ok (.iinc 2 1, 3) := by decide +kernel
theorem dX7_playLowest_77 : decode cX7_playLowest 77 = .ok (.goto (-39), 3) := by decide +kernel
theorem dX7_playLowest_80 : decode cX7_playLowest 80 = .ok (.iload_n 2, 1) := by decide +kernel
theorem dX7_playLowest_81 : decode cX7_playLowest 81 = .ok (.ireturn, 1) := by decide +kernel
theorem dX7_phase_0 : decode cX7_phase 0 = .ok (.aload_n 0, 1) := by decide +kernel
theorem dX7_phase_1 : decode cX7_phase 1 = .ok (.iconst 0, 1) := by decide +kernel
theorem dX7_phase_2 : decode cX7_phase 2 = .ok (.putfield 58, 3) := by decide +kernel
theorem dX7_phase_5 : decode cX7_phase 5 = .ok (.aload_n 0, 1) := by decide +kernel
theorem dX7_phase_6 : decode cX7_phase 6 = .ok (.getfield 9, 3) := by decide +kernel
theorem dX7_phase_9 : decode cX7_phase 9 = .ok (.ireturn, 1) := by decide +kernel
theorem dX7_turn_0 : decode cX7_turn 0 = .ok (.aload_n 0, 1) := by decide +kernel
theorem dX7_turn_1 : decode cX7_turn 1 = .ok (.iconst 0, 1) := by decide +kernel
theorem dX7_turn_2 : decode cX7_turn 2 = .ok (.putfield 58, 3) := by decide +kernel
theorem dX7_turn_5 : decode cX7_turn 5 = .ok (.aload_n 0, 1) := by decide +kernel
theorem dX7_turn_6 : decode cX7_turn 6 = .ok (.getfield 13, 3) := by decide +kernel
theorem dX7_turn_9 : decode cX7_turn 9 = .ok (.ireturn, 1) := by decide +kernel
theorem dX7_declarer_0 : decode cX7_declarer 0 = .ok (.aload_n 0, 1) := by decide +kernel
theorem dX7_declarer_1 : decode cX7_declarer 1 = .ok (.iconst 0, 1) := by decide +kernel
theorem dX7_declarer_2 : decode cX7_declarer 2 = .ok (.putfield 58, 3) := by decide +kernel
theorem dX7_declarer_5 : decode cX7_declarer 5 = .ok (.aload_n 0, 1) := by decide +kernel
theorem dX7_declarer_6 : decode cX7_declarer 6 = .ok (.getfield 31, 3) := by decide +kernel
theorem dX7_declarer_9 : decode cX7_declarer 9 = .ok (.ireturn, 1) := by decide +kernel
theorem dX7_level_0 : decode cX7_level 0 = .ok (.aload_n 0, 1) := by decide +kernel
theorem dX7_level_1 : decode cX7_level 1 = .ok (.iconst 0, 1) := by decide +kernel
theorem dX7_level_2 : decode cX7_level 2 = .ok (.putfield 58, 3) := by decide +kernel
theorem dX7_level_5 : decode cX7_level 5 = .ok (.aload_n 0, 1) := by decide +kernel
theorem dX7_level_6 : decode cX7_level 6 = .ok (.getfield 84, 3) := by decide +kernel
theorem dX7_level_9 : decode cX7_level 9 = .ok (.ireturn, 1) := by decide +kernel
theorem dX7_called_0 : decode cX7_called 0 = .ok (.aload_n 0, 1) := by decide +kernel
theorem dX7_called_1 : decode cX7_called 1 = .ok (.iconst 0, 1) := by decide +kernel
theorem dX7_called_2 : decode cX7_called 2 = .ok (.putfield 58, 3) := by decide +kernel
theorem dX7_called_5 : decode cX7_called 5 = .ok (.aload_n 0, 1) := by decide +kernel
theorem dX7_called_6 : decode cX7_called 6 = .ok (.getfield 34, 3) := by decide +kernel
theorem dX7_called_9 : decode cX7_called 9 = .ok (.ireturn, 1) := by decide +kernel
theorem dX7_partner_0 : decode cX7_partner 0 = .ok (.aload_n 0, 1) := by decide +kernel
theorem dX7_partner_1 : decode cX7_partner 1 = .ok (.iconst 0, 1) := by decide +kernel
theorem dX7_partner_2 : decode cX7_partner 2 = .ok (.putfield 58, 3) := by decide +kernel
theorem dX7_partner_5 : decode cX7_partner 5 = .ok (.aload_n 0, 1) := by decide +kernel
theorem dX7_partner_6 : decode cX7_partner 6 = .ok (.getfield 37, 3) := by decide +kernel
theorem dX7_partner_9 : decode cX7_partner 9 = .ok (.ireturn, 1) := by decide +kernel
set_option maxRecDepth 20000 in
theorem ggX7_hand_X7_isPlayer : GoodIn wsX7_hand wsX7_isPlayer := goodIn_r _ [5, 6, 7, 4, 8] (by decide +kernel) (by decide +kernel)
set_option maxRecDepth 20000 in
theorem gX7_hand_X7_isPlayer : GoodIn wsX7_hand (va_wsS RX7 180 yX7_isPlayer wsX7_isPlayer) := goodIn_app (goodIn_of _ (by decide +kernel)) ggX7_hand_X7_isPlayer
set_option maxRecDepth 20000 in
theorem ggX7_hand_X7_isFine : GoodIn wsX7_hand wsX7_isFine := goodIn_r _ [12, 13, 14, 15, 16, 17, 18, 19, 20, 21, 22, 23, 24, 25, 26, 27, 28, 29, 30, 31, 32, 33, 34, 35, 36, 37, 38, 39, 40, 41, 42] (by decide +kernel) (by decide +kernel)
set_option maxRecDepth 20000 in
theorem gX7_hand_X7_isFine : GoodIn wsX7_hand (wsV RX7 66 RX7 yX7_isFine wsX7_isFine) := goodIn_app (goodIn_of _ (by decide +kernel)) ggX7_hand_X7_isFine
theorem dX7_hand_0 : decode cX7_hand 0 = .ok (.aload_n 0, 1) := by decide +kernel
theorem dX7_hand_1 : decode cX7_hand 1 = .ok (.iload_n 1, 1) := by decide +kernel
theorem dX7_hand_2 : decode cX7_hand 2 = .ok (.invokestatic 180, 3) := by decide +kernel
theorem dX7_hand_5 : decode cX7_hand 5 = .ok (.ifCond .eq 7, 3) := by decide +kernel
theorem dX7_hand_8 : decode cX7_hand 8 = .ok (.iconst 0, 1) := by decide +kernel
theorem dX7_hand_9 : decode cX7_hand 9 = .ok (.goto 4, 3) := by decide +kernel
theorem dX7_hand_12 : decode cX7_hand 12 = .ok (.iconst 1, 1) := by decide +kernel
theorem dX7_hand_13 : decode cX7_hand 13 = .ok (.invokevirtual 66, 3) := by decide +kernel
theorem dX7_hand_16 : decode cX7_hand 16 = .ok (.ifCond .eq 12, 3) := by decide +kernel
theorem dX7_hand_19 : decode cX7_hand 19 = .ok (.aload_n 0, 1) := by decide +kernel
theorem dX7_hand_20 : decode cX7_hand 20 = .ok (.getfield 20, 3) := by decide +kernel
theorem dX7_hand_23 : decode cX7_hand 23 = .ok (.iload_n 1, 1) := by decide +kernel
theorem dX7_hand_24 : decode cX7_hand 24 = .ok (.laload, 1) := by decide +kernel
theorem dX7_hand_25 : decode cX7_hand 25 = .ok (.goto 4, 3) := by decide +kernel
theorem dX7_hand_28 : decode cX7_hand 28 = .ok (.lconst 0, 1) := by decide +kernel
theorem dX7_hand_29 : decode cX7_hand 29 = .ok (.lreturn, 1) := by decide +kernel
set_option maxRecDepth 20000 in
theorem ggX7_talonAt_X7_isIn : GoodIn wsX7_talonAt wsX7_isIn := goodIn_r _ [5] (by decide +kernel) (by decide +kernel)
set_option maxRecDepth 20000 in
theorem gX7_talonAt_X7_isIn : GoodIn wsX7_talonAt (va_wsS RX7 61 yX7_isIn wsX7_isIn) := goodIn_app (goodIn_of _ (by decide +kernel)) ggX7_talonAt_X7_isIn
set_option maxRecDepth 20000 in
theorem ggX7_talonAt_X7_isFine : GoodIn wsX7_talonAt wsX7_isFine := goodIn_r _ [9, 10, 16, 17, 18, 19, 20, 21, 22, 23, 24, 25, 26, 27, 28, 29, 30, 31, 32, 33, 34, 35, 36, 37, 38, 39, 40, 41, 42, 43, 44] (by decide +kernel) (by decide +kernel)
set_option maxRecDepth 20000 in
theorem gX7_talonAt_X7_isFine : GoodIn wsX7_talonAt (wsV RX7 66 RX7 yX7_isFine wsX7_isFine) := goodIn_app (goodIn_of _ (by decide +kernel)) ggX7_talonAt_X7_isFine
set_option maxRecDepth 20000 in
theorem ggX7_talonAt_X7_talon : GoodIn wsX7_talonAt wsX7_talon := goodIn_r _ [14, 15, 16, 17, 18, 19, 20, 21, 22, 23, 24, 25, 26, 27, 28, 29, 30, 31, 32, 33, 34, 35, 36, 37, 38, 39, 40, 41, 42, 43, 44] (by decide +kernel) (by decide +kernel)
set_option maxRecDepth 20000 in
theorem gX7_talonAt_X7_talon : GoodIn wsX7_talonAt (wsV RX7 110 RX7 yX7_talon wsX7_talon) := goodIn_app (goodIn_of _ (by decide +kernel)) ggX7_talonAt_X7_talon
theorem dX7_talonAt_0 : decode cX7_talonAt 0 = .ok (.aload_n 0, 1) := by decide +kernel
theorem dX7_talonAt_1 : decode cX7_talonAt 1 = .ok (.iload_n 1, 1) := by decide +kernel
theorem dX7_talonAt_2 : decode cX7_talonAt 2 = .ok (.iconst 0, 1) := by decide +kernel
theorem dX7_talonAt_3 : decode cX7_talonAt 3 = .ok (.iconst 5, 1) := by decide +kernel
theorem dX7_talonAt_4 : decode cX7_talonAt 4 = .ok (.invokestatic 61, 3) := by decide +kernel
theorem dX7_talonAt_7 : decode cX7_talonAt 7 = .ok (.ifCond .ne 7, 3) := by decide +kernel
theorem dX7_talonAt_10 : decode cX7_talonAt 10 = .ok (.iconst 1, 1) := by decide +kernel
theorem dX7_talonAt_11 : decode cX7_talonAt 11 = .ok (.goto 15, 3) := by decide +kernel
theorem dX7_talonAt_14 : decode cX7_talonAt 14 = .ok (.aload_n 0, 1) := by decide +kernel
theorem dX7_talonAt_15 : decode cX7_talonAt 15 = .ok (.getfield 71, 3) := by decide +kernel
theorem dX7_talonAt_18 : decode cX7_talonAt 18 = .ok (.ifCond .ne 7, 3) := by decide +kernel
theorem dX7_talonAt_21 : decode cX7_talonAt 21 = .ok (.iconst 2, 1) := by decide +kernel
theorem dX7_talonAt_22 : decode cX7_talonAt 22 = .ok (.goto 4, 3) := by decide +kernel
theorem dX7_talonAt_25 : decode cX7_talonAt 25 = .ok (.iconst 0, 1) := by decide +kernel
theorem dX7_talonAt_26 : decode cX7_talonAt 26 = .ok (.invokevirtual 66, 3) := by decide +kernel
theorem dX7_talonAt_29 : decode cX7_talonAt 29 = .ok (.ifCond .eq 11, 3) := by decide +kernel
theorem dX7_talonAt_32 : decode cX7_talonAt 32 = .ok (.aload_n 0, 1) := by decide +kernel
theorem dX7_talonAt_33 : decode cX7_talonAt 33 = .ok (.iload_n 1, 1) := by decide +kernel
theorem dX7_talonAt_34 : decode cX7_talonAt 34 = .ok (.invokevirtual 110, 3) := by decide +kernel
theorem dX7_talonAt_37 : decode cX7_talonAt 37 = .ok (.goto 4, 3) := by decide +kernel
theorem dX7_talonAt_40 : decode cX7_talonAt 40 = .ok (.iconst 0, 1) := by decide +kernel
theorem dX7_talonAt_41 : decode cX7_talonAt 41 = .ok (.ireturn, 1) := by decide +kernel
theorem dX7_inTrick_0 : decode cX7_inTrick 0 = .ok (.aload_n 0, 1) := by decide +kernel
theorem dX7_inTrick_1 : decode cX7_inTrick 1 = .ok (.iconst 0, 1) := by decide +kernel
theorem dX7_inTrick_2 : decode cX7_inTrick 2 = .ok (.putfield 58, 3) := by decide +kernel
theorem dX7_inTrick_5 : decode cX7_inTrick 5 = .ok (.aload_n 0, 1) := by decide +kernel
theorem dX7_inTrick_6 : decode cX7_inTrick 6 = .ok (.getfield 101, 3) := by decide +kernel
theorem dX7_inTrick_9 : decode cX7_inTrick 9 = .ok (.ireturn, 1) := by decide +kernel
set_option maxRecDepth 20000 in
theorem ggX7_trickAt_X7_isIn : GoodIn wsX7_trickAt wsX7_isIn := goodIn_r _ [6] (by decide +kernel) (by decide +kernel)
set_option maxRecDepth 20000 in
theorem gX7_trickAt_X7_isIn : GoodIn wsX7_trickAt (va_wsS RX7 61 yX7_isIn wsX7_isIn) := goodIn_app (goodIn_of _ (by decide +kernel)) ggX7_trickAt_X7_isIn
set_option maxRecDepth 20000 in
theorem ggX7_trickAt_X7_isFine : GoodIn wsX7_trickAt wsX7_isFine := goodIn_r _ [10, 11, 12, 13, 14, 15, 16, 17, 18, 19, 20, 21, 22, 23, 24, 25, 26, 27, 28, 29, 30, 31, 32, 33, 34, 35, 36, 37, 38, 39, 40] (by decide +kernel) (by decide +kernel)
set_option maxRecDepth 20000 in
theorem gX7_trickAt_X7_isFine : GoodIn wsX7_trickAt (wsV RX7 66 RX7 yX7_isFine wsX7_isFine) := goodIn_app (goodIn_of _ (by decide +kernel)) ggX7_trickAt_X7_isFine
theorem dX7_trickAt_0 : decode cX7_trickAt 0 = .ok (.aload_n 0, 1) := by decide +kernel
theorem dX7_trickAt_1 : decode cX7_trickAt 1 = .ok (.iload_n 1, 1) := by decide +kernel
theorem dX7_trickAt_2 : decode cX7_trickAt 2 = .ok (.iconst 0, 1) := by decide +kernel
theorem dX7_trickAt_3 : decode cX7_trickAt 3 = .ok (.aload_n 0, 1) := by decide +kernel
theorem dX7_trickAt_4 : decode cX7_trickAt 4 = .ok (.getfield 101, 3) := by decide +kernel
theorem dX7_trickAt_7 : decode cX7_trickAt 7 = .ok (.iconst 1, 1) := by decide +kernel
theorem dX7_trickAt_8 : decode cX7_trickAt 8 = .ok (.isub, 1) := by decide +kernel
theorem dX7_trickAt_9 : decode cX7_trickAt 9 = .ok (.invokestatic 61, 3) := by decide +kernel
theorem dX7_trickAt_12 : decode cX7_trickAt 12 = .ok (.ifCond .eq 7, 3) := by decide +kernel
theorem dX7_trickAt_15 : decode cX7_trickAt 15 = .ok (.iconst 0, 1) := by decide +kernel
theorem dX7_trickAt_16 : decode cX7_trickAt 16 = .ok (.goto 4, 3) := by decide +kernel
theorem dX7_trickAt_19 : decode cX7_trickAt 19 = .ok (.iconst 1, 1) := by decide +kernel
theorem dX7_trickAt_20 : decode cX7_trickAt 20 = .ok (.invokevirtual 66, 3) := by decide +kernel
theorem dX7_trickAt_23 : decode cX7_trickAt 23 = .ok (.ifCond .eq 12, 3) := by decide +kernel
theorem dX7_trickAt_26 : decode cX7_trickAt 26 = .ok (.aload_n 0, 1) := by decide +kernel
theorem dX7_trickAt_27 : decode cX7_trickAt 27 = .ok (.getfield 46, 3) := by decide +kernel
theorem dX7_trickAt_30 : decode cX7_trickAt 30 = .ok (.iload_n 1, 1) := by decide +kernel
theorem dX7_trickAt_31 : decode cX7_trickAt 31 = .ok (.iaload, 1) := by decide +kernel
theorem dX7_trickAt_32 : decode cX7_trickAt 32 = .ok (.goto 4, 3) := by decide +kernel
theorem dX7_trickAt_35 : decode cX7_trickAt 35 = .ok (.iconst 0, 1) := by decide +kernel
theorem dX7_trickAt_36 : decode cX7_trickAt 36 = .ok (.ireturn, 1) := by decide +kernel
set_option maxRecDepth 20000 in
theorem ggX7_canPlay_X7_isCard : GoodIn wsX7_canPlay wsX7_isCard := goodIn_r _ [4, 5, 6, 3, 7] (by decide +kernel) (by decide +kernel)
set_option maxRecDepth 20000 in
theorem gX7_canPlay_X7_isCard : GoodIn wsX7_canPlay (va_wsS RX7 131 yX7_isCard wsX7_isCard) := goodIn_app (goodIn_of _ (by decide +kernel)) ggX7_canPlay_X7_isCard
set_option maxRecDepth 20000 in
theorem ggX7_canPlay_X7_isFine : GoodIn wsX7_canPlay wsX7_isFine := goodIn_r _ [11, 12, 31, 32, 33, 34, 35, 36, 37, 38, 39, 40, 41, 42, 43, 44, 45, 46, 47, 48, 49, 50, 51, 52, 53, 54, 55, 56, 57, 58, 59] (by decide +kernel) (by decide +kernel)
set_option maxRecDepth 20000 in
theorem gX7_canPlay_X7_isFine : GoodIn wsX7_canPlay (wsV RX7 66 RX7 yX7_isFine wsX7_isFine) := goodIn_app (goodIn_of _ (by decide +kernel)) ggX7_canPlay_X7_isFine
set_option maxRecDepth 20000 in
theorem ggX7_canPlay_X7_isPlayable : GoodIn wsX7_canPlay wsX7_isPlayable := goodIn_r _ [16, 17, 18, 19, 20, 21, 22, 23, 3, 24, 25, 26, 27, 28, 29, 30, 31, 32, 33, 34, 35, 36, 37, 38, 39, 40, 41, 42, 43, 44, 45, 46, 47, 48, 49, 50, 51, 52, 53, 54, 55, 56, 57, 58, 59] (by decide +kernel) (by decide +kernel)
set_option maxRecDepth 20000 in
theorem gX7_canPlay_X7_isPlayable : GoodIn wsX7_canPlay (wsV RX7 174 RX7 yX7_isPlayable wsX7_isPlayable) := goodIn_app (goodIn_of _ (by decide +kernel)) ggX7_canPlay_X7_isPlayable
theorem dX7_canPlay_0 : decode cX7_canPlay 0 = .ok (.aload_n 0, 1) := by decide +kernel
theorem dX7_canPlay_1 : decode cX7_canPlay 1 = .ok (.iload_n 1, 1) := by decide +kernel
theorem dX7_canPlay_2 : decode cX7_canPlay 2 = .ok (.invokestatic 131, 3) := by decide +kernel
theorem dX7_canPlay_5 : decode cX7_canPlay 5 = .ok (.ifCond .eq 7, 3) := by decide +kernel
theorem dX7_canPlay_8 : decode cX7_canPlay 8 = .ok (.iconst 0, 1) := by decide +kernel
theorem dX7_canPlay_9 : decode cX7_canPlay 9 = .ok (.goto 4, 3) := by decide +kernel
theorem dX7_canPlay_12 : decode cX7_canPlay 12 = .ok (.iconst 1, 1) := by decide +kernel
theorem dX7_canPlay_13 : decode cX7_canPlay 13 = .ok (.invokevirtual 66, 3) := by decide +kernel
theorem dX7_canPlay_16 : decode cX7_canPlay 16 = .ok (.ifCond .eq 15, 3) := by decide +kernel
theorem dX7_canPlay_19 : decode cX7_canPlay 19 = .ok (.aload_n 0, 1) := by decide +kernel
theorem dX7_canPlay_20 : decode cX7_canPlay 20 = .ok (.iload_n 1, 1) := by decide +kernel
theorem dX7_canPlay_21 : decode cX7_canPlay 21 = .ok (.invokevirtual 174, 3) := by decide +kernel
theorem dX7_canPlay_24 : decode cX7_canPlay 24 = .ok (.ifCond .eq 7, 3) := by decide +kernel
theorem dX7_canPlay_27 : decode cX7_canPlay 27 = .ok (.iconst 1, 1) := by decide +kernel
theorem dX7_canPlay_28 : decode cX7_canPlay 28 = .ok (.goto 4, 3) := by decide +kernel
theorem dX7_canPlay_31 : decode cX7_canPlay 31 = .ok (.iconst 0, 1) := by decide +kernel
theorem dX7_canPlay_32 : decode cX7_canPlay 32 = .ok (.ireturn, 1) := by decide +kernel
theorem dX7_tricks_0 : decode cX7_tricks 0 = .ok (.aload_n 0, 1) := by decide +kernel
theorem dX7_tricks_1 : decode cX7_tricks 1 = .ok (.iconst 0, 1) := by decide +kernel
theorem dX7_tricks_2 : decode cX7_tricks 2 = .ok (.putfield 58, 3) := by decide +kernel
theorem dX7_tricks_5 : decode cX7_tricks 5 = .ok (.aload_n 0, 1) := by decide +kernel
theorem dX7_tricks_6 : decode cX7_tricks 6 = .ok (.getfield 104, 3) := by decide +kernel
theorem dX7_tricks_9 : decode cX7_tricks 9 = .ok (.ireturn, 1) := by decide +kernel
set_option maxRecDepth 20000 in
theorem ggX7_valueOf_X7_isCard : GoodIn wsX7_valueOf wsX7_isCard := goodIn_r _ [4, 5, 6, 3, 7] (by decide +kernel) (by decide +kernel)
set_option maxRecDepth 20000 in
theorem gX7_valueOf_X7_isCard : GoodIn wsX7_valueOf (va_wsS RX7 131 yX7_isCard wsX7_isCard) := goodIn_app (goodIn_of _ (by decide +kernel)) ggX7_valueOf_X7_isCard
set_option maxRecDepth 20000 in
theorem ggX7_valueOf_X7_isFine : GoodIn wsX7_valueOf wsX7_isFine := goodIn_r _ [11, 12, 16, 17, 18, 19, 20, 21, 22, 23, 24, 25, 26, 27, 28, 29, 30, 31, 32, 33, 34, 35, 36, 37, 38, 39, 40, 41, 42, 43, 44] (by decide +kernel) (by decide +kernel)
set_option maxRecDepth 20000 in
theorem gX7_valueOf_X7_isFine : GoodIn wsX7_valueOf (wsV RX7 66 RX7 yX7_isFine wsX7_isFine) := goodIn_app (goodIn_of _ (by decide +kernel)) ggX7_valueOf_X7_isFine
set_option maxRecDepth 20000 in
theorem ggX7_valueOf_X7_worth : GoodIn wsX7_valueOf wsX7_worth := goodIn_r _ [15] (by decide +kernel) (by decide +kernel)
set_option maxRecDepth 20000 in
theorem gX7_valueOf_X7_worth : GoodIn wsX7_valueOf (va_wsS RX7 134 yX7_worth wsX7_worth) := goodIn_app (goodIn_of _ (by decide +kernel)) ggX7_valueOf_X7_worth
theorem dX7_valueOf_0 : decode cX7_valueOf 0 = .ok (.aload_n 0, 1) := by decide +kernel
theorem dX7_valueOf_1 : decode cX7_valueOf 1 = .ok (.iload_n 1, 1) := by decide +kernel
theorem dX7_valueOf_2 : decode cX7_valueOf 2 = .ok (.invokestatic 131, 3) := by decide +kernel
theorem dX7_valueOf_5 : decode cX7_valueOf 5 = .ok (.ifCond .eq 7, 3) := by decide +kernel
theorem dX7_valueOf_8 : decode cX7_valueOf 8 = .ok (.iconst 0, 1) := by decide +kernel
theorem dX7_valueOf_9 : decode cX7_valueOf 9 = .ok (.goto 4, 3) := by decide +kernel
theorem dX7_valueOf_12 : decode cX7_valueOf 12 = .ok (.iconst 1, 1) := by decide +kernel
theorem dX7_valueOf_13 : decode cX7_valueOf 13 = .ok (.invokevirtual 66, 3) := by decide +kernel
theorem dX7_valueOf_16 : decode cX7_valueOf 16 = .ok (.ifCond .eq 10, 3) := by decide +kernel
theorem dX7_valueOf_19 : decode cX7_valueOf 19 = .ok (.iload_n 1, 1) := by decide +kernel
theorem dX7_valueOf_20 : decode cX7_valueOf 20 = .ok (.invokestatic 134, 3) := by decide +kernel
theorem dX7_valueOf_23 : decode cX7_valueOf 23 = .ok (.goto 4, 3) := by decide +kernel
theorem dX7_valueOf_26 : decode cX7_valueOf 26 = .ok (.iconst 0, 1) := by decide +kernel
theorem dX7_valueOf_27 : decode cX7_valueOf 27 = .ok (.ireturn, 1) := by decide +kernel
set_option maxRecDepth 20000 in
theorem ggX7_thirds_X7_isIn : GoodIn wsX7_thirds wsX7_isIn := goodIn_r _ [4] (by decide +kernel) (by decide +kernel)
set_option maxRecDepth 20000 in
theorem gX7_thirds_X7_isIn : GoodIn wsX7_thirds (va_wsS RX7 61 yX7_isIn wsX7_isIn) := goodIn_app (goodIn_of _ (by decide +kernel)) ggX7_thirds_X7_isIn
set_option maxRecDepth 20000 in
theorem ggX7_thirds_X7_isFine : GoodIn wsX7_thirds wsX7_isFine := goodIn_r _ [8, 9, 34, 35, 36, 37, 38, 39, 40, 41, 42, 43, 44, 45, 46, 47, 48, 49, 50, 51, 52, 53, 54, 55, 56, 57, 58, 59, 60, 61, 62] (by decide +kernel) (by decide +kernel)
set_option maxRecDepth 20000 in
theorem gX7_thirds_X7_isFine : GoodIn wsX7_thirds (wsV RX7 66 RX7 yX7_isFine wsX7_isFine) := goodIn_app (goodIn_of _ (by decide +kernel)) ggX7_thirds_X7_isFine
set_option maxRecDepth 20000 in
theorem ggX7_thirds_X7_counted : GoodIn wsX7_thirds wsX7_counted := goodIn_r _ [13, 14, 15, 16, 3, 17, 18, 19, 20, 21, 22, 23, 24, 25, 26, 27, 28, 29, 30, 31, 32, 33, 34, 35, 36, 37, 38, 39, 40, 41, 42, 43, 44, 45, 46, 47, 48, 49, 50, 51, 52, 53, 54, 55, 56, 57, 58, 59, 60, 61, 62] (by decide +kernel) (by decide +kernel)
set_option maxRecDepth 20000 in
theorem gX7_thirds_X7_counted : GoodIn wsX7_thirds (wsV RX7 155 RX7 yX7_counted wsX7_counted) := goodIn_app (goodIn_of _ (by decide +kernel)) ggX7_thirds_X7_counted
theorem dX7_thirds_0 : decode cX7_thirds 0 = .ok (.aload_n 0, 1) := by decide +kernel
theorem dX7_thirds_1 : decode cX7_thirds 1 = .ok (.iload_n 1, 1) := by decide +kernel
theorem dX7_thirds_2 : decode cX7_thirds 2 = .ok (.iconst 0, 1) := by decide +kernel
theorem dX7_thirds_3 : decode cX7_thirds 3 = .ok (.iconst 1, 1) := by decide +kernel
theorem dX7_thirds_4 : decode cX7_thirds 4 = .ok (.invokestatic 61, 3) := by decide +kernel
theorem dX7_thirds_7 : decode cX7_thirds 7 = .ok (.ifCond .eq 7, 3) := by decide +kernel
theorem dX7_thirds_10 : decode cX7_thirds 10 = .ok (.iconst 0, 1) := by decide +kernel
theorem dX7_thirds_11 : decode cX7_thirds 11 = .ok (.goto 4, 3) := by decide +kernel
theorem dX7_thirds_14 : decode cX7_thirds 14 = .ok (.iconst 1, 1) := by decide +kernel
theorem dX7_thirds_15 : decode cX7_thirds 15 = .ok (.invokevirtual 66, 3) := by decide +kernel
theorem dX7_thirds_18 : decode cX7_thirds 18 = .ok (.ifCond .eq 11, 3) := by decide +kernel
theorem dX7_thirds_21 : decode cX7_thirds 21 = .ok (.aload_n 0, 1) := by decide +kernel
theorem dX7_thirds_22 : decode cX7_thirds 22 = .ok (.iload_n 1, 1) := by decide +kernel
theorem dX7_thirds_23 : decode cX7_thirds 23 = .ok (.invokevirtual 155, 3) := by decide +kernel
theorem dX7_thirds_26 : decode cX7_thirds 26 = .ok (.goto 4, 3) := by decide +kernel
theorem dX7_thirds_29 : decode cX7_thirds 29 = .ok (.iconst 0, 1) := by decide +kernel
theorem dX7_thirds_30 : decode cX7_thirds 30 = .ok (.ireturn, 1) := by decide +kernel
set_option maxRecDepth 20000 in
theorem ggX7_byPacks_X7_isIn : GoodIn wsX7_byPacks wsX7_isIn := goodIn_r _ [4] (by decide +kernel) (by decide +kernel)
set_option maxRecDepth 20000 in
theorem gX7_byPacks_X7_isIn : GoodIn wsX7_byPacks (va_wsS RX7 61 yX7_isIn wsX7_isIn) := goodIn_app (goodIn_of _ (by decide +kernel)) ggX7_byPacks_X7_isIn
set_option maxRecDepth 20000 in
theorem ggX7_byPacks_X7_isFine : GoodIn wsX7_byPacks wsX7_isFine := goodIn_r _ [8, 9, 30, 31, 32, 33, 34, 35, 36, 37, 38, 39, 40, 41, 42, 43, 44, 45, 46, 47, 48, 49, 50, 51, 52, 53, 54, 55, 56, 57, 58] (by decide +kernel) (by decide +kernel)
set_option maxRecDepth 20000 in
theorem gX7_byPacks_X7_isFine : GoodIn wsX7_byPacks (wsV RX7 66 RX7 yX7_isFine wsX7_isFine) := goodIn_app (goodIn_of _ (by decide +kernel)) ggX7_byPacks_X7_isFine
set_option maxRecDepth 20000 in
theorem ggX7_byPacks_X7_cardsOf : GoodIn wsX7_byPacks wsX7_cardsOf := goodIn_r _ [13, 14, 15, 16, 17, 18, 19, 20, 3, 21, 22, 23, 30, 31, 32, 33, 34, 35, 36, 37, 38, 39, 40, 41, 42, 43, 44, 45, 46, 47, 48, 49, 50, 51, 52, 53, 54, 55, 56, 57, 58] (by decide +kernel) (by decide +kernel)
set_option maxRecDepth 20000 in
theorem gX7_byPacks_X7_cardsOf : GoodIn wsX7_byPacks (wsV RX7 146 RX7 yX7_cardsOf wsX7_cardsOf) := goodIn_app (goodIn_of _ (by decide +kernel)) ggX7_byPacks_X7_cardsOf
set_option maxRecDepth 20000 in
theorem ggX7_byPacks_X7_has : GoodIn wsX7_byPacks wsX7_has := goodIn_r _ [26] (by decide +kernel) (by decide +kernel)
set_option maxRecDepth 20000 in
theorem gX7_byPacks_X7_has : GoodIn wsX7_byPacks (va_wsS RX7 124 yX7_has wsX7_has) := goodIn_app (goodIn_of _ (by decide +kernel)) ggX7_byPacks_X7_has
set_option maxRecDepth 20000 in
theorem ggX7_byPacks_X7_worth : GoodIn wsX7_byPacks wsX7_worth := goodIn_r _ [29] (by decide +kernel) (by decide +kernel)
set_option maxRecDepth 20000 in
theorem gX7_byPacks_X7_worth : GoodIn wsX7_byPacks (va_wsS RX7 134 yX7_worth wsX7_worth) := goodIn_app (goodIn_of _ (by decide +kernel)) ggX7_byPacks_X7_worth
theorem dX7_byPacks_0 : decode cX7_byPacks 0 = .ok (.aload_n 0, 1) := by decide +kernel
theorem dX7_byPacks_1 : decode cX7_byPacks 1 = .ok (.iload_n 1, 1) := by decide +kernel
theorem dX7_byPacks_2 : decode cX7_byPacks 2 = .ok (.iconst 0, 1) := by decide +kernel
theorem dX7_byPacks_3 : decode cX7_byPacks 3 = .ok (.iconst 1, 1) := by decide +kernel
theorem dX7_byPacks_4 : decode cX7_byPacks 4 = .ok (.invokestatic 61, 3) := by decide +kernel
theorem dX7_byPacks_7 : decode cX7_byPacks 7 = .ok (.ifCond .eq 7, 3) := by decide +kernel
theorem dX7_byPacks_10 : decode cX7_byPacks 10 = .ok (.iconst 0, 1) := by decide +kernel
theorem dX7_byPacks_11 : decode cX7_byPacks 11 = .ok (.goto 4, 3) := by decide +kernel
theorem dX7_byPacks_14 : decode cX7_byPacks 14 = .ok (.iconst 1, 1) := by decide +kernel
theorem dX7_byPacks_15 : decode cX7_byPacks 15 = .ok (.invokevirtual 66, 3) := by decide +kernel
theorem dX7_byPacks_18 : decode cX7_byPacks 18 = .ok (.ifCond .ne 5, 3) := by decide +kernel
theorem dX7_byPacks_21 : decode cX7_byPacks 21 = .ok (.iconst 0, 1) := by decide +kernel
theorem dX7_byPacks_22 : decode cX7_byPacks 22 = .ok (.ireturn, 1) := by decide +kernel
theorem dX7_byPacks_23 : decode cX7_byPacks 23 = .ok (.iconst 0, 1) := by decide +kernel
theorem dX7_byPacks_24 : decode cX7_byPacks 24 = .ok (.istore_n 2, 1) := by decide +kernel
theorem dX7_byPacks_25 : decode cX7_byPacks 25 = .ok (.iconst 0, 1) := by decide +kernel
theorem dX7_byPacks_26 : decode cX7_byPacks 26 = .ok (.istore_n 3, 1) := by decide +kernel
theorem dX7_byPacks_27 : decode cX7_byPacks 27 = .ok (.iconst 0, 1) := by decide +kernel
theorem dX7_byPacks_28 : decode cX7_byPacks 28 = .ok (.istore 4, 2) := by decide +kernel
theorem dX7_byPacks_30 : decode cX7_byPacks 30 = .ok (.iconst 0, 1) := by decide +kernel
theorem dX7_byPacks_31 : decode cX7_byPacks 31 = .ok (.istore 5, 2) := by decide +kernel
theorem dX7_byPacks_33 : decode cX7_byPacks 33 = .ok (.iload 5, 2) := by decide +kernel
theorem dX7_byPacks_35 : decode cX7_byPacks 35 = .ok (.bipush 54, 2) := by decide +kernel
theorem dX7_byPacks_37 : decode cX7_byPacks 37 = .ok (.if_icmp .ge 63, 3) := by decide +kernel
theorem dX7_byPacks_40 : decode cX7_byPacks 40 = .ok (.aload_n 0, 1) := by decide +kernel
theorem dX7_byPacks_41 : decode cX7_byPacks 41 = .ok (.iload_n 1, 1) := by decide +kernel
theorem dX7_byPacks_42 : decode cX7_byPacks 42 = .ok (.invokevirtual 146, 3) := by decide +kernel
theorem dX7_byPacks_45 : decode cX7_byPacks 45 = .ok (.iload 5, 2) := by decide +kernel
theorem dX7_byPacks_47 : decode cX7_byPacks 47 = .ok (.invokestatic 124, 3) := by decide +kernel
theorem dX7_byPacks_50 : decode cX7_byPacks 50 = .ok (.ifCond .eq 44, 3) := by decide +kernel
theorem dX7_byPacks_53 : decode cX7_byPacks 53 = .ok (.iload_n 3, 1) := by decide +kernel
theorem dX7_byPacks_54 : decode cX7_byPacks 54 = .ok (.iload 5, 2) := by decide +kernel
theorem dX7_byPacks_56 : decode cX7_byPacks 56 = .ok (.invokestatic 134, 3) := by decide +kernel
theorem dX7_byPacks_59 : decode cX7_byPacks 59 = .ok (.iadd, 1) := by decide +kernel
theorem dX7_byPacks_60 : decode cX7_byPacks 60 = .ok (.istore_n 3, 1) := by decide +kernel
theorem dX7_byPacks_61 : decode cX7_byPacks 61 = .ok (.iinc 4 1, 3) := by decide +kernel
theorem dX7_byPacks_64 : decode cX7_byPacks 64 = .ok (.iload_n 2, 1) := by decide +kernel
theorem dX7_byPacks_65 : decode cX7_byPacks 65 = .ok (.iload 4, 2) := by decide +kernel
theorem dX7_byPacks_67 : decode cX7_byPacks 67 = .ok (.iconst 3, 1) := by decide +kernel
theorem dX7_byPacks_68 : decode cX7_byPacks 68 = .ok (.irem, 1) := by decide +kernel
theorem dX7_byPacks_69 : decode cX7_byPacks 69 = .ok (.ifCond .ne 9, 3) := by decide +kernel
theorem dX7_byPacks_72 : decode cX7_byPacks 72 = .ok (.iload_n 3, 1) := by decide +kernel
theorem dX7_byPacks_73 : decode cX7_byPacks 73 = .ok (.iconst 2, 1) := by decide +kernel
theorem dX7_byPacks_74 : decode cX7_byPacks 74 = .ok (.isub, 1) := by decide +kernel
theorem dX7_byPacks_75 : decode cX7_byPacks 75 = .ok (.goto 4, 3) := by decide +kernel
theorem dX7_byPacks_78 : decode cX7_byPacks 78 = .ok (.iconst 0, 1) := by decide +kernel
theorem dX7_byPacks_79 : decode cX7_byPacks 79 = .ok (.iadd, 1) := by decide +kernel
theorem dX7_byPacks_80 : decode cX7_byPacks 80 = .ok (.istore_n 2, 1) := by decide +kernel
theorem dX7_byPacks_81 : decode cX7_byPacks 81 = .ok (.iload 4, 2) := by decide +kernel
theorem dX7_byPacks_83 : decode cX7_byPacks 83 = .ok (.iconst 3, 1) := by decide +kernel
theorem dX7_byPacks_84 : decode cX7_byPacks 84 = .ok (.irem, 1) := by decide +kernel
theorem dX7_byPacks_85 : decode cX7_byPacks 85 = .ok (.ifCond .ne 7, 3) := by decide +kernel
theorem dX7_byPacks_88 : decode cX7_byPacks 88 = .ok (.iconst 0, 1) := by decide +kernel
theorem dX7_byPacks_89 : decode cX7_byPacks 89 = .ok (.goto 4, 3) := by decide +kernel
theorem dX7_byPacks_92 : decode cX7_byPacks 92 = .ok (.iload_n 3, 1) := by decide +kernel
theorem dX7_byPacks_93 : decode cX7_byPacks 93 = .ok (.istore_n 3, 1) := by decide +kernel
theorem dX7_byPacks_94 : decode cX7_byPacks 94 = .ok (.iinc 5 1, 3) := by decide +kernel
theorem dX7_byPacks_97 : decode cX7_byPacks 97 = .ok (.goto (-64), 3) := by decide +kernel
theorem dX7_byPacks_100 : decode cX7_byPacks 100 = .ok (.iload_n 2, 1) := by decide +kernel
theorem dX7_byPacks_101 : decode cX7_byPacks 101 = .ok (.ireturn, 1) := by decide +kernel
set_option maxRecDepth 20000 in
theorem ggX7_score_X7_isPlayer : GoodIn wsX7_score wsX7_isPlayer := goodIn_r _ [5, 6, 7, 4, 8] (by decide +kernel) (by decide +kernel)
set_option maxRecDepth 20000 in
theorem gX7_score_X7_isPlayer : GoodIn wsX7_score (va_wsS RX7 180 yX7_isPlayer wsX7_isPlayer) := goodIn_app (goodIn_of _ (by decide +kernel)) ggX7_score_X7_isPlayer
set_option maxRecDepth 20000 in
theorem ggX7_score_X7_isFine : GoodIn wsX7_score wsX7_isFine := goodIn_r _ [12, 13, 14, 15, 16, 17, 18, 19, 20, 21, 22, 23, 24, 25, 26, 27, 28, 29, 30, 31, 32, 33, 34, 35, 36, 37, 38, 39, 40, 41, 42] (by decide +kernel) (by decide +kernel)
set_option maxRecDepth 20000 in
theorem gX7_score_X7_isFine : GoodIn wsX7_score (wsV RX7 66 RX7 yX7_isFine wsX7_isFine) := goodIn_app (goodIn_of _ (by decide +kernel)) ggX7_score_X7_isFine
theorem dX7_score_0 : decode cX7_score 0 = .ok (.aload_n 0, 1) := by decide +kernel
theorem dX7_score_1 : decode cX7_score 1 = .ok (.iload_n 1, 1) := by decide +kernel
theorem dX7_score_2 : decode cX7_score 2 = .ok (.invokestatic 180, 3) := by decide +kernel
theorem dX7_score_5 : decode cX7_score 5 = .ok (.ifCond .eq 7, 3) := by decide +kernel
theorem dX7_score_8 : decode cX7_score 8 = .ok (.iconst 0, 1) := by decide +kernel
theorem dX7_score_9 : decode cX7_score 9 = .ok (.goto 4, 3) := by decide +kernel
theorem dX7_score_12 : decode cX7_score 12 = .ok (.iconst 1, 1) := by decide +kernel
theorem dX7_score_13 : decode cX7_score 13 = .ok (.invokevirtual 66, 3) := by decide +kernel
theorem dX7_score_16 : decode cX7_score 16 = .ok (.ifCond .eq 12, 3) := by decide +kernel
theorem dX7_score_19 : decode cX7_score 19 = .ok (.aload_n 0, 1) := by decide +kernel
theorem dX7_score_20 : decode cX7_score 20 = .ok (.getfield 52, 3) := by decide +kernel
theorem dX7_score_23 : decode cX7_score 23 = .ok (.iload_n 1, 1) := by decide +kernel
theorem dX7_score_24 : decode cX7_score 24 = .ok (.iaload, 1) := by decide +kernel
theorem dX7_score_25 : decode cX7_score 25 = .ok (.goto 4, 3) := by decide +kernel
theorem dX7_score_28 : decode cX7_score 28 = .ok (.iconst 0, 1) := by decide +kernel
theorem dX7_score_29 : decode cX7_score 29 = .ok (.ireturn, 1) := by decide +kernel
set_option maxRecDepth 20000 in
theorem ggX7_radli_X7_isPlayer : GoodIn wsX7_radli wsX7_isPlayer := goodIn_r _ [5, 6, 7, 4, 8] (by decide +kernel) (by decide +kernel)
set_option maxRecDepth 20000 in
theorem gX7_radli_X7_isPlayer : GoodIn wsX7_radli (va_wsS RX7 180 yX7_isPlayer wsX7_isPlayer) := goodIn_app (goodIn_of _ (by decide +kernel)) ggX7_radli_X7_isPlayer
set_option maxRecDepth 20000 in
theorem ggX7_radli_X7_isFine : GoodIn wsX7_radli wsX7_isFine := goodIn_r _ [12, 13, 14, 15, 16, 17, 18, 19, 20, 21, 22, 23, 24, 25, 26, 27, 28, 29, 30, 31, 32, 33, 34, 35, 36, 37, 38, 39, 40, 41, 42] (by decide +kernel) (by decide +kernel)
set_option maxRecDepth 20000 in
theorem gX7_radli_X7_isFine : GoodIn wsX7_radli (wsV RX7 66 RX7 yX7_isFine wsX7_isFine) := goodIn_app (goodIn_of _ (by decide +kernel)) ggX7_radli_X7_isFine
theorem dX7_radli_0 : decode cX7_radli 0 = .ok (.aload_n 0, 1) := by decide +kernel
theorem dX7_radli_1 : decode cX7_radli 1 = .ok (.iload_n 1, 1) := by decide +kernel
theorem dX7_radli_2 : decode cX7_radli 2 = .ok (.invokestatic 180, 3) := by decide +kernel
theorem dX7_radli_5 : decode cX7_radli 5 = .ok (.ifCond .eq 7, 3) := by decide +kernel
theorem dX7_radli_8 : decode cX7_radli 8 = .ok (.iconst 0, 1) := by decide +kernel
theorem dX7_radli_9 : decode cX7_radli 9 = .ok (.goto 4, 3) := by decide +kernel
theorem dX7_radli_12 : decode cX7_radli 12 = .ok (.iconst 1, 1) := by decide +kernel
theorem dX7_radli_13 : decode cX7_radli 13 = .ok (.invokevirtual 66, 3) := by decide +kernel
theorem dX7_radli_16 : decode cX7_radli 16 = .ok (.ifCond .eq 12, 3) := by decide +kernel
theorem dX7_radli_19 : decode cX7_radli 19 = .ok (.aload_n 0, 1) := by decide +kernel
theorem dX7_radli_20 : decode cX7_radli 20 = .ok (.getfield 55, 3) := by decide +kernel
theorem dX7_radli_23 : decode cX7_radli 23 = .ok (.iload_n 1, 1) := by decide +kernel
theorem dX7_radli_24 : decode cX7_radli 24 = .ok (.iaload, 1) := by decide +kernel
theorem dX7_radli_25 : decode cX7_radli 25 = .ok (.goto 4, 3) := by decide +kernel
theorem dX7_radli_28 : decode cX7_radli 28 = .ok (.iconst 0, 1) := by decide +kernel
theorem dX7_radli_29 : decode cX7_radli 29 = .ok (.ireturn, 1) := by decide +kernel
theorem dX7_result_0 : decode cX7_result 0 = .ok (.aload_n 0, 1) := by decide +kernel
theorem dX7_result_1 : decode cX7_result 1 = .ok (.iconst 0, 1) := by decide +kernel
theorem dX7_result_2 : decode cX7_result 2 = .ok (.putfield 58, 3) := by decide +kernel
theorem dX7_result_5 : decode cX7_result 5 = .ok (.aload_n 0, 1) := by decide +kernel
theorem dX7_result_6 : decode cX7_result 6 = .ok (.getfield 161, 3) := by decide +kernel
theorem dX7_result_9 : decode cX7_result 9 = .ok (.ireturn, 1) := by decide +kernel
set_option maxRecDepth 20000 in
theorem ggX7_knows_X7_isPlayer : GoodIn wsX7_knows wsX7_isPlayer := goodIn_r _ [9, 10, 11, 8, 12] (by decide +kernel) (by decide +kernel)
set_option maxRecDepth 20000 in
theorem gX7_knows_X7_isPlayer : GoodIn wsX7_knows (va_wsS RX7 180 yX7_isPlayer wsX7_isPlayer) := goodIn_app (goodIn_of _ (by decide +kernel)) ggX7_knows_X7_isPlayer
set_option maxRecDepth 20000 in
theorem ggX7_knows_X7_isFine : GoodIn wsX7_knows wsX7_isFine := goodIn_r _ [16, 17, 23, 24, 25, 26, 27, 28, 29, 30, 31, 32, 33, 34, 35, 36, 37, 38, 39, 40, 41, 42, 43, 44, 45, 46, 47, 48, 49, 50, 51] (by decide +kernel) (by decide +kernel)
set_option maxRecDepth 20000 in
theorem gX7_knows_X7_isFine : GoodIn wsX7_knows (wsV RX7 66 RX7 yX7_isFine wsX7_isFine) := goodIn_app (goodIn_of _ (by decide +kernel)) ggX7_knows_X7_isFine
set_option maxRecDepth 20000 in
theorem ggX7_knows_X7_sideOf : GoodIn wsX7_knows wsX7_sideOf := goodIn_r _ [21, 1, 22, 23, 24, 25, 26, 27, 28, 29, 30, 31, 32, 33, 34, 35, 36, 37, 38, 39, 40, 41, 42, 43, 44, 45, 46, 47, 48, 49, 50, 51] (by decide +kernel) (by decide +kernel)
set_option maxRecDepth 20000 in
theorem gX7_knows_X7_sideOf : GoodIn wsX7_knows (wsV RX7 143 RX7 yX7_sideOf wsX7_sideOf) := goodIn_app (goodIn_of _ (by decide +kernel)) ggX7_knows_X7_sideOf
theorem dX7_knows_0 : decode cX7_knows 0 = .ok (.aload_n 0, 1) := by decide +kernel
theorem dX7_knows_1 : decode cX7_knows 1 = .ok (.iload_n 1, 1) := by decide +kernel
theorem dX7_knows_2 : decode cX7_knows 2 = .ok (.invokestatic 180, 3) := by decide +kernel
theorem dX7_knows_5 : decode cX7_knows 5 = .ok (.ifCond .eq 14, 3) := by decide +kernel
theorem dX7_knows_8 : decode cX7_knows 8 = .ok (.iload_n 2, 1) := by decide +kernel
theorem dX7_knows_9 : decode cX7_knows 9 = .ok (.invokestatic 180, 3) := by decide +kernel
theorem dX7_knows_12 : decode cX7_knows 12 = .ok (.ifCond .eq 7, 3) := by decide +kernel
theorem dX7_knows_15 : decode cX7_knows 15 = .ok (.iconst 0, 1) := by decide +kernel
theorem dX7_knows_16 : decode cX7_knows 16 = .ok (.goto 4, 3) := by decide +kernel
theorem dX7_knows_19 : decode cX7_knows 19 = .ok (.iconst 1, 1) := by decide +kernel
theorem dX7_knows_20 : decode cX7_knows 20 = .ok (.invokevirtual 66, 3) := by decide +kernel
theorem dX7_knows_23 : decode cX7_knows 23 = .ok (.ifCond .ne 5, 3) := by decide +kernel
theorem dX7_knows_26 : decode cX7_knows 26 = .ok (.iconst 0, 1) := by decide +kernel
theorem dX7_knows_27 : decode cX7_knows 27 = .ok (.ireturn, 1) := by decide +kernel
theorem dX7_knows_28 : decode cX7_knows 28 = .ok (.aload_n 0, 1) := by decide +kernel
theorem dX7_knows_29 : decode cX7_knows 29 = .ok (.getfield 31, 3) := by decide +kernel
theorem dX7_knows_32 : decode cX7_knows 32 = .ok (.iconst (-1), 1) := by decide +kernel
theorem dX7_knows_33 : decode cX7_knows 33 = .ok (.if_icmp .eq 11, 3) := by decide +kernel
theorem dX7_knows_36 : decode cX7_knows 36 = .ok (.aload_n 0, 1) := by decide +kernel
theorem dX7_knows_37 : decode cX7_knows 37 = .ok (.getfield 9, 3) := by decide +kernel
theorem dX7_knows_40 : decode cX7_knows 40 = .ok (.iconst 2, 1) := by decide +kernel
theorem dX7_knows_41 : decode cX7_knows 41 = .ok (.if_icmp .ne 5, 3) := by decide +kernel
theorem dX7_knows_44 : decode cX7_knows 44 = .ok (.iconst (-1), 1) := by decide +kernel
theorem dX7_knows_45 : decode cX7_knows 45 = .ok (.ireturn, 1) := by decide +kernel
theorem dX7_knows_46 : decode cX7_knows 46 = .ok (.aload_n 0, 1) := by decide +kernel
theorem dX7_knows_47 : decode cX7_knows 47 = .ok (.getfield 84, 3) := by decide +kernel
theorem dX7_knows_50 : decode cX7_knows 50 = .ok (.iconst 3, 1) := by decide +kernel
theorem dX7_knows_51 : decode cX7_knows 51 = .ok (.if_icmp .gt 26, 3) := by decide +kernel
theorem dX7_knows_54 : decode cX7_knows 54 = .ok (.aload_n 0, 1) := by decide +kernel
theorem dX7_knows_55 : decode cX7_knows 55 = .ok (.getfield 40, 3) := by decide +kernel
theorem dX7_knows_58 : decode cX7_knows 58 = .ok (.iconst (-1), 1) := by decide +kernel
theorem dX7_knows_59 : decode cX7_knows 59 = .ok (.if_icmp .eq 18, 3) := by decide +kernel
theorem dX7_knows_62 : decode cX7_knows 62 = .ok (.aload_n 0, 1) := by decide +kernel
theorem dX7_knows_63 : decode cX7_knows 63 = .ok (.getfield 87, 3) := by decide +kernel
theorem dX7_knows_66 : decode cX7_knows 66 = .ok (.ifCond .ne 11, 3) := by decide +kernel
theorem dX7_knows_69 : decode cX7_knows 69 = .ok (.iload_n 1, 1) := by decide +kernel
theorem dX7_knows_70 : decode cX7_knows 70 = .ok (.aload_n 0, 1) := by decide +kernel
theorem dX7_knows_71 : decode cX7_knows 71 = .ok (.getfield 40, 3) := by decide +kernel
theorem dX7_knows_74 : decode cX7_knows 74 = .ok (.if_icmp .ne 7, 3) := by decide +kernel
theorem dX7_knows_77 : decode cX7_knows 77 = .ok (.iconst 1, 1) := by decide +kernel
theorem dX7_knows_78 : decode cX7_knows 78 = .ok (.goto 4, 3) := by decide +kernel
theorem dX7_knows_81 : decode cX7_knows 81 = .ok (.iconst 0, 1) := by decide +kernel
theorem dX7_knows_82 : decode cX7_knows 82 = .ok (.istore_n 3, 1) := by decide +kernel
theorem dX7_knows_83 : decode cX7_knows 83 = .ok (.iload_n 3, 1) := by decide +kernel
theorem dX7_knows_84 : decode cX7_knows 84 = .ok (.ifCond .ne 16, 3) := by decide +kernel
theorem dX7_knows_87 : decode cX7_knows 87 = .ok (.iload_n 2, 1) := by decide +kernel
theorem dX7_knows_88 : decode cX7_knows 88 = .ok (.aload_n 0, 1) := by decide +kernel
theorem dX7_knows_89 : decode cX7_knows 89 = .ok (.getfield 31, 3) := by decide +kernel
theorem dX7_knows_92 : decode cX7_knows 92 = .ok (.if_icmp .eq 8, 3) := by decide +kernel
theorem dX7_knows_95 : decode cX7_knows 95 = .ok (.iload_n 2, 1) := by decide +kernel
theorem dX7_knows_96 : decode cX7_knows 96 = .ok (.iload_n 1, 1) := by decide +kernel
theorem dX7_knows_97 : decode cX7_knows 97 = .ok (.if_icmp .ne 11, 3) := by decide +kernel
theorem dX7_knows_100 : decode cX7_knows 100 = .ok (.aload_n 0, 1) := by decide +kernel
theorem dX7_knows_101 : decode cX7_knows 101 = .ok (.iload_n 2, 1) := by decide +kernel
theorem dX7_knows_102 : decode cX7_knows 102 = .ok (.invokevirtual 143, 3) := by decide +kernel
theorem dX7_knows_105 : decode cX7_knows 105 = .ok (.goto 4, 3) := by decide +kernel
theorem dX7_knows_108 : decode cX7_knows 108 = .ok (.iconst (-1), 1) := by decide +kernel
theorem dX7_knows_109 : decode cX7_knows 109 = .ok (.ireturn, 1) := by decide +kernel
end
section
set_option maxRecDepth 20000 in
theorem ggL_deal_X6_deal : GoodIn wsL_deal wsX6_deal := goodIn_ca (goodIn_ca (goodIn_r _ [7, 8, 9, 10, 11, 12, 13, 14, 15, 16, 17, 18, 6, 19, 20, 21, 22, 23, 24, 25, 26, 27, 28, 29, 30, 31, 32, 33, 34, 35, 36, 37, 38, 39, 40, 41, 42, 43, 44, 45, 46, 47, 48, 49, 50, 51, 52, 53, 54, 55, 56, 57, 58, 59, 60, 61, 62, 63, 64, 65, 66, 67, 68, 69, 70, 71, 72, 73, 74, 75, 76, 77, 78, 79, 80, 81, 82, 83, 84, 85, 86, 87, 88, 89, 90, 91, 92, 93, 94, 95, 96, 97, 98, 99, 100, 101, 102, 103, 104, 105, 106, 107, 108, 109, 110, 111, 112, 113, 114, 115] (by decide +kernel) (by decide +kernel)) (goodIn_sub (fun _ h => List.mem_cons_of_mem _ (List.mem_append_left _ (List.mem_append_right _ h))) (by decide +kernel))) (goodIn_sub (fun _ h => List.mem_cons_of_mem _ (List.mem_append_right _ h)) (by decide +kernel))
set_option maxRecDepth 20000 in
theorem gL_deal_X6_deal : GoodIn wsL_deal (wsV RL 7 RX6 yX6_deal wsX6_deal) := goodIn_app (goodIn_of _ (by decide +kernel)) ggL_deal_X6_deal
theorem dL_deal_0 : decode cL_deal 0 = .ok (.aload_n 2, 1) := by decide +kernel
theorem dL_deal_1 : decode cL_deal 1 = .ok (.iconst 0, 1) := by decide +kernel
theorem dL_deal_2 : decode cL_deal 2 = .ok (.aload_n 0, 1) := by decide +kernel
theorem dL_deal_3 : decode cL_deal 3 = .ok (.iload_n 1, 1) := by decide +kernel
theorem dL_deal_4 : decode cL_deal 4 = .ok (.invokevirtual 7, 3) := by decide +kernel
theorem dL_deal_7 : decode cL_deal 7 = .ok (.i2l, 1) := by decide +kernel
theorem dL_deal_8 : decode cL_deal 8 = .ok (.lastore, 1) := by decide +kernel
theorem dL_deal_9 : decode cL_deal 9 = .ok (.goto 9, 3) := by decide +kernel
theorem dL_deal_12 : decode cL_deal 12 = .ok (.astore_n 3, 1) := by decide +kernel
theorem dL_deal_13 : decode cL_deal 13 = .ok (.iconst 1, 1) := by decide +kernel
theorem dL_deal_14 : decode cL_deal 14 = .ok (.ireturn, 1) := by decide +kernel
theorem dL_deal_15 : decode cL_deal 15 = .ok (.astore_n 3, 1) := by decide +kernel
theorem dL_deal_16 : decode cL_deal 16 = .ok (.iconst 2, 1) := by decide +kernel
theorem dL_deal_17 : decode cL_deal 17 = .ok (.ireturn, 1) := by decide +kernel
theorem dL_deal_18 : decode cL_deal 18 = .ok (.iconst 0, 1) := by decide +kernel
theorem dL_deal_19 : decode cL_deal 19 = .ok (.ireturn, 1) := by decide +kernel
set_option maxRecDepth 20000 in
theorem ggL_bid_X6_bid : GoodIn wsL_bid wsX6_bid := goodIn_ca (goodIn_ca (goodIn_r _ [7, 8, 9, 10, 11, 12, 13, 14, 15, 16, 17, 18, 19, 20, 21, 22, 23, 24, 25, 26, 27, 28, 29, 30, 31, 32, 33, 34, 35, 36, 6, 37, 38, 39, 40, 41, 42, 43, 44, 45, 46, 47, 48, 49, 50, 51, 52, 53, 54, 55, 56, 57, 58, 59, 60, 61, 62, 63, 64, 65, 66, 67, 68, 69, 70, 71, 72, 73, 74, 75, 76, 77, 78, 79, 80, 81, 82, 83, 84, 85, 86, 87, 88, 89, 90, 91, 92] (by decide +kernel) (by decide +kernel)) (goodIn_sub (fun _ h => List.mem_cons_of_mem _ (List.mem_append_left _ (List.mem_append_right _ h))) (by decide +kernel))) (goodIn_sub (fun _ h => List.mem_cons_of_mem _ (List.mem_append_right _ h)) (by decide +kernel))
set_option maxRecDepth 20000 in
theorem gL_bid_X6_bid : GoodIn wsL_bid (wsV RL 17 RX6 yX6_bid wsX6_bid) := goodIn_app (goodIn_of _ (by decide +kernel)) ggL_bid_X6_bid
theorem dL_bid_0 : decode cL_bid 0 = .ok (.aload_n 2, 1) := by decide +kernel
theorem dL_bid_1 : decode cL_bid 1 = .ok (.iconst 0, 1) := by decide +kernel
theorem dL_bid_2 : decode cL_bid 2 = .ok (.aload_n 0, 1) := by decide +kernel
theorem dL_bid_3 : decode cL_bid 3 = .ok (.iload_n 1, 1) := by decide +kernel
theorem dL_bid_4 : decode cL_bid 4 = .ok (.invokevirtual 17, 3) := by decide +kernel
theorem dL_bid_7 : decode cL_bid 7 = .ok (.i2l, 1) := by decide +kernel
theorem dL_bid_8 : decode cL_bid 8 = .ok (.lastore, 1) := by decide +kernel
theorem dL_bid_9 : decode cL_bid 9 = .ok (.goto 9, 3) := by decide +kernel
theorem dL_bid_12 : decode cL_bid 12 = .ok (.astore_n 3, 1) := by decide +kernel
theorem dL_bid_13 : decode cL_bid 13 = .ok (.iconst 1, 1) := by decide +kernel
theorem dL_bid_14 : decode cL_bid 14 = .ok (.ireturn, 1) := by decide +kernel
theorem dL_bid_15 : decode cL_bid 15 = .ok (.astore_n 3, 1) := by decide +kernel
theorem dL_bid_16 : decode cL_bid 16 = .ok (.iconst 2, 1) := by decide +kernel
theorem dL_bid_17 : decode cL_bid 17 = .ok (.ireturn, 1) := by decide +kernel
theorem dL_bid_18 : decode cL_bid 18 = .ok (.iconst 0, 1) := by decide +kernel
theorem dL_bid_19 : decode cL_bid 19 = .ok (.ireturn, 1) := by decide +kernel
set_option maxRecDepth 20000 in
theorem ggL_call_X6_call : GoodIn wsL_call wsX6_call := goodIn_ca (goodIn_ca (goodIn_r _ [7, 8, 9, 10, 11, 12, 13, 14, 15, 16, 17, 18, 19, 6, 20, 21, 22, 23, 24, 25, 26, 27, 28, 29, 30, 31, 32, 33, 34, 35, 36, 37, 38, 39, 40, 41, 42, 43, 44, 45, 46, 47, 48, 49, 50, 51, 52, 53] (by decide +kernel) (by decide +kernel)) (goodIn_sub (fun _ h => List.mem_cons_of_mem _ (List.mem_append_left _ (List.mem_append_right _ h))) (by decide +kernel))) (goodIn_sub (fun _ h => List.mem_cons_of_mem _ (List.mem_append_right _ h)) (by decide +kernel))
set_option maxRecDepth 20000 in
theorem gL_call_X6_call : GoodIn wsL_call (wsV RL 20 RX6 yX6_call wsX6_call) := goodIn_app (goodIn_of _ (by decide +kernel)) ggL_call_X6_call
theorem dL_call_0 : decode cL_call 0 = .ok (.aload_n 2, 1) := by decide +kernel
theorem dL_call_1 : decode cL_call 1 = .ok (.iconst 0, 1) := by decide +kernel
theorem dL_call_2 : decode cL_call 2 = .ok (.aload_n 0, 1) := by decide +kernel
theorem dL_call_3 : decode cL_call 3 = .ok (.iload_n 1, 1) := by decide +kernel
theorem dL_call_4 : decode cL_call 4 = .ok (.invokevirtual 20, 3) := by decide +kernel
theorem dL_call_7 : decode cL_call 7 = .ok (.i2l, 1) := by decide +kernel
theorem dL_call_8 : decode cL_call 8 = .ok (.lastore, 1) := by decide +kernel
theorem dL_call_9 : decode cL_call 9 = .ok (.goto 9, 3) := by decide +kernel
theorem dL_call_12 : decode cL_call 12 = .ok (.astore_n 3, 1) := by decide +kernel
theorem dL_call_13 : decode cL_call 13 = .ok (.iconst 1, 1) := by decide +kernel
theorem dL_call_14 : decode cL_call 14 = .ok (.ireturn, 1) := by decide +kernel
theorem dL_call_15 : decode cL_call 15 = .ok (.astore_n 3, 1) := by decide +kernel
theorem dL_call_16 : decode cL_call 16 = .ok (.iconst 2, 1) := by decide +kernel
theorem dL_call_17 : decode cL_call 17 = .ok (.ireturn, 1) := by decide +kernel
theorem dL_call_18 : decode cL_call 18 = .ok (.iconst 0, 1) := by decide +kernel
theorem dL_call_19 : decode cL_call 19 = .ok (.ireturn, 1) := by decide +kernel
set_option maxRecDepth 20000 in
theorem ggL_take_X6_take : GoodIn wsL_take wsX6_take := goodIn_ca (goodIn_ca (goodIn_r _ [7, 8, 9, 10, 11, 12, 13, 14, 15, 16, 17, 18, 19, 20, 21, 22, 6, 23, 24, 25, 26, 27, 28, 29, 30, 31, 32, 33, 34, 35, 36, 37, 38, 39, 40, 41, 42, 43, 44, 45, 46, 47, 48, 49, 50, 51, 52, 53, 54, 55, 56, 57, 58, 59, 60, 61, 62, 63, 64, 65, 66, 67, 68, 69, 70, 71, 72, 73, 74, 75, 76, 77] (by decide +kernel) (by decide +kernel)) (goodIn_sub (fun _ h => List.mem_cons_of_mem _ (List.mem_append_left _ (List.mem_append_right _ h))) (by decide +kernel))) (goodIn_sub (fun _ h => List.mem_cons_of_mem _ (List.mem_append_right _ h)) (by decide +kernel))
set_option maxRecDepth 20000 in
theorem gL_take_X6_take : GoodIn wsL_take (wsV RL 25 RX6 yX6_take wsX6_take) := goodIn_app (goodIn_of _ (by decide +kernel)) ggL_take_X6_take
theorem dL_take_0 : decode cL_take 0 = .ok (.aload_n 2, 1) := by decide +kernel
theorem dL_take_1 : decode cL_take 1 = .ok (.iconst 0, 1) := by decide +kernel
theorem dL_take_2 : decode cL_take 2 = .ok (.aload_n 0, 1) := by decide +kernel
theorem dL_take_3 : decode cL_take 3 = .ok (.iload_n 1, 1) := by decide +kernel
theorem dL_take_4 : decode cL_take 4 = .ok (.invokevirtual 25, 3) := by decide +kernel
theorem dL_take_7 : decode cL_take 7 = .ok (.i2l, 1) := by decide +kernel
theorem dL_take_8 : decode cL_take 8 = .ok (.lastore, 1) := by decide +kernel
theorem dL_take_9 : decode cL_take 9 = .ok (.goto 9, 3) := by decide +kernel
theorem dL_take_12 : decode cL_take 12 = .ok (.astore_n 3, 1) := by decide +kernel
theorem dL_take_13 : decode cL_take 13 = .ok (.iconst 1, 1) := by decide +kernel
theorem dL_take_14 : decode cL_take 14 = .ok (.ireturn, 1) := by decide +kernel
theorem dL_take_15 : decode cL_take 15 = .ok (.astore_n 3, 1) := by decide +kernel
theorem dL_take_16 : decode cL_take 16 = .ok (.iconst 2, 1) := by decide +kernel
theorem dL_take_17 : decode cL_take 17 = .ok (.ireturn, 1) := by decide +kernel
theorem dL_take_18 : decode cL_take 18 = .ok (.iconst 0, 1) := by decide +kernel
theorem dL_take_19 : decode cL_take 19 = .ok (.ireturn, 1) := by decide +kernel
set_option maxRecDepth 20000 in
theorem ggL_discard_X6_discard : GoodIn wsL_discard wsX6_discard := goodIn_ca (goodIn_ca (goodIn_r _ [7, 8, 9, 10, 11, 12, 13, 14, 15, 16, 17, 18, 19, 6, 20, 21, 22, 23, 24, 25, 26, 27, 28, 29, 30, 31, 32, 33, 34, 35, 36, 37, 38, 39, 40, 41, 42, 43, 44, 45, 46, 47, 48, 49, 50, 51, 52, 53, 54, 55, 56, 57, 58, 59, 60, 61, 62, 63, 64, 65, 66, 67, 68, 69, 70, 71, 72] (by decide +kernel) (by decide +kernel)) (goodIn_sub (fun _ h => List.mem_cons_of_mem _ (List.mem_append_left _ (List.mem_append_right _ h))) (by decide +kernel))) (goodIn_sub (fun _ h => List.mem_cons_of_mem _ (List.mem_append_right _ h)) (by decide +kernel))
set_option maxRecDepth 20000 in
theorem gL_discard_X6_discard : GoodIn wsL_discard (wsV RL 28 RX6 yX6_discard wsX6_discard) := goodIn_app (goodIn_of _ (by decide +kernel)) ggL_discard_X6_discard
theorem dL_discard_0 : decode cL_discard 0 = .ok (.aload_n 2, 1) := by decide +kernel
theorem dL_discard_1 : decode cL_discard 1 = .ok (.iconst 0, 1) := by decide +kernel
theorem dL_discard_2 : decode cL_discard 2 = .ok (.aload_n 0, 1) := by decide +kernel
theorem dL_discard_3 : decode cL_discard 3 = .ok (.iload_n 1, 1) := by decide +kernel
theorem dL_discard_4 : decode cL_discard 4 = .ok (.invokevirtual 28, 3) := by decide +kernel
theorem dL_discard_7 : decode cL_discard 7 = .ok (.i2l, 1) := by decide +kernel
theorem dL_discard_8 : decode cL_discard 8 = .ok (.lastore, 1) := by decide +kernel
theorem dL_discard_9 : decode cL_discard 9 = .ok (.goto 9, 3) := by decide +kernel
theorem dL_discard_12 : decode cL_discard 12 = .ok (.astore_n 3, 1) := by decide +kernel
theorem dL_discard_13 : decode cL_discard 13 = .ok (.iconst 1, 1) := by decide +kernel
theorem dL_discard_14 : decode cL_discard 14 = .ok (.ireturn, 1) := by decide +kernel
theorem dL_discard_15 : decode cL_discard 15 = .ok (.astore_n 3, 1) := by decide +kernel
theorem dL_discard_16 : decode cL_discard 16 = .ok (.iconst 2, 1) := by decide +kernel
theorem dL_discard_17 : decode cL_discard 17 = .ok (.ireturn, 1) := by decide +kernel
theorem dL_discard_18 : decode cL_discard 18 = .ok (.iconst 0, 1) := by decide +kernel
theorem dL_discard_19 : decode cL_discard 19 = .ok (.ireturn, 1) := by decide +kernel
set_option maxRecDepth 20000 in
theorem ggL_announce_X6_announce : GoodIn wsL_announce wsX6_announce := goodIn_ca (goodIn_ca (goodIn_r _ [7, 8, 9, 10, 11, 12, 13, 14, 15, 16, 17, 18, 19, 6, 20, 21, 22, 23, 24, 25, 26, 27, 28, 29, 30, 31, 32, 33, 34, 35, 36, 37, 38, 39, 40, 41, 42, 43, 44, 45, 46, 47, 48, 49, 50, 51] (by decide +kernel) (by decide +kernel)) (goodIn_sub (fun _ h => List.mem_cons_of_mem _ (List.mem_append_left _ (List.mem_append_right _ h))) (by decide +kernel))) (goodIn_sub (fun _ h => List.mem_cons_of_mem _ (List.mem_append_right _ h)) (by decide +kernel))
set_option maxRecDepth 20000 in
theorem gL_announce_X6_announce : GoodIn wsL_announce (wsV RL 31 RX6 yX6_announce wsX6_announce) := goodIn_app (goodIn_of _ (by decide +kernel)) ggL_announce_X6_announce
theorem dL_announce_0 : decode cL_announce 0 = .ok (.aload_n 2, 1) := by decide +kernel
theorem dL_announce_1 : decode cL_announce 1 = .ok (.iconst 0, 1) := by decide +kernel
theorem dL_announce_2 : decode cL_announce 2 = .ok (.aload_n 0, 1) := by decide +kernel
theorem dL_announce_3 : decode cL_announce 3 = .ok (.iload_n 1, 1) := by decide +kernel
theorem dL_announce_4 : decode cL_announce 4 = .ok (.invokevirtual 31, 3) := by decide +kernel
theorem dL_announce_7 : decode cL_announce 7 = .ok (.i2l, 1) := by decide +kernel
theorem dL_announce_8 : decode cL_announce 8 = .ok (.lastore, 1) := by decide +kernel
theorem dL_announce_9 : decode cL_announce 9 = .ok (.goto 9, 3) := by decide +kernel
theorem dL_announce_12 : decode cL_announce 12 = .ok (.astore_n 3, 1) := by decide +kernel
theorem dL_announce_13 : decode cL_announce 13 = .ok (.iconst 1, 1) := by decide +kernel
theorem dL_announce_14 : decode cL_announce 14 = .ok (.ireturn, 1) := by decide +kernel
theorem dL_announce_15 : decode cL_announce 15 = .ok (.astore_n 3, 1) := by decide +kernel
theorem dL_announce_16 : decode cL_announce 16 = .ok (.iconst 2, 1) := by decide +kernel
theorem dL_announce_17 : decode cL_announce 17 = .ok (.ireturn, 1) := by decide +kernel
theorem dL_announce_18 : decode cL_announce 18 = .ok (.iconst 0, 1) := by decide +kernel
theorem dL_announce_19 : decode cL_announce 19 = .ok (.ireturn, 1) := by decide +kernel
set_option maxRecDepth 20000 in
theorem ggL_play_X6_play : GoodIn wsL_play wsX6_play := goodIn_ca (goodIn_ca (goodIn_r _ [7, 8, 9, 10, 11, 12, 13, 6, 14, 15, 16, 17, 18, 19, 20, 21, 22, 23, 24, 25, 26, 27, 28, 29, 30, 31, 32, 33, 34, 35, 36, 37, 38, 39, 40, 41, 42, 43, 44, 45, 46, 47, 48, 49, 50, 51, 52, 53, 54, 55, 56, 57, 58, 59, 60, 61, 62, 63, 64, 65, 66, 67, 68, 69, 70, 71, 72, 73, 74, 75, 76, 77, 78, 79, 80, 81, 82, 83, 84, 85, 86, 87, 88, 89, 90, 91, 92, 93, 94, 95, 96, 97, 98, 99, 100, 101, 102, 103, 104, 105, 106, 107, 108, 109, 110, 111, 112, 113, 114, 115, 116, 117, 118, 119, 120, 121, 122, 123, 124, 125, 126, 127, 128, 129, 130, 131, 132, 133, 134, 135, 136, 137, 138, 139, 140, 141, 142, 143, 144, 145, 146, 147, 148, 149, 150, 151, 152, 153, 154, 155, 156, 157, 158, 159, 160, 161, 162, 163, 164, 165, 166, 167, 168, 169, 170, 171, 172, 173, 174, 175, 176, 177, 178, 179, 180, 181, 182, 183, 184, 185, 186, 187, 188, 189, 190, 191, 192, 193, 194, 195, 196, 197, 198, 199, 200, 201, 202, 203, 204, 205, 206, 207, 208] (by decide +kernel) (by decide +kernel)) (goodIn_sub (fun _ h => List.mem_cons_of_mem _ (List.mem_append_left _ (List.mem_append_right _ h))) (by decide +kernel))) (goodIn_sub (fun _ h => List.mem_cons_of_mem _ (List.mem_append_right _ h)) (by decide +kernel))
set_option maxRecDepth 20000 in
theorem gL_play_X6_play : GoodIn wsL_play (wsV RL 34 RX6 yX6_play wsX6_play) := goodIn_app (goodIn_of _ (by decide +kernel)) ggL_play_X6_play
theorem dL_play_0 : decode cL_play 0 = .ok (.aload_n 2, 1) := by decide +kernel
theorem dL_play_1 : decode cL_play 1 = .ok (.iconst 0, 1) := by decide +kernel
theorem dL_play_2 : decode cL_play 2 = .ok (.aload_n 0, 1) := by decide +kernel
theorem dL_play_3 : decode cL_play 3 = .ok (.iload_n 1, 1) := by decide +kernel
theorem dL_play_4 : decode cL_play 4 = .ok (.invokevirtual 34, 3) := by decide +kernel
theorem dL_play_7 : decode cL_play 7 = .ok (.i2l, 1) := by decide +kernel
theorem dL_play_8 : decode cL_play 8 = .ok (.lastore, 1) := by decide +kernel
theorem dL_play_9 : decode cL_play 9 = .ok (.goto 9, 3) := by decide +kernel
theorem dL_play_12 : decode cL_play 12 = .ok (.astore_n 3, 1) := by decide +kernel
theorem dL_play_13 : decode cL_play 13 = .ok (.iconst 1, 1) := by decide +kernel
theorem dL_play_14 : decode cL_play 14 = .ok (.ireturn, 1) := by decide +kernel
theorem dL_play_15 : decode cL_play 15 = .ok (.astore_n 3, 1) := by decide +kernel
theorem dL_play_16 : decode cL_play 16 = .ok (.iconst 2, 1) := by decide +kernel
theorem dL_play_17 : decode cL_play 17 = .ok (.ireturn, 1) := by decide +kernel
theorem dL_play_18 : decode cL_play 18 = .ok (.iconst 0, 1) := by decide +kernel
theorem dL_play_19 : decode cL_play 19 = .ok (.ireturn, 1) := by decide +kernel
set_option maxRecDepth 20000 in
theorem ggL_playLowest_X6_playLowest : GoodIn wsL_playLowest wsX6_playLowest := goodIn_ca (goodIn_ca (goodIn_r _ [7, 8, 9, 10, 11, 12, 13, 14, 15, 6, 16, 17, 18, 19, 20, 21, 22, 23, 24, 25, 26, 27, 28, 29, 30, 31, 32, 33, 34, 35, 36, 37, 38, 39, 40, 41, 42, 43, 44, 45, 46, 47, 48, 49, 50, 51, 52, 53, 54, 55, 56, 57, 58, 59, 60, 61, 62, 63, 64, 65, 66, 67, 68, 69, 70, 71, 72, 73, 74, 75, 76, 77, 78, 79, 80, 81, 82, 83, 84, 85, 86, 87, 88, 89, 90, 91, 92, 93, 94, 95, 96, 97, 98, 99, 100, 101, 102, 103, 104, 105, 106, 107, 108, 109, 110, 111, 112, 113, 114, 115, 116, 117, 118, 119, 120, 121, 122, 123, 124, 125, 126, 127, 128, 129, 130, 131, 132, 133, 134, 135, 136, 137, 138, 139, 140, 141, 142, 143, 144, 145, 146, 147, 148, 149, 150, 151, 152, 153, 154, 155, 156, 157, 158, 159, 160, 161, 162, 163, 164, 165, 166, 167, 168, 169, 170, 171, 172, 173, 174, 175, 176, 177, 178, 179, 180, 181, 182, 183, 184, 185, 186, 187, 188, 189, 190, 191, 192, 193, 194, 195, 196, 197, 198, 199, 200, 201, 202, 203, 204, 205, 206, 207, 208] (by decide +kernel) (by decide +kernel)) (goodIn_sub (fun _ h => List.mem_cons_of_mem _ (List.mem_append_left _ (List.mem_append_right _ h))) (by decide +kernel))) (goodIn_sub (fun _ h => List.mem_cons_of_mem _ (List.mem_append_right _ h)) (by decide +kernel))
set_option maxRecDepth 20000 in
theorem gL_playLowest_X6_playLowest : GoodIn wsL_playLowest (wsV RL 37 RX6 yX6_playLowest wsX6_playLowest) := goodIn_app (goodIn_of _ (by decide +kernel)) ggL_playLowest_X6_playLowest
theorem dL_playLowest_0 : decode cL_playLowest 0 = .ok (.aload_n 2, 1) := by decide +kernel
theorem dL_playLowest_1 : decode cL_playLowest 1 = .ok (.iconst 0, 1) := by decide +kernel
theorem dL_playLowest_2 : decode cL_playLowest 2 = .ok (.aload_n 0, 1) := by decide +kernel
theorem dL_playLowest_3 : decode cL_playLowest 3 = .ok (.iload_n 1, 1) := by decide +kernel
theorem dL_playLowest_4 : decode cL_playLowest 4 = .ok (.invokevirtual 37, 3) := by decide +kernel
theorem dL_playLowest_7 : decode cL_playLowest 7 = .ok (.i2l, 1) := by decide +kernel
theorem dL_playLowest_8 : decode cL_playLowest 8 = .ok (.lastore, 1) := by decide +kernel
theorem dL_playLowest_9 : decode cL_playLowest 9 = .ok (.goto 9, 3) := by decide +kernel
theorem dL_playLowest_12 : decode cL_playLowest 12 = .ok (.astore_n 3, 1) := by decide +kernel
theorem dL_playLowest_13 : decode cL_playLowest 13 = .ok (.iconst 1, 1) := by decide +kernel
theorem dL_playLowest_14 : decode cL_playLowest 14 = .ok (.ireturn, 1) := by decide +kernel
theorem dL_playLowest_15 : decode cL_playLowest 15 = .ok (.astore_n 3, 1) := by decide +kernel
theorem dL_playLowest_16 : decode cL_playLowest 16 = .ok (.iconst 2, 1) := by decide +kernel
theorem dL_playLowest_17 : decode cL_playLowest 17 = .ok (.ireturn, 1) := by decide +kernel
theorem dL_playLowest_18 : decode cL_playLowest 18 = .ok (.iconst 0, 1) := by decide +kernel
theorem dL_playLowest_19 : decode cL_playLowest 19 = .ok (.ireturn, 1) := by decide +kernel
set_option maxRecDepth 20000 in
theorem ggL_hand_X6_hand : GoodIn wsL_hand wsX6_hand := goodIn_ca (goodIn_r _ [6, 7, 8, 9, 10, 11, 5, 12, 13, 14, 15, 16, 17, 18, 19, 20, 21, 22, 23, 24, 25, 26, 27, 28, 29, 30, 31, 32, 33, 34, 35, 36, 37] (by decide +kernel) (by decide +kernel)) (goodIn_sub (fun _ h => List.mem_cons_of_mem _ (List.mem_append_right _ h)) (by decide +kernel))
set_option maxRecDepth 20000 in
theorem gL_hand_X6_hand : GoodIn wsL_hand (wsV RL 40 RX6 yX6_hand wsX6_hand) := goodIn_app (goodIn_of _ (by decide +kernel)) ggL_hand_X6_hand
theorem dL_hand_0 : decode cL_hand 0 = .ok (.aload_n 2, 1) := by decide +kernel
theorem dL_hand_1 : decode cL_hand 1 = .ok (.iconst 0, 1) := by decide +kernel
theorem dL_hand_2 : decode cL_hand 2 = .ok (.aload_n 0, 1) := by decide +kernel
theorem dL_hand_3 : decode cL_hand 3 = .ok (.iload_n 1, 1) := by decide +kernel
theorem dL_hand_4 : decode cL_hand 4 = .ok (.invokevirtual 40, 3) := by decide +kernel
theorem dL_hand_7 : decode cL_hand 7 = .ok (.lastore, 1) := by decide +kernel
theorem dL_hand_8 : decode cL_hand 8 = .ok (.goto 6, 3) := by decide +kernel
theorem dL_hand_11 : decode cL_hand 11 = .ok (.astore_n 3, 1) := by decide +kernel
theorem dL_hand_12 : decode cL_hand 12 = .ok (.iconst 1, 1) := by decide +kernel
theorem dL_hand_13 : decode cL_hand 13 = .ok (.ireturn, 1) := by decide +kernel
theorem dL_hand_14 : decode cL_hand 14 = .ok (.iconst 0, 1) := by decide +kernel
theorem dL_hand_15 : decode cL_hand 15 = .ok (.ireturn, 1) := by decide +kernel
set_option maxRecDepth 20000 in
theorem ggL_talonAt_X6_talonAt : GoodIn wsL_talonAt wsX6_talonAt := goodIn_ca (goodIn_ca (goodIn_r _ [7, 8, 9, 10, 11, 12, 13, 14, 15, 16, 17, 18, 19, 20, 21, 22, 23, 24, 25, 26, 27, 28, 29, 30, 31, 32, 33, 34, 35, 36, 37, 38, 39, 40, 41, 42, 43, 44, 45] (by decide +kernel) (by decide +kernel)) (goodIn_sub (fun _ h => List.mem_cons_of_mem _ (List.mem_append_left _ (List.mem_append_right _ h))) (by decide +kernel))) (goodIn_sub (fun _ h => List.mem_cons_of_mem _ (List.mem_append_right _ h)) (by decide +kernel))
set_option maxRecDepth 20000 in
theorem gL_talonAt_X6_talonAt : GoodIn wsL_talonAt (wsV RL 44 RX6 yX6_talonAt wsX6_talonAt) := goodIn_app (goodIn_of _ (by decide +kernel)) ggL_talonAt_X6_talonAt
theorem dL_talonAt_0 : decode cL_talonAt 0 = .ok (.aload_n 2, 1) := by decide +kernel
theorem dL_talonAt_1 : decode cL_talonAt 1 = .ok (.iconst 0, 1) := by decide +kernel
theorem dL_talonAt_2 : decode cL_talonAt 2 = .ok (.aload_n 0, 1) := by decide +kernel
theorem dL_talonAt_3 : decode cL_talonAt 3 = .ok (.iload_n 1, 1) := by decide +kernel
theorem dL_talonAt_4 : decode cL_talonAt 4 = .ok (.invokevirtual 44, 3) := by decide +kernel
theorem dL_talonAt_7 : decode cL_talonAt 7 = .ok (.i2l, 1) := by decide +kernel
theorem dL_talonAt_8 : decode cL_talonAt 8 = .ok (.lastore, 1) := by decide +kernel
theorem dL_talonAt_9 : decode cL_talonAt 9 = .ok (.goto 9, 3) := by decide +kernel
theorem dL_talonAt_12 : decode cL_talonAt 12 = .ok (.astore_n 3, 1) := by decide +kernel
theorem dL_talonAt_13 : decode cL_talonAt 13 = .ok (.iconst 1, 1) := by decide +kernel
theorem dL_talonAt_14 : decode cL_talonAt 14 = .ok (.ireturn, 1) := by decide +kernel
theorem dL_talonAt_15 : decode cL_talonAt 15 = .ok (.astore_n 3, 1) := by decide +kernel
theorem dL_talonAt_16 : decode cL_talonAt 16 = .ok (.iconst 2, 1) := by decide +kernel
theorem dL_talonAt_17 : decode cL_talonAt 17 = .ok (.ireturn, 1) := by decide +kernel
theorem dL_talonAt_18 : decode cL_talonAt 18 = .ok (.iconst 0, 1) := by decide +kernel
theorem dL_talonAt_19 : decode cL_talonAt 19 = .ok (.ireturn, 1) := by decide +kernel
set_option maxRecDepth 20000 in
theorem ggL_trickAt_X6_trickAt : GoodIn wsL_trickAt wsX6_trickAt := goodIn_ca (goodIn_r _ [6, 7, 8, 9, 10, 11, 12, 13, 14, 15, 16, 17, 18, 19, 20, 21, 22, 23, 24, 25, 26, 27, 28, 29, 30, 31, 32, 33, 34, 35, 36, 37, 38, 39, 40, 41, 42, 43] (by decide +kernel) (by decide +kernel)) (goodIn_sub (fun _ h => List.mem_cons_of_mem _ (List.mem_append_right _ h)) (by decide +kernel))
set_option maxRecDepth 20000 in
theorem gL_trickAt_X6_trickAt : GoodIn wsL_trickAt (wsV RL 47 RX6 yX6_trickAt wsX6_trickAt) := goodIn_app (goodIn_of _ (by decide +kernel)) ggL_trickAt_X6_trickAt
theorem dL_trickAt_0 : decode cL_trickAt 0 = .ok (.aload_n 2, 1) := by decide +kernel
theorem dL_trickAt_1 : decode cL_trickAt 1 = .ok (.iconst 0, 1) := by decide +kernel
theorem dL_trickAt_2 : decode cL_trickAt 2 = .ok (.aload_n 0, 1) := by decide +kernel
theorem dL_trickAt_3 : decode cL_trickAt 3 = .ok (.iload_n 1, 1) := by decide +kernel
theorem dL_trickAt_4 : decode cL_trickAt 4 = .ok (.invokevirtual 47, 3) := by decide +kernel
theorem dL_trickAt_7 : decode cL_trickAt 7 = .ok (.i2l, 1) := by decide +kernel
theorem dL_trickAt_8 : decode cL_trickAt 8 = .ok (.lastore, 1) := by decide +kernel
theorem dL_trickAt_9 : decode cL_trickAt 9 = .ok (.goto 6, 3) := by decide +kernel
theorem dL_trickAt_12 : decode cL_trickAt 12 = .ok (.astore_n 3, 1) := by decide +kernel
theorem dL_trickAt_13 : decode cL_trickAt 13 = .ok (.iconst 1, 1) := by decide +kernel
theorem dL_trickAt_14 : decode cL_trickAt 14 = .ok (.ireturn, 1) := by decide +kernel
theorem dL_trickAt_15 : decode cL_trickAt 15 = .ok (.iconst 0, 1) := by decide +kernel
theorem dL_trickAt_16 : decode cL_trickAt 16 = .ok (.ireturn, 1) := by decide +kernel
set_option maxRecDepth 20000 in
theorem ggL_canPlay_X6_canPlay : GoodIn wsL_canPlay wsX6_canPlay := goodIn_ca (goodIn_r _ [6, 7, 8, 9, 10, 5, 11, 12, 13, 14, 15, 16, 17, 18, 19, 20, 21, 22, 23, 24, 25, 26, 27, 28, 29, 30, 31, 32, 33, 34, 35, 36, 37, 38, 39, 40, 41, 42, 43, 44, 45, 46, 47, 48, 49, 50, 51, 52, 53, 54, 55, 56, 57, 58, 59, 60, 61, 62, 63, 64, 65, 66, 67, 68, 69, 70, 71, 72, 73, 74] (by decide +kernel) (by decide +kernel)) (goodIn_sub (fun _ h => List.mem_cons_of_mem _ (List.mem_append_right _ h)) (by decide +kernel))
set_option maxRecDepth 20000 in
theorem gL_canPlay_X6_canPlay : GoodIn wsL_canPlay (wsV RL 50 RX6 yX6_canPlay wsX6_canPlay) := goodIn_app (goodIn_of _ (by decide +kernel)) ggL_canPlay_X6_canPlay
theorem dL_canPlay_0 : decode cL_canPlay 0 = .ok (.aload_n 2, 1) := by decide +kernel
theorem dL_canPlay_1 : decode cL_canPlay 1 = .ok (.iconst 0, 1) := by decide +kernel
theorem dL_canPlay_2 : decode cL_canPlay 2 = .ok (.aload_n 0, 1) := by decide +kernel
theorem dL_canPlay_3 : decode cL_canPlay 3 = .ok (.iload_n 1, 1) := by decide +kernel
theorem dL_canPlay_4 : decode cL_canPlay 4 = .ok (.invokevirtual 50, 3) := by decide +kernel
theorem dL_canPlay_7 : decode cL_canPlay 7 = .ok (.ifCond .eq 7, 3) := by decide +kernel
theorem dL_canPlay_10 : decode cL_canPlay 10 = .ok (.lconst 1, 1) := by decide +kernel
theorem dL_canPlay_11 : decode cL_canPlay 11 = .ok (.goto 4, 3) := by decide +kernel
theorem dL_canPlay_14 : decode cL_canPlay 14 = .ok (.lconst 0, 1) := by decide +kernel
theorem dL_canPlay_15 : decode cL_canPlay 15 = .ok (.lastore, 1) := by decide +kernel
theorem dL_canPlay_16 : decode cL_canPlay 16 = .ok (.goto 6, 3) := by decide +kernel
theorem dL_canPlay_19 : decode cL_canPlay 19 = .ok (.astore_n 3, 1) := by decide +kernel
theorem dL_canPlay_20 : decode cL_canPlay 20 = .ok (.iconst 1, 1) := by decide +kernel
theorem dL_canPlay_21 : decode cL_canPlay 21 = .ok (.ireturn, 1) := by decide +kernel
theorem dL_canPlay_22 : decode cL_canPlay 22 = .ok (.iconst 0, 1) := by decide +kernel
theorem dL_canPlay_23 : decode cL_canPlay 23 = .ok (.ireturn, 1) := by decide +kernel
set_option maxRecDepth 20000 in
theorem ggL_valueOf_X6_valueOf : GoodIn wsL_valueOf wsX6_valueOf := goodIn_ca (goodIn_r _ [6, 7, 8, 9, 10, 5, 11, 12, 13, 14, 15, 16, 17] (by decide +kernel) (by decide +kernel)) (goodIn_sub (fun _ h => List.mem_cons_of_mem _ (List.mem_append_right _ h)) (by decide +kernel))
set_option maxRecDepth 20000 in
theorem gL_valueOf_X6_valueOf : GoodIn wsL_valueOf (wsV RL 54 RX6 yX6_valueOf wsX6_valueOf) := goodIn_app (goodIn_of _ (by decide +kernel)) ggL_valueOf_X6_valueOf
theorem dL_valueOf_0 : decode cL_valueOf 0 = .ok (.aload_n 2, 1) := by decide +kernel
theorem dL_valueOf_1 : decode cL_valueOf 1 = .ok (.iconst 0, 1) := by decide +kernel
theorem dL_valueOf_2 : decode cL_valueOf 2 = .ok (.aload_n 0, 1) := by decide +kernel
theorem dL_valueOf_3 : decode cL_valueOf 3 = .ok (.iload_n 1, 1) := by decide +kernel
theorem dL_valueOf_4 : decode cL_valueOf 4 = .ok (.invokevirtual 54, 3) := by decide +kernel
theorem dL_valueOf_7 : decode cL_valueOf 7 = .ok (.i2l, 1) := by decide +kernel
theorem dL_valueOf_8 : decode cL_valueOf 8 = .ok (.lastore, 1) := by decide +kernel
theorem dL_valueOf_9 : decode cL_valueOf 9 = .ok (.goto 6, 3) := by decide +kernel
theorem dL_valueOf_12 : decode cL_valueOf 12 = .ok (.astore_n 3, 1) := by decide +kernel
theorem dL_valueOf_13 : decode cL_valueOf 13 = .ok (.iconst 1, 1) := by decide +kernel
theorem dL_valueOf_14 : decode cL_valueOf 14 = .ok (.ireturn, 1) := by decide +kernel
theorem dL_valueOf_15 : decode cL_valueOf 15 = .ok (.iconst 0, 1) := by decide +kernel
theorem dL_valueOf_16 : decode cL_valueOf 16 = .ok (.ireturn, 1) := by decide +kernel
set_option maxRecDepth 20000 in
theorem ggL_thirds_X6_thirds : GoodIn wsL_thirds wsX6_thirds := goodIn_ca (goodIn_r _ [6, 7, 8, 9, 10, 11, 5, 12, 13, 14, 15, 16, 17, 18, 19, 20, 21, 22, 23, 24, 25, 26, 27, 28, 29, 30, 31, 32, 33, 34, 35, 36, 37, 38, 39, 40, 41, 42, 43, 44, 45, 46, 47, 48, 49] (by decide +kernel) (by decide +kernel)) (goodIn_sub (fun _ h => List.mem_cons_of_mem _ (List.mem_append_right _ h)) (by decide +kernel))
set_option maxRecDepth 20000 in
theorem gL_thirds_X6_thirds : GoodIn wsL_thirds (wsV RL 57 RX6 yX6_thirds wsX6_thirds) := goodIn_app (goodIn_of _ (by decide +kernel)) ggL_thirds_X6_thirds
theorem dL_thirds_0 : decode cL_thirds 0 = .ok (.aload_n 2, 1) := by decide +kernel
theorem dL_thirds_1 : decode cL_thirds 1 = .ok (.iconst 0, 1) := by decide +kernel
theorem dL_thirds_2 : decode cL_thirds 2 = .ok (.aload_n 0, 1) := by decide +kernel
theorem dL_thirds_3 : decode cL_thirds 3 = .ok (.iload_n 1, 1) := by decide +kernel
theorem dL_thirds_4 : decode cL_thirds 4 = .ok (.invokevirtual 57, 3) := by decide +kernel
theorem dL_thirds_7 : decode cL_thirds 7 = .ok (.i2l, 1) := by decide +kernel
theorem dL_thirds_8 : decode cL_thirds 8 = .ok (.lastore, 1) := by decide +kernel
theorem dL_thirds_9 : decode cL_thirds 9 = .ok (.goto 6, 3) := by decide +kernel
theorem dL_thirds_12 : decode cL_thirds 12 = .ok (.astore_n 3, 1) := by decide +kernel
theorem dL_thirds_13 : decode cL_thirds 13 = .ok (.iconst 1, 1) := by decide +kernel
theorem dL_thirds_14 : decode cL_thirds 14 = .ok (.ireturn, 1) := by decide +kernel
theorem dL_thirds_15 : decode cL_thirds 15 = .ok (.iconst 0, 1) := by decide +kernel
theorem dL_thirds_16 : decode cL_thirds 16 = .ok (.ireturn, 1) := by decide +kernel
set_option maxRecDepth 20000 in
theorem ggL_byPacks_X6_byPacks : GoodIn wsL_byPacks wsX6_byPacks := goodIn_ca (goodIn_r _ [6, 7, 8, 9, 10, 11, 5, 12, 13, 14, 15, 16, 17, 18, 19, 20, 21, 22, 23, 24, 25, 26, 27, 28, 29, 30, 31, 32, 33, 34, 35, 36, 37, 38, 39, 40, 41, 42, 43, 44, 45, 46, 47, 48, 49] (by decide +kernel) (by decide +kernel)) (goodIn_sub (fun _ h => List.mem_cons_of_mem _ (List.mem_append_right _ h)) (by decide +kernel))
set_option maxRecDepth 20000 in
theorem gL_byPacks_X6_byPacks : GoodIn wsL_byPacks (wsV RL 60 RX6 yX6_byPacks wsX6_byPacks) := goodIn_app (goodIn_of _ (by decide +kernel)) ggL_byPacks_X6_byPacks
theorem dL_byPacks_0 : decode cL_byPacks 0 = .ok (.aload_n 2, 1) := by decide +kernel
theorem dL_byPacks_1 : decode cL_byPacks 1 = .ok (.iconst 0, 1) := by decide +kernel
theorem dL_byPacks_2 : decode cL_byPacks 2 = .ok (.aload_n 0, 1) := by decide +kernel
theorem dL_byPacks_3 : decode cL_byPacks 3 = .ok (.iload_n 1, 1) := by decide +kernel
theorem dL_byPacks_4 : decode cL_byPacks 4 = .ok (.invokevirtual 60, 3) := by decide +kernel
theorem dL_byPacks_7 : decode cL_byPacks 7 = .ok (.i2l, 1) := by decide +kernel
theorem dL_byPacks_8 : decode cL_byPacks 8 = .ok (.lastore, 1) := by decide +kernel
theorem dL_byPacks_9 : decode cL_byPacks 9 = .ok (.goto 6, 3) := by decide +kernel
theorem dL_byPacks_12 : decode cL_byPacks 12 = .ok (.astore_n 3, 1) := by decide +kernel
theorem dL_byPacks_13 : decode cL_byPacks 13 = .ok (.iconst 1, 1) := by decide +kernel
theorem dL_byPacks_14 : decode cL_byPacks 14 = .ok (.ireturn, 1) := by decide +kernel
theorem dL_byPacks_15 : decode cL_byPacks 15 = .ok (.iconst 0, 1) := by decide +kernel
theorem dL_byPacks_16 : decode cL_byPacks 16 = .ok (.ireturn, 1) := by decide +kernel
set_option maxRecDepth 20000 in
theorem ggL_score_X6_score : GoodIn wsL_score wsX6_score := goodIn_ca (goodIn_r _ [6, 7, 8, 9, 10, 11, 5, 12, 13, 14, 15, 16, 17, 18, 19, 20, 21, 22, 23, 24, 25, 26, 27, 28, 29, 30, 31, 32, 33, 34, 35, 36, 37, 38, 39, 40] (by decide +kernel) (by decide +kernel)) (goodIn_sub (fun _ h => List.mem_cons_of_mem _ (List.mem_append_right _ h)) (by decide +kernel))
set_option maxRecDepth 20000 in
theorem gL_score_X6_score : GoodIn wsL_score (wsV RL 63 RX6 yX6_score wsX6_score) := goodIn_app (goodIn_of _ (by decide +kernel)) ggL_score_X6_score
theorem dL_score_0 : decode cL_score 0 = .ok (.aload_n 2, 1) := by decide +kernel
theorem dL_score_1 : decode cL_score 1 = .ok (.iconst 0, 1) := by decide +kernel
theorem dL_score_2 : decode cL_score 2 = .ok (.aload_n 0, 1) := by decide +kernel
theorem dL_score_3 : decode cL_score 3 = .ok (.iload_n 1, 1) := by decide +kernel
theorem dL_score_4 : decode cL_score 4 = .ok (.invokevirtual 63, 3) := by decide +kernel
theorem dL_score_7 : decode cL_score 7 = .ok (.i2l, 1) := by decide +kernel
theorem dL_score_8 : decode cL_score 8 = .ok (.lastore, 1) := by decide +kernel
theorem dL_score_9 : decode cL_score 9 = .ok (.goto 6, 3) := by decide +kernel
theorem dL_score_12 : decode cL_score 12 = .ok (.astore_n 3, 1) := by decide +kernel
theorem dL_score_13 : decode cL_score 13 = .ok (.iconst 1, 1) := by decide +kernel
theorem dL_score_14 : decode cL_score 14 = .ok (.ireturn, 1) := by decide +kernel
theorem dL_score_15 : decode cL_score 15 = .ok (.iconst 0, 1) := by decide +kernel
theorem dL_score_16 : decode cL_score 16 = .ok (.ireturn, 1) := by decide +kernel
set_option maxRecDepth 20000 in
theorem ggL_radli_X6_radli : GoodIn wsL_radli wsX6_radli := goodIn_ca (goodIn_r _ [6, 7, 8, 9, 10, 11, 5, 12, 13, 14, 15, 16, 17, 18, 19, 20, 21, 22, 23, 24, 25, 26, 27, 28, 29, 30, 31, 32, 33, 34, 35, 36, 37, 38, 39, 40] (by decide +kernel) (by decide +kernel)) (goodIn_sub (fun _ h => List.mem_cons_of_mem _ (List.mem_append_right _ h)) (by decide +kernel))
set_option maxRecDepth 20000 in
theorem gL_radli_X6_radli : GoodIn wsL_radli (wsV RL 66 RX6 yX6_radli wsX6_radli) := goodIn_app (goodIn_of _ (by decide +kernel)) ggL_radli_X6_radli
theorem dL_radli_0 : decode cL_radli 0 = .ok (.aload_n 2, 1) := by decide +kernel
theorem dL_radli_1 : decode cL_radli 1 = .ok (.iconst 0, 1) := by decide +kernel
theorem dL_radli_2 : decode cL_radli 2 = .ok (.aload_n 0, 1) := by decide +kernel
theorem dL_radli_3 : decode cL_radli 3 = .ok (.iload_n 1, 1) := by decide +kernel
theorem dL_radli_4 : decode cL_radli 4 = .ok (.invokevirtual 66, 3) := by decide +kernel
theorem dL_radli_7 : decode cL_radli 7 = .ok (.i2l, 1) := by decide +kernel
theorem dL_radli_8 : decode cL_radli 8 = .ok (.lastore, 1) := by decide +kernel
theorem dL_radli_9 : decode cL_radli 9 = .ok (.goto 6, 3) := by decide +kernel
theorem dL_radli_12 : decode cL_radli 12 = .ok (.astore_n 3, 1) := by decide +kernel
theorem dL_radli_13 : decode cL_radli 13 = .ok (.iconst 1, 1) := by decide +kernel
theorem dL_radli_14 : decode cL_radli 14 = .ok (.ireturn, 1) := by decide +kernel
theorem dL_radli_15 : decode cL_radli 15 = .ok (.iconst 0, 1) := by decide +kernel
theorem dL_radli_16 : decode cL_radli 16 = .ok (.ireturn, 1) := by decide +kernel
set_option maxRecDepth 20000 in
theorem ggL_knows_X6_knows : GoodIn wsL_knows wsX6_knows := goodIn_ca (goodIn_r _ [6, 7, 8, 9, 10, 11, 12, 13, 5, 14, 15, 16, 17, 18, 19, 20, 21, 22, 23, 24, 25, 26, 27, 28, 29, 30, 31, 32, 33, 34, 35, 36, 37, 38, 39, 40, 41, 42, 43, 44, 45, 46, 47, 48, 49, 50, 51, 52, 53, 54, 55, 56, 57] (by decide +kernel) (by decide +kernel)) (goodIn_sub (fun _ h => List.mem_cons_of_mem _ (List.mem_append_right _ h)) (by decide +kernel))
set_option maxRecDepth 20000 in
theorem gL_knows_X6_knows : GoodIn wsL_knows (wsV RL 69 RX6 yX6_knows wsX6_knows) := goodIn_app (goodIn_of _ (by decide +kernel)) ggL_knows_X6_knows
theorem dL_knows_0 : decode cL_knows 0 = .ok (.aload_n 3, 1) := by decide +kernel
theorem dL_knows_1 : decode cL_knows 1 = .ok (.iconst 0, 1) := by decide +kernel
theorem dL_knows_2 : decode cL_knows 2 = .ok (.aload_n 0, 1) := by decide +kernel
theorem dL_knows_3 : decode cL_knows 3 = .ok (.iload_n 1, 1) := by decide +kernel
theorem dL_knows_4 : decode cL_knows 4 = .ok (.iload_n 2, 1) := by decide +kernel
theorem dL_knows_5 : decode cL_knows 5 = .ok (.invokevirtual 69, 3) := by decide +kernel
theorem dL_knows_8 : decode cL_knows 8 = .ok (.i2l, 1) := by decide +kernel
theorem dL_knows_9 : decode cL_knows 9 = .ok (.lastore, 1) := by decide +kernel
theorem dL_knows_10 : decode cL_knows 10 = .ok (.goto 7, 3) := by decide +kernel
theorem dL_knows_13 : decode cL_knows 13 = .ok (.astore 4, 2) := by decide +kernel
theorem dL_knows_15 : decode cL_knows 15 = .ok (.iconst 1, 1) := by decide +kernel
theorem dL_knows_16 : decode cL_knows 16 = .ok (.ireturn, 1) := by decide +kernel
theorem dL_knows_17 : decode cL_knows 17 = .ok (.iconst 0, 1) := by decide +kernel
theorem dL_knows_18 : decode cL_knows 18 = .ok (.ireturn, 1) := by decide +kernel
set_option maxRecDepth 20000 in
theorem ggL_law_X6_init : GoodIn wsL_law wsX6_init := goodIn_r _ [9, 10, 11, 12, 13, 14, 15, 16, 17, 18, 19, 20, 21, 22, 23, 24, 25, 26, 27, 28, 29, 30, 31, 32, 33, 34, 35, 36, 37, 38, 39, 40, 41, 42, 43, 44, 45, 46, 47, 48, 49, 50, 51, 52, 53, 54, 55, 56, 57, 58, 59, 60, 61, 62, 63, 64, 65, 66, 67, 68, 69, 70, 71, 72, 73, 74, 75, 76, 77, 78, 79, 80, 81, 82, 83, 6, 84, 799, 752, 753, 754, 755, 756, 757, 758, 759, 760, 761, 762, 763, 764, 765, 766, 767, 768, 769, 800, 801, 802, 803, 804, 805, 806, 807, 808, 809, 810] (by decide +kernel) (by decide +kernel)
set_option maxRecDepth 20000 in
theorem gL_law_X6_init : GoodIn wsL_law (wsX6_init) := ggL_law_X6_init
set_option maxRecDepth 20000 in
theorem ggL_law_X7_init : GoodIn wsL_law wsX7_init := goodIn_r _ [87, 88, 11, 12, 89, 90, 57, 91, 6, 92, 93, 94, 95, 96, 97, 98, 99, 100, 101, 102, 103, 104, 770, 771, 772, 773, 774, 775, 776, 777, 778, 779, 780, 781, 782, 783, 784, 785, 786, 787, 788, 789, 790, 791, 792, 793, 794, 795, 796, 797, 798] (by decide +kernel) (by decide +kernel)
set_option maxRecDepth 20000 in
theorem gL_law_X7_init : GoodIn wsL_law (wsX7_init) := ggL_law_X7_init
set_option maxRecDepth 20000 in
theorem ggL_law_L_deal : GoodIn wsL_law wsL_deal := goodIn_ca (goodIn_ca (goodIn_r _ [108, 109, 110, 111, 112, 113, 2, 114, 115, 116, 117, 118, 119, 35, 34, 16, 36, 120, 121, 122, 123, 124, 125, 126, 20, 24, 37, 38, 39, 40, 127, 128, 129, 130, 33, 131, 132, 133, 19, 134, 135, 136, 63, 137, 138, 139, 23, 140, 141, 142, 143, 144, 145, 31, 146, 84, 147, 148, 149, 15, 150, 48, 151, 152, 153, 154, 47, 155, 58, 156, 157, 158, 159, 160, 161, 162, 163, 164, 165, 166, 167, 32, 168, 169, 170, 171, 172, 173, 174, 752, 753, 754, 755, 756, 757, 758, 759, 760, 761, 762, 763, 764, 765, 766, 767, 768, 769, 800, 801, 802, 803, 804, 805, 809, 799, 810] (by decide +kernel) (by decide +kernel)) (goodIn_sub (fun _ h => List.mem_append_left _ (List.mem_append_left _ (List.mem_append_right _ h))) (by decide +kernel))) (goodIn_sub (fun _ h => List.mem_append_left _ (List.mem_append_right _ h)) (by decide +kernel))
set_option maxRecDepth 20000 in
theorem gL_law_L_deal : GoodIn wsL_law (va_wsS RL 77 yL_deal wsL_deal) := goodIn_app (goodIn_of _ (by decide +kernel)) ggL_law_L_deal
set_option maxRecDepth 20000 in
theorem ggL_law_X7_deal : GoodIn wsL_law wsX7_deal := goodIn_r _ [178, 179, 89, 91, 180, 181, 182, 92, 102, 94, 183, 184, 95, 96, 97, 98, 99, 185, 186, 187, 188, 100, 189, 190, 90, 191, 192, 5, 193, 194, 195, 196, 197, 198, 199, 200, 201, 770, 771, 772, 773, 774, 775, 776, 777, 778, 779, 780, 781, 782, 783, 784, 785, 786, 787, 788, 789, 790, 791, 792, 793, 794, 795, 796, 797, 798] (by decide +kernel) (by decide +kernel)
set_option maxRecDepth 20000 in
theorem gL_law_X7_deal : GoodIn wsL_law (wsV RL 82 RX7 yX7_deal wsX7_deal) := goodIn_app (goodIn_of _ (by decide +kernel)) ggL_law_X7_deal
set_option maxRecDepth 20000 in
theorem ggL_law_X7_thrown : GoodIn wsL_law wsX7_thrown := goodIn_r _ [205, 198, 770, 771, 772, 773, 774, 775, 776, 777, 778, 779, 780, 781, 782, 783, 784, 785, 786, 787, 788, 789, 790, 791, 792, 793, 794, 795, 796, 797, 798] (by decide +kernel) (by decide +kernel)
set_option maxRecDepth 20000 in
theorem gL_law_X7_thrown : GoodIn wsL_law (wsV RL 83 RX7 yX7_thrown wsX7_thrown) := goodIn_app (goodIn_of _ (by decide +kernel)) ggL_law_X7_thrown
set_option maxRecDepth 20000 in
theorem ggL_law_L_bid : GoodIn wsL_law wsL_bid := goodIn_ca (goodIn_ca (goodIn_r _ [208, 109, 110, 209, 210, 211, 2, 212, 115, 116, 117, 118, 35, 20, 36, 213, 214, 215, 19, 216, 135, 136, 63, 217, 218, 219, 220, 221, 222, 223, 224, 225, 226, 227, 228, 229, 230, 231, 232, 233, 234, 235, 236, 237, 238, 239, 37, 240, 241, 242, 243, 33, 128, 168, 34, 143, 144, 145, 31, 146, 84, 244, 245, 246, 247, 121, 122, 248, 249, 250, 251, 752, 753, 754, 755, 756, 757, 758, 759, 760, 761, 762, 763, 764, 765, 766, 767, 768, 769, 800, 801, 802, 809] (by decide +kernel) (by decide +kernel)) (goodIn_sub (fun _ h => List.mem_append_left _ (List.mem_append_left _ (List.mem_append_right _ h))) (by decide +kernel))) (goodIn_sub (fun _ h => List.mem_append_left _ (List.mem_append_right _ h)) (by decide +kernel))
set_option maxRecDepth 20000 in
theorem gL_law_L_bid : GoodIn wsL_law (va_wsS RL 87 yL_bid wsL_bid) := goodIn_app (goodIn_of _ (by decide +kernel)) ggL_law_L_bid
set_option maxRecDepth 20000 in
theorem ggL_law_X7_bid : GoodIn wsL_law wsX7_bid := goodIn_r _ [255, 89, 184, 94, 90, 183, 95, 191, 192, 5, 193, 194, 195, 196, 197, 198, 256, 257, 258, 259, 96, 187, 260, 261, 262, 263, 91, 199, 200, 201, 264, 265, 266, 267, 188, 182, 268, 770, 771, 772, 773, 774, 775, 776, 777, 778, 779, 780, 781, 782, 783, 784, 785, 786, 787, 788, 789, 790, 791, 792, 793, 794, 795, 796, 797, 798] (by decide +kernel) (by decide +kernel)
set_option maxRecDepth 20000 in
theorem gL_law_X7_bid : GoodIn wsL_law (wsV RL 89 RX7 yX7_bid wsX7_bid) := goodIn_app (goodIn_of _ (by decide +kernel)) ggL_law_X7_bid
set_option maxRecDepth 20000 in
theorem ggL_law_L_call : GoodIn wsL_law wsL_call := goodIn_ca (goodIn_ca (goodIn_r _ [271, 272, 110, 273, 274, 275, 2, 276, 277, 278, 117, 118, 35, 38, 39, 37, 40, 279, 280, 281, 282, 283, 284, 285, 286, 32, 287, 288, 289, 31, 290, 84, 291, 292, 293, 752, 753, 754, 755, 756, 757, 758, 759, 760, 761, 762, 763, 764, 765, 766, 767, 768, 769, 809] (by decide +kernel) (by decide +kernel)) (goodIn_sub (fun _ h => List.mem_append_right _ h) (by decide +kernel))) (goodIn_sub (fun _ h => List.mem_append_left _ (List.mem_append_right _ h)) (by decide +kernel))
set_option maxRecDepth 20000 in
theorem gL_law_L_call : GoodIn wsL_law (va_wsS RL 90 yL_call wsL_call) := goodIn_app (goodIn_of _ (by decide +kernel)) ggL_law_L_call
set_option maxRecDepth 20000 in
theorem ggL_law_X7_call : GoodIn wsL_law wsX7_call := goodIn_r _ [297, 89, 97, 92, 99, 96, 98, 191, 192, 5, 193, 194, 195, 196, 197, 198, 298, 299, 300, 301, 302, 303, 304, 770, 771, 772, 773, 774, 775, 776, 777, 778, 779, 780, 781, 782, 783, 784, 785, 786, 787, 788, 789, 790, 791, 792, 793, 794, 795, 796, 797, 798] (by decide +kernel) (by decide +kernel)
set_option maxRecDepth 20000 in
theorem gL_law_X7_call : GoodIn wsL_law (wsV RL 92 RX7 yX7_call wsX7_call) := goodIn_app (goodIn_of _ (by decide +kernel)) ggL_law_X7_call
set_option maxRecDepth 20000 in
theorem ggL_law_L_take : GoodIn wsL_law wsL_take := goodIn_ca (goodIn_ca (goodIn_r _ [307, 272, 110, 308, 309, 310, 2, 311, 277, 278, 117, 118, 35, 20, 16, 32, 37, 168, 312, 127, 313, 314, 315, 316, 317, 318, 319, 320, 321, 322, 169, 170, 171, 15, 172, 48, 160, 161, 162, 47, 163, 58, 173, 174, 287, 288, 289, 31, 290, 84, 143, 144, 145, 146, 752, 753, 754, 755, 756, 757, 758, 759, 760, 761, 762, 763, 764, 765, 766, 767, 768, 769, 800, 801, 802, 799, 810, 809] (by decide +kernel) (by decide +kernel)) (goodIn_sub (fun _ h => List.mem_append_right _ h) (by decide +kernel))) (goodIn_sub (fun _ h => List.mem_append_left _ (List.mem_append_right _ h)) (by decide +kernel))
set_option maxRecDepth 20000 in
theorem gL_law_L_take : GoodIn wsL_law (va_wsS RL 93 yL_take wsL_take) := goodIn_app (goodIn_of _ (by decide +kernel)) ggL_law_L_take
set_option maxRecDepth 20000 in
theorem ggL_law_X7_take : GoodIn wsL_law wsX7_take := goodIn_r _ [326, 89, 184, 92, 96, 187, 327, 191, 192, 5, 193, 194, 195, 196, 197, 198, 260, 261, 262, 263, 91, 199, 200, 201, 770, 771, 772, 773, 774, 775, 776, 777, 778, 779, 780, 781, 782, 783, 784, 785, 786, 787, 788, 789, 790, 791, 792, 793, 794, 795, 796, 797, 798] (by decide +kernel) (by decide +kernel)
set_option maxRecDepth 20000 in
theorem gL_law_X7_take : GoodIn wsL_law (wsV RL 95 RX7 yX7_take wsX7_take) := goodIn_app (goodIn_of _ (by decide +kernel)) ggL_law_X7_take
set_option maxRecDepth 20000 in
theorem ggL_law_L_discard : GoodIn wsL_law wsL_discard := goodIn_ca (goodIn_ca (goodIn_r _ [330, 272, 110, 331, 332, 333, 2, 334, 277, 278, 117, 118, 35, 32, 37, 312, 128, 127, 335, 336, 337, 287, 288, 289, 31, 290, 84, 291, 292, 293, 338, 339, 340, 341, 342, 343, 344, 345, 346, 347, 173, 174, 143, 144, 145, 146, 240, 241, 242, 243, 33, 168, 34, 36, 752, 753, 754, 755, 756, 757, 758, 759, 760, 761, 762, 763, 764, 765, 766, 767, 768, 769, 809] (by decide +kernel) (by decide +kernel)) (goodIn_sub (fun _ h => List.mem_append_right _ h) (by decide +kernel))) (goodIn_sub (fun _ h => List.mem_append_left _ (List.mem_append_right _ h)) (by decide +kernel))
set_option maxRecDepth 20000 in
theorem gL_law_L_discard : GoodIn wsL_law (va_wsS RL 96 yL_discard wsL_discard) := goodIn_app (goodIn_of _ (by decide +kernel)) ggL_law_L_discard
set_option maxRecDepth 20000 in
theorem ggL_law_X7_discard : GoodIn wsL_law wsX7_discard := goodIn_r _ [351, 89, 92, 96, 186, 327, 352, 353, 5, 354, 191, 192, 193, 302, 303, 304, 355, 356, 357, 194, 195, 196, 197, 198, 199, 200, 201, 264, 265, 266, 267, 188, 182, 90, 268, 770, 771, 772, 773, 774, 775, 776, 777, 778, 779, 780, 781, 782, 783, 784, 785, 786, 787, 788, 789, 790, 791, 792, 793, 794, 795, 796, 797, 798] (by decide +kernel) (by decide +kernel)
set_option maxRecDepth 20000 in
theorem gL_law_X7_discard : GoodIn wsL_law (wsV RL 98 RX7 yX7_discard wsX7_discard) := goodIn_app (goodIn_of _ (by decide +kernel)) ggL_law_X7_discard
set_option maxRecDepth 20000 in
theorem ggL_law_L_announce : GoodIn wsL_law wsL_announce := goodIn_ca (goodIn_ca (goodIn_r _ [360, 272, 110, 361, 362, 363, 2, 364, 277, 278, 117, 118, 35, 130, 24, 20, 129, 365, 366, 367, 368, 369, 222, 223, 224, 225, 226, 227, 752, 753, 754, 755, 756, 757, 758, 759, 760, 761, 762, 763, 764, 765, 766, 767, 768, 769, 803, 804, 805, 800, 801, 802] (by decide +kernel) (by decide +kernel)) (goodIn_sub (fun _ h => List.mem_append_right _ h) (by decide +kernel))) (goodIn_sub (fun _ h => List.mem_append_left _ (List.mem_append_right _ h)) (by decide +kernel))
set_option maxRecDepth 20000 in
theorem gL_law_L_announce : GoodIn wsL_law (va_wsS RL 99 yL_announce wsL_announce) := goodIn_app (goodIn_of _ (by decide +kernel)) ggL_law_L_announce
set_option maxRecDepth 20000 in
theorem ggL_law_X7_announce : GoodIn wsL_law wsX7_announce := goodIn_r _ [373, 89, 190, 189, 100, 184, 191, 192, 5, 193, 194, 195, 196, 197, 198, 770, 771, 772, 773, 774, 775, 776, 777, 778, 779, 780, 781, 782, 783, 784, 785, 786, 787, 788, 789, 790, 791, 792, 793, 794, 795, 796, 797, 798] (by decide +kernel) (by decide +kernel)
set_option maxRecDepth 20000 in
theorem gL_law_X7_announce : GoodIn wsL_law (wsV RL 101 RX7 yX7_announce wsX7_announce) := goodIn_app (goodIn_of _ (by decide +kernel)) ggL_law_X7_announce
set_option maxRecDepth 20000 in
theorem ggL_law_L_play : GoodIn wsL_law wsL_play := goodIn_ca (goodIn_ca (goodIn_r _ [376, 272, 110, 377, 378, 379, 2, 380, 277, 278, 117, 118, 335, 336, 337, 381, 382, 383, 384, 35, 32, 36, 24, 287, 288, 289, 31, 290, 84, 385, 386, 387, 23, 388, 142, 69, 389, 161, 162, 47, 163, 58, 345, 346, 390, 391, 392, 393, 394, 395, 396, 397, 291, 292, 293, 398, 399, 400, 401, 312, 347, 173, 174, 143, 144, 145, 146, 402, 403, 404, 405, 406, 153, 154, 155, 120, 121, 122, 407, 408, 409, 410, 411, 412, 413, 414, 415, 416, 417, 141, 418, 419, 420, 421, 33, 130, 422, 423, 424, 425, 37, 40, 426, 427, 428, 429, 430, 431, 432, 433, 20, 28, 434, 435, 436, 341, 342, 343, 344, 437, 438, 439, 440, 441, 55, 442, 443, 444, 445, 446, 447, 448, 449, 450, 451, 452, 453, 454, 455, 456, 365, 366, 367, 368, 129, 457, 458, 459, 460, 38, 279, 280, 281, 282, 461, 462, 463, 27, 464, 77, 465, 466, 467, 468, 469, 470, 471, 76, 472, 473, 474, 475, 228, 229, 230, 231, 137, 138, 139, 140, 752, 753, 754, 755, 756, 757, 758, 759, 760, 761, 762, 763, 764, 765, 766, 767, 768, 769, 809, 803, 804, 805, 810, 800, 801, 802, 806, 807, 808] (by decide +kernel) (by decide +kernel)) (goodIn_sub (fun _ h => List.mem_append_right _ h) (by decide +kernel))) (goodIn_sub (fun _ h => List.mem_append_left _ (List.mem_append_right _ h)) (by decide +kernel))
set_option maxRecDepth 20000 in
theorem gL_law_L_play : GoodIn wsL_law (va_wsS RL 102 yL_play wsL_play) := goodIn_app (goodIn_of _ (by decide +kernel)) ggL_law_L_play
set_option maxRecDepth 20000 in
theorem ggL_law_X7_play : GoodIn wsL_law wsX7_play := goodIn_r _ [479, 352, 353, 5, 354, 191, 192, 193, 480, 481, 482, 483, 89, 92, 90, 189, 101, 302, 303, 304, 484, 485, 486, 487, 488, 489, 194, 195, 196, 197, 198, 490, 491, 492, 493, 185, 97, 268, 102, 190, 199, 200, 201, 298, 299, 300, 301, 494, 495, 496, 497, 498, 499, 500, 501, 100, 502, 503, 504, 505, 506, 507, 508, 509, 96, 98, 510, 511, 512, 513, 514, 515, 516, 517, 518, 104, 103, 184, 519, 520, 521, 522, 523, 524, 525, 526, 186, 187, 188, 355, 356, 357, 527, 528, 529, 530, 770, 771, 772, 773, 774, 775, 776, 777, 778, 779, 780, 781, 782, 783, 784, 785, 786, 787, 788, 789, 790, 791, 792, 793, 794, 795, 796, 797, 798] (by decide +kernel) (by decide +kernel)
set_option maxRecDepth 20000 in
theorem gL_law_X7_play : GoodIn wsL_law (wsV RL 104 RX7 yX7_play wsX7_play) := goodIn_app (goodIn_of _ (by decide +kernel)) ggL_law_X7_play
set_option maxRecDepth 20000 in
theorem ggL_law_L_playLowest : GoodIn wsL_law wsL_playLowest := goodIn_ca (goodIn_ca (goodIn_r _ [533, 109, 110, 534, 535, 536, 2, 537, 115, 116, 117, 118, 35, 381, 382, 383, 384, 32, 36, 24, 287, 288, 289, 31, 290, 84, 385, 386, 387, 23, 388, 142, 69, 389, 161, 162, 47, 163, 58, 345, 346, 390, 391, 392, 393, 394, 395, 396, 397, 538, 539, 540, 291, 292, 293, 398, 399, 400, 401, 312, 347, 173, 174, 143, 144, 145, 146, 402, 403, 404, 405, 406, 153, 154, 155, 120, 121, 122, 407, 408, 409, 410, 411, 412, 413, 414, 415, 416, 417, 141, 418, 419, 420, 421, 33, 130, 422, 423, 424, 425, 37, 40, 426, 427, 428, 429, 430, 431, 432, 433, 20, 28, 434, 435, 436, 341, 342, 343, 344, 437, 438, 439, 440, 441, 55, 442, 443, 444, 445, 446, 447, 448, 449, 450, 451, 452, 453, 454, 455, 456, 365, 366, 367, 368, 129, 457, 458, 459, 460, 38, 279, 280, 281, 282, 461, 462, 463, 27, 464, 77, 465, 466, 467, 468, 469, 470, 471, 76, 472, 473, 474, 475, 228, 229, 230, 231, 137, 138, 139, 140, 752, 753, 754, 755, 756, 757, 758, 759, 760, 761, 762, 763, 764, 765, 766, 767, 768, 769, 809, 803, 804, 805, 810, 800, 801, 802, 806, 807, 808] (by decide +kernel) (by decide +kernel)) (goodIn_sub (fun _ h => List.mem_append_left _ (List.mem_append_left _ (List.mem_append_right _ h))) (by decide +kernel))) (goodIn_sub (fun _ h => List.mem_append_left _ (List.mem_append_right _ h)) (by decide +kernel))
set_option maxRecDepth 20000 in
theorem gL_law_L_playLowest : GoodIn wsL_law (va_wsS RL 105 yL_playLowest wsL_playLowest) := goodIn_app (goodIn_of _ (by decide +kernel)) ggL_law_L_playLowest
set_option maxRecDepth 20000 in
theorem ggL_law_X7_playLowest : GoodIn wsL_law wsX7_playLowest := goodIn_r _ [544, 89, 191, 192, 5, 193, 194, 195, 196, 197, 198, 480, 481, 482, 483, 92, 90, 189, 101, 302, 303, 304, 484, 485, 486, 487, 488, 489, 490, 491, 492, 493, 185, 97, 268, 102, 190, 199, 200, 201, 298, 299, 300, 301, 494, 495, 496, 497, 498, 499, 500, 501, 100, 502, 503, 504, 505, 506, 507, 508, 509, 96, 98, 510, 511, 512, 513, 514, 515, 516, 517, 518, 104, 103, 184, 519, 520, 521, 522, 523, 524, 525, 526, 186, 187, 188, 355, 356, 357, 527, 528, 529, 530, 770, 771, 772, 773, 774, 775, 776, 777, 778, 779, 780, 781, 782, 783, 784, 785, 786, 787, 788, 789, 790, 791, 792, 793, 794, 795, 796, 797, 798] (by decide +kernel) (by decide +kernel)
set_option maxRecDepth 20000 in
theorem gL_law_X7_playLowest : GoodIn wsL_law (wsV RL 107 RX7 yX7_playLowest wsX7_playLowest) := goodIn_app (goodIn_of _ (by decide +kernel)) ggL_law_X7_playLowest
set_option maxRecDepth 20000 in
theorem ggL_law_X6_phase : GoodIn wsL_law wsX6_phase := goodIn_r _ [548, 35, 752, 753, 754, 755, 756, 757, 758, 759, 760, 761, 762, 763, 764, 765, 766, 767, 768, 769] (by decide +kernel) (by decide +kernel)
set_option maxRecDepth 20000 in
theorem gL_law_X6_phase : GoodIn wsL_law (wsV RL 108 RX6 yX6_phase wsX6_phase) := goodIn_app (goodIn_of _ (by decide +kernel)) ggL_law_X6_phase
set_option maxRecDepth 20000 in
theorem ggL_law_X7_phase : GoodIn wsL_law wsX7_phase := goodIn_r _ [552, 198, 89, 770, 771, 772, 773, 774, 775, 776, 777, 778, 779, 780, 781, 782, 783, 784, 785, 786, 787, 788, 789, 790, 791, 792, 793, 794, 795, 796, 797, 798] (by decide +kernel) (by decide +kernel)
set_option maxRecDepth 20000 in
theorem gL_law_X7_phase : GoodIn wsL_law (wsV RL 111 RX7 yX7_phase wsX7_phase) := goodIn_app (goodIn_of _ (by decide +kernel)) ggL_law_X7_phase
set_option maxRecDepth 20000 in
theorem ggL_law_X6_turn : GoodIn wsL_law wsX6_turn := goodIn_r _ [556, 36, 752, 753, 754, 755, 756, 757, 758, 759, 760, 761, 762, 763, 764, 765, 766, 767, 768, 769] (by decide +kernel) (by decide +kernel)
set_option maxRecDepth 20000 in
theorem gL_law_X6_turn : GoodIn wsL_law (wsV RL 112 RX6 yX6_turn wsX6_turn) := goodIn_app (goodIn_of _ (by decide +kernel)) ggL_law_X6_turn
set_option maxRecDepth 20000 in
theorem ggL_law_X7_turn : GoodIn wsL_law wsX7_turn := goodIn_r _ [560, 198, 90, 770, 771, 772, 773, 774, 775, 776, 777, 778, 779, 780, 781, 782, 783, 784, 785, 786, 787, 788, 789, 790, 791, 792, 793, 794, 795, 796, 797, 798] (by decide +kernel) (by decide +kernel)
set_option maxRecDepth 20000 in
theorem gL_law_X7_turn : GoodIn wsL_law (wsV RL 115 RX7 yX7_turn wsX7_turn) := goodIn_app (goodIn_of _ (by decide +kernel)) ggL_law_X7_turn
set_option maxRecDepth 20000 in
theorem ggL_law_X6_declarer : GoodIn wsL_law wsX6_declarer := goodIn_r _ [564, 37, 752, 753, 754, 755, 756, 757, 758, 759, 760, 761, 762, 763, 764, 765, 766, 767, 768, 769] (by decide +kernel) (by decide +kernel)
set_option maxRecDepth 20000 in
theorem gL_law_X6_declarer : GoodIn wsL_law (wsV RL 116 RX6 yX6_declarer wsX6_declarer) := goodIn_app (goodIn_of _ (by decide +kernel)) ggL_law_X6_declarer
set_option maxRecDepth 20000 in
theorem ggL_law_X7_declarer : GoodIn wsL_law wsX7_declarer := goodIn_r _ [568, 198, 96, 770, 771, 772, 773, 774, 775, 776, 777, 778, 779, 780, 781, 782, 783, 784, 785, 786, 787, 788, 789, 790, 791, 792, 793, 794, 795, 796, 797, 798] (by decide +kernel) (by decide +kernel)
set_option maxRecDepth 20000 in
theorem gL_law_X7_declarer : GoodIn wsL_law (wsV RL 119 RX7 yX7_declarer wsX7_declarer) := goodIn_app (goodIn_of _ (by decide +kernel)) ggL_law_X7_declarer
set_option maxRecDepth 20000 in
theorem ggL_law_X6_level : GoodIn wsL_law wsX6_level := goodIn_r _ [572, 20, 752, 753, 754, 755, 756, 757, 758, 759, 760, 761, 762, 763, 764, 765, 766, 767, 768, 769, 800, 801, 802] (by decide +kernel) (by decide +kernel)
set_option maxRecDepth 20000 in
theorem gL_law_X6_level : GoodIn wsL_law (wsV RL 120 RX6 yX6_level wsX6_level) := goodIn_app (goodIn_of _ (by decide +kernel)) ggL_law_X6_level
set_option maxRecDepth 20000 in
theorem ggL_law_X7_level : GoodIn wsL_law wsX7_level := goodIn_r _ [576, 198, 184, 770, 771, 772, 773, 774, 775, 776, 777, 778, 779, 780, 781, 782, 783, 784, 785, 786, 787, 788, 789, 790, 791, 792, 793, 794, 795, 796, 797, 798] (by decide +kernel) (by decide +kernel)
set_option maxRecDepth 20000 in
theorem gL_law_X7_level : GoodIn wsL_law (wsV RL 123 RX7 yX7_level wsX7_level) := goodIn_app (goodIn_of _ (by decide +kernel)) ggL_law_X7_level
set_option maxRecDepth 20000 in
theorem ggL_law_X6_called : GoodIn wsL_law wsX6_called := goodIn_r _ [580, 38, 752, 753, 754, 755, 756, 757, 758, 759, 760, 761, 762, 763, 764, 765, 766, 767, 768, 769] (by decide +kernel) (by decide +kernel)
set_option maxRecDepth 20000 in
theorem gL_law_X6_called : GoodIn wsL_law (wsV RL 124 RX6 yX6_called wsX6_called) := goodIn_app (goodIn_of _ (by decide +kernel)) ggL_law_X6_called
set_option maxRecDepth 20000 in
theorem ggL_law_X7_called : GoodIn wsL_law wsX7_called := goodIn_r _ [584, 198, 97, 770, 771, 772, 773, 774, 775, 776, 777, 778, 779, 780, 781, 782, 783, 784, 785, 786, 787, 788, 789, 790, 791, 792, 793, 794, 795, 796, 797, 798] (by decide +kernel) (by decide +kernel)
set_option maxRecDepth 20000 in
theorem gL_law_X7_called : GoodIn wsL_law (wsV RL 127 RX7 yX7_called wsX7_called) := goodIn_app (goodIn_of _ (by decide +kernel)) ggL_law_X7_called
set_option maxRecDepth 20000 in
theorem ggL_law_X6_partner : GoodIn wsL_law wsX6_partner := goodIn_r _ [588, 40, 752, 753, 754, 755, 756, 757, 758, 759, 760, 761, 762, 763, 764, 765, 766, 767, 768, 769] (by decide +kernel) (by decide +kernel)
set_option maxRecDepth 20000 in
theorem gL_law_X6_partner : GoodIn wsL_law (wsV RL 128 RX6 yX6_partner wsX6_partner) := goodIn_app (goodIn_of _ (by decide +kernel)) ggL_law_X6_partner
set_option maxRecDepth 20000 in
theorem ggL_law_X7_partner : GoodIn wsL_law wsX7_partner := goodIn_r _ [592, 198, 98, 770, 771, 772, 773, 774, 775, 776, 777, 778, 779, 780, 781, 782, 783, 784, 785, 786, 787, 788, 789, 790, 791, 792, 793, 794, 795, 796, 797, 798] (by decide +kernel) (by decide +kernel)
set_option maxRecDepth 20000 in
theorem gL_law_X7_partner : GoodIn wsL_law (wsV RL 131 RX7 yX7_partner wsX7_partner) := goodIn_app (goodIn_of _ (by decide +kernel)) ggL_law_X7_partner
set_option maxRecDepth 20000 in
theorem ggL_law_L_hand : GoodIn wsL_law wsL_hand := goodIn_ca (goodIn_r _ [595, 272, 596, 597, 598, 2, 599, 277, 278, 32, 600, 601, 602, 287, 288, 289, 31, 290, 84, 752, 753, 754, 755, 756, 757, 758, 759, 760, 761, 762, 763, 764, 765, 766, 767, 768, 769, 809] (by decide +kernel) (by decide +kernel)) (goodIn_sub (fun _ h => List.mem_append_right _ h) (by decide +kernel))
set_option maxRecDepth 20000 in
theorem gL_law_L_hand : GoodIn wsL_law (va_wsS RL 132 yL_hand wsL_hand) := goodIn_app (goodIn_of _ (by decide +kernel)) ggL_law_L_hand
set_option maxRecDepth 20000 in
theorem ggL_law_X7_hand : GoodIn wsL_law wsX7_hand := goodIn_r _ [606, 92, 607, 608, 5, 609, 191, 192, 193, 194, 195, 196, 197, 198, 770, 771, 772, 773, 774, 775, 776, 777, 778, 779, 780, 781, 782, 783, 784, 785, 786, 787, 788, 789, 790, 791, 792, 793, 794, 795, 796, 797, 798] (by decide +kernel) (by decide +kernel)
set_option maxRecDepth 20000 in
theorem gL_law_X7_hand : GoodIn wsL_law (wsV RL 134 RX7 yX7_hand wsX7_hand) := goodIn_app (goodIn_of _ (by decide +kernel)) ggL_law_X7_hand
set_option maxRecDepth 20000 in
theorem ggL_law_L_talonAt : GoodIn wsL_law wsL_talonAt := goodIn_ca (goodIn_ca (goodIn_r _ [612, 272, 110, 613, 614, 615, 2, 616, 277, 278, 117, 118, 34, 16, 617, 618, 619, 15, 620, 48, 160, 161, 162, 47, 163, 58, 752, 753, 754, 755, 756, 757, 758, 759, 760, 761, 762, 763, 764, 765, 766, 767, 768, 769, 799, 810] (by decide +kernel) (by decide +kernel)) (goodIn_sub (fun _ h => List.mem_append_right _ h) (by decide +kernel))) (goodIn_sub (fun _ h => List.mem_append_left _ (List.mem_append_right _ h)) (by decide +kernel))
set_option maxRecDepth 20000 in
theorem gL_law_L_talonAt : GoodIn wsL_law (va_wsS RL 135 yL_talonAt wsL_talonAt) := goodIn_app (goodIn_of _ (by decide +kernel)) ggL_law_L_talonAt
set_option maxRecDepth 20000 in
theorem ggL_law_X7_talonAt : GoodIn wsL_law wsX7_talonAt := goodIn_r _ [624, 181, 191, 192, 5, 193, 194, 195, 196, 197, 198, 260, 261, 262, 263, 91, 770, 771, 772, 773, 774, 775, 776, 777, 778, 779, 780, 781, 782, 783, 784, 785, 786, 787, 788, 789, 790, 791, 792, 793, 794, 795, 796, 797, 798] (by decide +kernel) (by decide +kernel)
set_option maxRecDepth 20000 in
theorem gL_law_X7_talonAt : GoodIn wsL_law (wsV RL 137 RX7 yX7_talonAt wsX7_talonAt) := goodIn_app (goodIn_of _ (by decide +kernel)) ggL_law_X7_talonAt
set_option maxRecDepth 20000 in
theorem ggL_law_X6_inTrick : GoodIn wsL_law wsX6_inTrick := goodIn_r _ [628, 24, 752, 753, 754, 755, 756, 757, 758, 759, 760, 761, 762, 763, 764, 765, 766, 767, 768, 769, 803, 804, 805] (by decide +kernel) (by decide +kernel)
set_option maxRecDepth 20000 in
theorem gL_law_X6_inTrick : GoodIn wsL_law (wsV RL 138 RX6 yX6_inTrick wsX6_inTrick) := goodIn_app (goodIn_of _ (by decide +kernel)) ggL_law_X6_inTrick
set_option maxRecDepth 20000 in
theorem ggL_law_X7_inTrick : GoodIn wsL_law wsX7_inTrick := goodIn_r _ [632, 198, 189, 770, 771, 772, 773, 774, 775, 776, 777, 778, 779, 780, 781, 782, 783, 784, 785, 786, 787, 788, 789, 790, 791, 792, 793, 794, 795, 796, 797, 798] (by decide +kernel) (by decide +kernel)
set_option maxRecDepth 20000 in
theorem gL_law_X7_inTrick : GoodIn wsL_law (wsV RL 141 RX7 yX7_inTrick wsX7_inTrick) := goodIn_app (goodIn_of _ (by decide +kernel)) ggL_law_X7_inTrick
set_option maxRecDepth 20000 in
theorem ggL_law_L_trickAt : GoodIn wsL_law wsL_trickAt := goodIn_ca (goodIn_r _ [635, 272, 636, 637, 638, 2, 639, 277, 278, 24, 640, 641, 642, 23, 643, 69, 389, 161, 162, 47, 163, 58, 752, 753, 754, 755, 756, 757, 758, 759, 760, 761, 762, 763, 764, 765, 766, 767, 768, 769, 803, 804, 805, 810] (by decide +kernel) (by decide +kernel)) (goodIn_sub (fun _ h => List.mem_append_right _ h) (by decide +kernel))
set_option maxRecDepth 20000 in
theorem gL_law_L_trickAt : GoodIn wsL_law (va_wsS RL 142 yL_trickAt wsL_trickAt) := goodIn_app (goodIn_of _ (by decide +kernel)) ggL_law_L_trickAt
set_option maxRecDepth 20000 in
theorem ggL_law_X7_trickAt : GoodIn wsL_law wsX7_trickAt := goodIn_r _ [647, 189, 101, 191, 192, 5, 193, 194, 195, 196, 197, 198, 770, 771, 772, 773, 774, 775, 776, 777, 778, 779, 780, 781, 782, 783, 784, 785, 786, 787, 788, 789, 790, 791, 792, 793, 794, 795, 796, 797, 798] (by decide +kernel) (by decide +kernel)
set_option maxRecDepth 20000 in
theorem gL_law_X7_trickAt : GoodIn wsL_law (wsV RL 144 RX7 yX7_trickAt wsX7_trickAt) := goodIn_app (goodIn_of _ (by decide +kernel)) ggL_law_X7_trickAt
set_option maxRecDepth 20000 in
theorem ggL_law_L_canPlay : GoodIn wsL_law wsL_canPlay := goodIn_ca (goodIn_r _ [650, 272, 651, 652, 653, 2, 654, 277, 278, 335, 336, 337, 381, 382, 383, 384, 35, 32, 36, 24, 287, 288, 289, 31, 290, 84, 385, 386, 387, 23, 388, 142, 69, 389, 161, 162, 47, 163, 58, 345, 346, 390, 391, 392, 393, 394, 395, 396, 397, 291, 292, 293, 752, 753, 754, 755, 756, 757, 758, 759, 760, 761, 762, 763, 764, 765, 766, 767, 768, 769, 809, 803, 804, 805, 810] (by decide +kernel) (by decide +kernel)) (goodIn_sub (fun _ h => List.mem_append_right _ h) (by decide +kernel))
set_option maxRecDepth 20000 in
theorem gL_law_L_canPlay : GoodIn wsL_law (va_wsS RL 145 yL_canPlay wsL_canPlay) := goodIn_app (goodIn_of _ (by decide +kernel)) ggL_law_L_canPlay
set_option maxRecDepth 20000 in
theorem ggL_law_X7_canPlay : GoodIn wsL_law wsX7_canPlay := goodIn_r _ [658, 352, 353, 5, 354, 191, 192, 193, 194, 195, 196, 197, 198, 480, 481, 482, 483, 89, 92, 90, 189, 101, 302, 303, 304, 484, 485, 486, 487, 488, 489, 770, 771, 772, 773, 774, 775, 776, 777, 778, 779, 780, 781, 782, 783, 784, 785, 786, 787, 788, 789, 790, 791, 792, 793, 794, 795, 796, 797, 798] (by decide +kernel) (by decide +kernel)
set_option maxRecDepth 20000 in
theorem gL_law_X7_canPlay : GoodIn wsL_law (wsV RL 147 RX7 yX7_canPlay wsX7_canPlay) := goodIn_app (goodIn_of _ (by decide +kernel)) ggL_law_X7_canPlay
set_option maxRecDepth 20000 in
theorem ggL_law_X6_tricks : GoodIn wsL_law wsX6_tricks := goodIn_r _ [662, 130, 752, 753, 754, 755, 756, 757, 758, 759, 760, 761, 762, 763, 764, 765, 766, 767, 768, 769] (by decide +kernel) (by decide +kernel)
set_option maxRecDepth 20000 in
theorem gL_law_X6_tricks : GoodIn wsL_law (wsV RL 148 RX6 yX6_tricks wsX6_tricks) := goodIn_app (goodIn_of _ (by decide +kernel)) ggL_law_X6_tricks
set_option maxRecDepth 20000 in
theorem ggL_law_X7_tricks : GoodIn wsL_law wsX7_tricks := goodIn_r _ [666, 198, 190, 770, 771, 772, 773, 774, 775, 776, 777, 778, 779, 780, 781, 782, 783, 784, 785, 786, 787, 788, 789, 790, 791, 792, 793, 794, 795, 796, 797, 798] (by decide +kernel) (by decide +kernel)
set_option maxRecDepth 20000 in
theorem gL_law_X7_tricks : GoodIn wsL_law (wsV RL 151 RX7 yX7_tricks wsX7_tricks) := goodIn_app (goodIn_of _ (by decide +kernel)) ggL_law_X7_tricks
set_option maxRecDepth 20000 in
theorem ggL_law_L_valueOf : GoodIn wsL_law wsL_valueOf := goodIn_ca (goodIn_r _ [669, 272, 670, 671, 672, 2, 673, 277, 278, 335, 336, 337, 341, 342, 343, 344, 345, 346] (by decide +kernel) (by decide +kernel)) (goodIn_sub (fun _ h => List.mem_append_right _ h) (by decide +kernel))
set_option maxRecDepth 20000 in
theorem gL_law_L_valueOf : GoodIn wsL_law (va_wsS RL 152 yL_valueOf wsL_valueOf) := goodIn_app (goodIn_of _ (by decide +kernel)) ggL_law_L_valueOf
set_option maxRecDepth 20000 in
theorem ggL_law_X7_valueOf : GoodIn wsL_law wsX7_valueOf := goodIn_r _ [677, 352, 353, 5, 354, 191, 192, 193, 194, 195, 196, 197, 198, 355, 356, 357, 770, 771, 772, 773, 774, 775, 776, 777, 778, 779, 780, 781, 782, 783, 784, 785, 786, 787, 788, 789, 790, 791, 792, 793, 794, 795, 796, 797, 798] (by decide +kernel) (by decide +kernel)
set_option maxRecDepth 20000 in
theorem gL_law_X7_valueOf : GoodIn wsL_law (wsV RL 154 RX7 yX7_valueOf wsX7_valueOf) := goodIn_app (goodIn_of _ (by decide +kernel)) ggL_law_X7_valueOf
set_option maxRecDepth 20000 in
theorem ggL_law_L_thirds : GoodIn wsL_law wsL_thirds := goodIn_ca (goodIn_r _ [680, 272, 681, 682, 683, 2, 684, 277, 278, 33, 685, 686, 687, 287, 288, 289, 31, 290, 84, 434, 435, 436, 291, 292, 293, 341, 342, 343, 344, 345, 346, 752, 753, 754, 755, 756, 757, 758, 759, 760, 761, 762, 763, 764, 765, 766, 767, 768, 769, 809] (by decide +kernel) (by decide +kernel)) (goodIn_sub (fun _ h => List.mem_append_right _ h) (by decide +kernel))
set_option maxRecDepth 20000 in
theorem gL_law_L_thirds : GoodIn wsL_law (va_wsS RL 155 yL_thirds wsL_thirds) := goodIn_app (goodIn_of _ (by decide +kernel)) ggL_law_L_thirds
set_option maxRecDepth 20000 in
theorem ggL_law_X7_thirds : GoodIn wsL_law wsX7_thirds := goodIn_r _ [691, 191, 192, 5, 193, 194, 195, 196, 197, 198, 519, 520, 521, 522, 523, 524, 525, 526, 186, 187, 102, 188, 506, 507, 508, 509, 96, 98, 302, 303, 304, 355, 356, 357, 770, 771, 772, 773, 774, 775, 776, 777, 778, 779, 780, 781, 782, 783, 784, 785, 786, 787, 788, 789, 790, 791, 792, 793, 794, 795, 796, 797, 798] (by decide +kernel) (by decide +kernel)
set_option maxRecDepth 20000 in
theorem gL_law_X7_thirds : GoodIn wsL_law (wsV RL 157 RX7 yX7_thirds wsX7_thirds) := goodIn_app (goodIn_of _ (by decide +kernel)) ggL_law_X7_thirds
set_option maxRecDepth 20000 in
theorem ggL_law_L_byPacks : GoodIn wsL_law wsL_byPacks := goodIn_ca (goodIn_r _ [694, 272, 695, 696, 697, 2, 698, 277, 278, 33, 685, 686, 687, 287, 288, 289, 31, 290, 84, 699, 700, 701, 291, 292, 293, 341, 342, 343, 344, 345, 346, 752, 753, 754, 755, 756, 757, 758, 759, 760, 761, 762, 763, 764, 765, 766, 767, 768, 769, 809] (by decide +kernel) (by decide +kernel)) (goodIn_sub (fun _ h => List.mem_append_right _ h) (by decide +kernel))
set_option maxRecDepth 20000 in
theorem gL_law_L_byPacks : GoodIn wsL_law (va_wsS RL 158 yL_byPacks wsL_byPacks) := goodIn_app (goodIn_of _ (by decide +kernel)) ggL_law_L_byPacks
set_option maxRecDepth 20000 in
theorem ggL_law_X7_byPacks : GoodIn wsL_law wsX7_byPacks := goodIn_r _ [705, 191, 192, 5, 193, 194, 195, 196, 197, 198, 523, 524, 525, 526, 186, 187, 102, 188, 506, 507, 508, 509, 96, 98, 302, 303, 304, 355, 356, 357, 770, 771, 772, 773, 774, 775, 776, 777, 778, 779, 780, 781, 782, 783, 784, 785, 786, 787, 788, 789, 790, 791, 792, 793, 794, 795, 796, 797, 798] (by decide +kernel) (by decide +kernel)
set_option maxRecDepth 20000 in
theorem gL_law_X7_byPacks : GoodIn wsL_law (wsV RL 160 RX7 yX7_byPacks wsX7_byPacks) := goodIn_app (goodIn_of _ (by decide +kernel)) ggL_law_X7_byPacks
set_option maxRecDepth 20000 in
theorem ggL_law_L_score : GoodIn wsL_law wsL_score := goodIn_ca (goodIn_r _ [708, 272, 709, 710, 711, 2, 712, 277, 278, 28, 600, 601, 602, 713, 161, 162, 47, 163, 58, 752, 753, 754, 755, 756, 757, 758, 759, 760, 761, 762, 763, 764, 765, 766, 767, 768, 769, 806, 807, 808, 810] (by decide +kernel) (by decide +kernel)) (goodIn_sub (fun _ h => List.mem_append_right _ h) (by decide +kernel))
set_option maxRecDepth 20000 in
theorem gL_law_L_score : GoodIn wsL_law (va_wsS RL 161 yL_score wsL_score) := goodIn_app (goodIn_of _ (by decide +kernel)) ggL_law_L_score
set_option maxRecDepth 20000 in
theorem ggL_law_X7_score : GoodIn wsL_law wsX7_score := goodIn_r _ [717, 103, 607, 608, 5, 609, 191, 192, 193, 194, 195, 196, 197, 198, 770, 771, 772, 773, 774, 775, 776, 777, 778, 779, 780, 781, 782, 783, 784, 785, 786, 787, 788, 789, 790, 791, 792, 793, 794, 795, 796, 797, 798] (by decide +kernel) (by decide +kernel)
set_option maxRecDepth 20000 in
theorem gL_law_X7_score : GoodIn wsL_law (wsV RL 163 RX7 yX7_score wsX7_score) := goodIn_app (goodIn_of _ (by decide +kernel)) ggL_law_X7_score
set_option maxRecDepth 20000 in
theorem ggL_law_L_radli : GoodIn wsL_law wsL_radli := goodIn_ca (goodIn_r _ [720, 272, 721, 722, 723, 2, 724, 277, 278, 28, 600, 601, 602, 713, 161, 162, 47, 163, 58, 752, 753, 754, 755, 756, 757, 758, 759, 760, 761, 762, 763, 764, 765, 766, 767, 768, 769, 806, 807, 808, 810] (by decide +kernel) (by decide +kernel)) (goodIn_sub (fun _ h => List.mem_append_right _ h) (by decide +kernel))
set_option maxRecDepth 20000 in
theorem gL_law_L_radli : GoodIn wsL_law (va_wsS RL 164 yL_radli wsL_radli) := goodIn_app (goodIn_of _ (by decide +kernel)) ggL_law_L_radli
set_option maxRecDepth 20000 in
theorem ggL_law_X7_radli : GoodIn wsL_law wsX7_radli := goodIn_r _ [728, 104, 607, 608, 5, 609, 191, 192, 193, 194, 195, 196, 197, 198, 770, 771, 772, 773, 774, 775, 776, 777, 778, 779, 780, 781, 782, 783, 784, 785, 786, 787, 788, 789, 790, 791, 792, 793, 794, 795, 796, 797, 798] (by decide +kernel) (by decide +kernel)
set_option maxRecDepth 20000 in
theorem gL_law_X7_radli : GoodIn wsL_law (wsV RL 166 RX7 yX7_radli wsX7_radli) := goodIn_app (goodIn_of _ (by decide +kernel)) ggL_law_X7_radli
set_option maxRecDepth 20000 in
theorem ggL_law_X6_result : GoodIn wsL_law wsX6_result := goodIn_r _ [732, 28, 752, 753, 754, 755, 756, 757, 758, 759, 760, 761, 762, 763, 764, 765, 766, 767, 768, 769, 806, 807, 808] (by decide +kernel) (by decide +kernel)
set_option maxRecDepth 20000 in
theorem gL_law_X6_result : GoodIn wsL_law (wsV RL 167 RX6 yX6_result wsX6_result) := goodIn_app (goodIn_of _ (by decide +kernel)) ggL_law_X6_result
set_option maxRecDepth 20000 in
theorem ggL_law_X7_result : GoodIn wsL_law wsX7_result := goodIn_r _ [736, 198, 518, 770, 771, 772, 773, 774, 775, 776, 777, 778, 779, 780, 781, 782, 783, 784, 785, 786, 787, 788, 789, 790, 791, 792, 793, 794, 795, 796, 797, 798] (by decide +kernel) (by decide +kernel)
set_option maxRecDepth 20000 in
theorem gL_law_X7_result : GoodIn wsL_law (wsV RL 170 RX7 yX7_result wsX7_result) := goodIn_app (goodIn_of _ (by decide +kernel)) ggL_law_X7_result
set_option maxRecDepth 20000 in
theorem ggL_law_L_knows : GoodIn wsL_law wsL_knows := goodIn_ca (goodIn_r _ [739, 272, 740, 741, 742, 2, 743, 277, 278, 37, 35, 39, 600, 601, 602, 744, 745, 746, 747, 38, 32, 287, 288, 289, 31, 290, 84, 279, 280, 281, 282, 291, 292, 293, 422, 423, 424, 425, 40, 752, 753, 754, 755, 756, 757, 758, 759, 760, 761, 762, 763, 764, 765, 766, 767, 768, 769, 809] (by decide +kernel) (by decide +kernel)) (goodIn_sub (fun _ h => List.mem_append_right _ h) (by decide +kernel))
set_option maxRecDepth 20000 in
theorem gL_law_L_knows : GoodIn wsL_law (va_wsS RL 171 yL_knows wsL_knows) := goodIn_app (goodIn_of _ (by decide +kernel)) ggL_law_L_knows
set_option maxRecDepth 20000 in
theorem ggL_law_X7_knows : GoodIn wsL_law wsX7_knows := goodIn_r _ [751, 96, 89, 184, 99, 185, 607, 608, 5, 609, 191, 192, 193, 194, 195, 196, 197, 198, 506, 507, 508, 509, 98, 770, 771, 772, 773, 774, 775, 776, 777, 778, 779, 780, 781, 782, 783, 784, 785, 786, 787, 788, 789, 790, 791, 792, 793, 794, 795, 796, 797, 798] (by decide +kernel) (by decide +kernel)
set_option maxRecDepth 20000 in
theorem gL_law_X7_knows : GoodIn wsL_law (wsV RL 174 RX7 yX7_knows wsX7_knows) := goodIn_app (goodIn_of _ (by decide +kernel)) ggL_law_X7_knows
theorem dL_law_0 : decode cL_law 0 = .ok (.new 8, 3) := by decide +kernel
theorem dL_law_3 : decode cL_law 3 = .ok (.dup, 1) := by decide +kernel
theorem dL_law_4 : decode cL_law 4 = .ok (.invokespecial 73, 3) := by decide +kernel
theorem dL_law_7 : decode cL_law 7 = .ok (.astore_n 1, 1) := by decide +kernel
theorem dL_law_8 : decode cL_law 8 = .ok (.new 74, 3) := by decide +kernel
theorem dL_law_11 : decode cL_law 11 = .ok (.dup, 1) := by decide +kernel
theorem dL_law_12 : decode cL_law 12 = .ok (.invokespecial 76, 3) := by decide +kernel
theorem dL_law_15 : decode cL_law 15 = .ok (.astore_n 2, 1) := by decide +kernel
theorem dL_law_16 : decode cL_law 16 = .ok (.iconst 1, 1) := by decide +kernel
theorem dL_law_17 : decode cL_law 17 = .ok (.newarray .long, 2) := by decide +kernel
theorem dL_law_19 : decode cL_law 19 = .ok (.astore_n 3, 1) := by decide +kernel
theorem dL_law_20 : decode cL_law 20 = .ok (.iconst 0, 1) := by decide +kernel
theorem dL_law_21 : decode cL_law 21 = .ok (.istore 4, 2) := by decide +kernel
theorem dL_law_23 : decode cL_law 23 = .ok (.iload 4, 2) := by decide +kernel
theorem dL_law_25 : decode cL_law 25 = .ok (.aload_n 0, 1) := by decide +kernel
theorem dL_law_26 : decode cL_law 26 = .ok (.arraylength, 1) := by decide +kernel
theorem dL_law_27 : decode cL_law 27 = .ok (.iconst 3, 1) := by decide +kernel
theorem dL_law_28 : decode cL_law 28 = .ok (.isub, 1) := by decide +kernel
theorem dL_law_29 : decode cL_law 29 = .ok (.if_icmp .gt 1280, 3) := by decide +kernel
theorem dL_law_32 : decode cL_law 32 = .ok (.aload_n 0, 1) := by decide +kernel
theorem dL_law_33 : decode cL_law 33 = .ok (.iload 4, 2) := by decide +kernel
theorem dL_law_35 : decode cL_law 35 = .ok (.iaload, 1) := by decide +kernel
theorem dL_law_36 : decode cL_law 36 = .ok (.bipush 31, 2) := by decide +kernel
theorem dL_law_38 : decode cL_law 38 = .ok (.iand, 1) := by decide +kernel
theorem dL_law_39 : decode cL_law 39 = .ok (.tableswitch 1264 0 26 #[121, 177, 233, 289, 345, 401, 457, 513, 569, 582, 595, 608, 621, 634, 647, 702, 758, 771, 827, 890, 903, 959, 1015, 1071, 1127, 1183, 1196], 121) := by decide +kernel
theorem dL_law_160 : decode cL_law 160 = .ok (.aload_n 1, 1) := by decide +kernel
theorem dL_law_161 : decode cL_law 161 = .ok (.aload_n 0, 1) := by decide +kernel
theorem dL_law_162 : decode cL_law 162 = .ok (.iload 4, 2) := by decide +kernel
theorem dL_law_164 : decode cL_law 164 = .ok (.iconst 1, 1) := by decide +kernel
theorem dL_law_165 : decode cL_law 165 = .ok (.iadd, 1) := by decide +kernel
theorem dL_law_166 : decode cL_law 166 = .ok (.iaload, 1) := by decide +kernel
theorem dL_law_167 : decode cL_law 167 = .ok (.aload_n 3, 1) := by decide +kernel
theorem dL_law_168 : decode cL_law 168 = .ok (.invokestatic 77, 3) := by decide +kernel
theorem dL_law_171 : decode cL_law 171 = .ok (.istore 5, 2) := by decide +kernel
theorem dL_law_173 : decode cL_law 173 = .ok (.aload_n 2, 1) := by decide +kernel
theorem dL_law_174 : decode cL_law 174 = .ok (.aload_n 0, 1) := by decide +kernel
theorem dL_law_175 : decode cL_law 175 = .ok (.iload 4, 2) := by decide +kernel
theorem dL_law_177 : decode cL_law 177 = .ok (.iconst 1, 1) := by decide +kernel
theorem dL_law_178 : decode cL_law 178 = .ok (.iadd, 1) := by decide +kernel
theorem dL_law_179 : decode cL_law 179 = .ok (.iaload, 1) := by decide +kernel
theorem dL_law_180 : decode cL_law 180 = .ok (.invokevirtual 82, 3) := by decide +kernel
theorem dL_law_183 : decode cL_law 183 = .ok (.istore 6, 2) := by decide +kernel
theorem dL_law_185 : decode cL_law 185 = .ok (.aload_n 2, 1) := by decide +kernel
theorem dL_law_186 : decode cL_law 186 = .ok (.invokevirtual 83, 3) := by decide +kernel
theorem dL_law_189 : decode cL_law 189 = .ok (.iload 5, 2) := by decide +kernel
theorem dL_law_191 : decode cL_law 191 = .ok (.if_icmp .eq 5, 3) := by decide +kernel
theorem dL_law_194 : decode cL_law 194 = .ok (.iconst 0, 1) := by decide +kernel
theorem dL_law_195 : decode cL_law 195 = .ok (.ireturn, 1) := by decide +kernel
theorem dL_law_196 : decode cL_law 196 = .ok (.iload 5, 2) := by decide +kernel
theorem dL_law_198 : decode cL_law 198 = .ok (.ifCond .ne 15, 3) := by decide +kernel
theorem dL_law_201 : decode cL_law 201 = .ok (.aload_n 3, 1) := by decide +kernel
theorem dL_law_202 : decode cL_law 202 = .ok (.iconst 0, 1) := by decide +kernel
theorem dL_law_203 : decode cL_law 203 = .ok (.laload, 1) := by decide +kernel
theorem dL_law_204 : decode cL_law 204 = .ok (.iload 6, 2) := by decide +kernel
theorem dL_law_206 : decode cL_law 206 = .ok (.i2l, 1) := by decide +kernel
theorem dL_law_207 : decode cL_law 207 = .ok (.lcmp, 1) := by decide +kernel
theorem dL_law_208 : decode cL_law 208 = .ok (.ifCond .eq 5, 3) := by decide +kernel
theorem dL_law_211 : decode cL_law 211 = .ok (.iconst 0, 1) := by decide +kernel
theorem dL_law_212 : decode cL_law 212 = .ok (.ireturn, 1) := by decide +kernel
theorem dL_law_213 : decode cL_law 213 = .ok (.goto 1090, 3) := by decide +kernel
theorem dL_law_216 : decode cL_law 216 = .ok (.aload_n 1, 1) := by decide +kernel
theorem dL_law_217 : decode cL_law 217 = .ok (.aload_n 0, 1) := by decide +kernel
theorem dL_law_218 : decode cL_law 218 = .ok (.iload 4, 2) := by decide +kernel
theorem dL_law_220 : decode cL_law 220 = .ok (.iconst 1, 1) := by decide +kernel
theorem dL_law_221 : decode cL_law 221 = .ok (.iadd, 1) := by decide +kernel
theorem dL_law_222 : decode cL_law 222 = .ok (.iaload, 1) := by decide +kernel
theorem dL_law_223 : decode cL_law 223 = .ok (.aload_n 3, 1) := by decide +kernel
theorem dL_law_224 : decode cL_law 224 = .ok (.invokestatic 87, 3) := by decide +kernel
theorem dL_law_227 : decode cL_law 227 = .ok (.istore 5, 2) := by decide +kernel
theorem dL_law_229 : decode cL_law 229 = .ok (.aload_n 2, 1) := by decide +kernel
theorem dL_law_230 : decode cL_law 230 = .ok (.aload_n 0, 1) := by decide +kernel
theorem dL_law_231 : decode cL_law 231 = .ok (.iload 4, 2) := by decide +kernel
theorem dL_law_233 : decode cL_law 233 = .ok (.iconst 1, 1) := by decide +kernel
theorem dL_law_234 : decode cL_law 234 = .ok (.iadd, 1) := by decide +kernel
theorem dL_law_235 : decode cL_law 235 = .ok (.iaload, 1) := by decide +kernel
theorem dL_law_236 : decode cL_law 236 = .ok (.invokevirtual 89, 3) := by decide +kernel
theorem dL_law_239 : decode cL_law 239 = .ok (.istore 6, 2) := by decide +kernel
theorem dL_law_241 : decode cL_law 241 = .ok (.aload_n 2, 1) := by decide +kernel
theorem dL_law_242 : decode cL_law 242 = .ok (.invokevirtual 83, 3) := by decide +kernel
theorem dL_law_245 : decode cL_law 245 = .ok (.iload 5, 2) := by decide +kernel
theorem dL_law_247 : decode cL_law 247 = .ok (.if_icmp .eq 5, 3) := by decide +kernel
theorem dL_law_250 : decode cL_law 250 = .ok (.iconst 0, 1) := by decide +kernel
theorem dL_law_251 : decode cL_law 251 = .ok (.ireturn, 1) := by decide +kernel
theorem dL_law_252 : decode cL_law 252 = .ok (.iload 5, 2) := by decide +kernel
theorem dL_law_254 : decode cL_law 254 = .ok (.ifCond .ne 15, 3) := by decide +kernel
theorem dL_law_257 : decode cL_law 257 = .ok (.aload_n 3, 1) := by decide +kernel
theorem dL_law_258 : decode cL_law 258 = .ok (.iconst 0, 1) := by decide +kernel
theorem dL_law_259 : decode cL_law 259 = .ok (.laload, 1) := by decide +kernel
theorem dL_law_260 : decode cL_law 260 = .ok (.iload 6, 2) := by decide +kernel
theorem dL_law_262 : decode cL_law 262 = .ok (.i2l, 1) := by decide +kernel
theorem dL_law_263 : decode cL_law 263 = .ok (.lcmp, 1) := by decide +kernel
theorem dL_law_264 : decode cL_law 264 = .ok (.ifCond .eq 5, 3) := by decide +kernel
theorem dL_law_267 : decode cL_law 267 = .ok (.iconst 0, 1) := by decide +kernel
theorem dL_law_268 : decode cL_law 268 = .ok (.ireturn, 1) := by decide +kernel
theorem dL_law_269 : decode cL_law 269 = .ok (.goto 1034, 3) := by decide +kernel
theorem dL_law_272 : decode cL_law 272 = .ok (.aload_n 1, 1) := by decide +kernel
theorem dL_law_273 : decode cL_law 273 = .ok (.aload_n 0, 1) := by decide +kernel
theorem dL_law_274 : decode cL_law 274 = .ok (.iload 4, 2) := by decide +kernel
theorem dL_law_276 : decode cL_law 276 = .ok (.iconst 1, 1) := by decide +kernel
theorem dL_law_277 : decode cL_law 277 = .ok (.iadd, 1) := by decide +kernel
theorem dL_law_278 : decode cL_law 278 = .ok (.iaload, 1) := by decide +kernel
theorem dL_law_279 : decode cL_law 279 = .ok (.aload_n 3, 1) := by decide +kernel
theorem dL_law_280 : decode cL_law 280 = .ok (.invokestatic 90, 3) := by decide +kernel
theorem dL_law_283 : decode cL_law 283 = .ok (.istore 5, 2) := by decide +kernel
theorem dL_law_285 : decode cL_law 285 = .ok (.aload_n 2, 1) := by decide +kernel
theorem dL_law_286 : decode cL_law 286 = .ok (.aload_n 0, 1) := by decide +kernel
theorem dL_law_287 : decode cL_law 287 = .ok (.iload 4, 2) := by decide +kernel
theorem dL_law_289 : decode cL_law 289 = .ok (.iconst 1, 1) := by decide +kernel
theorem dL_law_290 : decode cL_law 290 = .ok (.iadd, 1) := by decide +kernel
theorem dL_law_291 : decode cL_law 291 = .ok (.iaload, 1) := by decide +kernel
theorem dL_law_292 : decode cL_law 292 = .ok (.invokevirtual 92, 3) := by decide +kernel
theorem dL_law_295 : decode cL_law 295 = .ok (.istore 6, 2) := by decide +kernel
theorem dL_law_297 : decode cL_law 297 = .ok (.aload_n 2, 1) := by decide +kernel
theorem dL_law_298 : decode cL_law 298 = .ok (.invokevirtual 83, 3) := by decide +kernel
theorem dL_law_301 : decode cL_law 301 = .ok (.iload 5, 2) := by decide +kernel
theorem dL_law_303 : decode cL_law 303 = .ok (.if_icmp .eq 5, 3) := by decide +kernel
theorem dL_law_306 : decode cL_law 306 = .ok (.iconst 0, 1) := by decide +kernel
theorem dL_law_307 : decode cL_law 307 = .ok (.ireturn, 1) := by decide +kernel
theorem dL_law_308 : decode cL_law 308 = .ok (.iload 5, 2) := by decide +kernel
theorem dL_law_310 : decode cL_law 310 = .ok (.ifCond .ne 15, 3) := by decide +kernel
theorem dL_law_313 : decode cL_law 313 = .ok (.aload_n 3, 1) := by decide +kernel
theorem dL_law_314 : decode cL_law 314 = .ok (.iconst 0, 1) := by decide +kernel
theorem dL_law_315 : decode cL_law 315 = .ok (.laload, 1) := by decide +kernel
theorem dL_law_316 : decode cL_law 316 = .ok (.iload 6, 2) := by decide +kernel
theorem dL_law_318 : decode cL_law 318 = .ok (.i2l, 1) := by decide +kernel
theorem dL_law_319 : decode cL_law 319 = .ok (.lcmp, 1) := by decide +kernel
theorem dL_law_320 : decode cL_law 320 = .ok (.ifCond .eq 5, 3) := by decide +kernel
theorem dL_law_323 : decode cL_law 323 = .ok (.iconst 0, 1) := by decide +kernel
theorem dL_law_324 : decode cL_law 324 = .ok (.ireturn, 1) := by decide +kernel
theorem dL_law_325 : decode cL_law 325 = .ok (.goto 978, 3) := by decide +kernel
theorem dL_law_328 : decode cL_law 328 = .ok (.aload_n 1, 1) := by decide +kernel
theorem dL_law_329 : decode cL_law 329 = .ok (.aload_n 0, 1) := by decide +kernel
theorem dL_law_330 : decode cL_law 330 = .ok (.iload 4, 2) := by decide +kernel
theorem dL_law_332 : decode cL_law 332 = .ok (.iconst 1, 1) := by decide +kernel
theorem dL_law_333 : decode cL_law 333 = .ok (.iadd, 1) := by decide +kernel
theorem dL_law_334 : decode cL_law 334 = .ok (.iaload, 1) := by decide +kernel
theorem dL_law_335 : decode cL_law 335 = .ok (.aload_n 3, 1) := by decide +kernel
theorem dL_law_336 : decode cL_law 336 = .ok (.invokestatic 93, 3) := by decide +kernel
theorem dL_law_339 : decode cL_law 339 = .ok (.istore 5, 2) := by decide +kernel
theorem dL_law_341 : decode cL_law 341 = .ok (.aload_n 2, 1) := by decide +kernel
theorem dL_law_342 : decode cL_law 342 = .ok (.aload_n 0, 1) := by decide +kernel
theorem dL_law_343 : decode cL_law 343 = .ok (.iload 4, 2) := by decide +kernel
theorem dL_law_345 : decode cL_law 345 = .ok (.iconst 1, 1) := by decide +kernel
theorem dL_law_346 : decode cL_law 346 = .ok (.iadd, 1) := by decide +kernel
theorem dL_law_347 : decode cL_law 347 = .ok (.iaload, 1) := by decide +kernel
theorem dL_law_348 : decode cL_law 348 = .ok (.invokevirtual 95, 3) := by decide +kernel
theorem dL_law_351 : decode cL_law 351 = .ok (.istore 6, 2) := by decide +kernel
theorem dL_law_353 : decode cL_law 353 = .ok (.aload_n 2, 1) := by decide +kernel
theorem dL_law_354 : decode cL_law 354 = .ok (.invokevirtual 83, 3) := by decide +kernel
theorem dL_law_357 : decode cL_law 357 = .ok (.iload 5, 2) := by decide +kernel
theorem dL_law_359 : decode cL_law 359 = .ok (.if_icmp .eq 5, 3) := by decide +kernel
theorem dL_law_362 : decode cL_law 362 = .ok (.iconst 0, 1) := by decide +kernel
theorem dL_law_363 : decode cL_law 363 = .ok (.ireturn, 1) := by decide +kernel
theorem dL_law_364 : decode cL_law 364 = .ok (.iload 5, 2) := by decide +kernel
theorem dL_law_366 : decode cL_law 366 = .ok (.ifCond .ne 15, 3) := by decide +kernel
theorem dL_law_369 : decode cL_law 369 = .ok (.aload_n 3, 1) := by decide +kernel
theorem dL_law_370 : decode cL_law 370 = .ok (.iconst 0, 1) := by decide +kernel
theorem dL_law_371 : decode cL_law 371 = .ok (.laload, 1) := by decide +kernel
theorem dL_law_372 : decode cL_law 372 = .ok (.iload 6, 2) := by decide +kernel
theorem dL_law_374 : decode cL_law 374 = .ok (.i2l, 1) := by decide +kernel
theorem dL_law_375 : decode cL_law 375 = .ok (.lcmp, 1) := by decide +kernel
theorem dL_law_376 : decode cL_law 376 = .ok (.ifCond .eq 5, 3) := by decide +kernel
theorem dL_law_379 : decode cL_law 379 = .ok (.iconst 0, 1) := by decide +kernel
theorem dL_law_380 : decode cL_law 380 = .ok (.ireturn, 1) := by decide +kernel
theorem dL_law_381 : decode cL_law 381 = .ok (.goto 922, 3) := by decide +kernel
theorem dL_law_384 : decode cL_law 384 = .ok (.aload_n 1, 1) := by decide +kernel
theorem dL_law_385 : decode cL_law 385 = .ok (.aload_n 0, 1) := by decide +kernel
theorem dL_law_386 : decode cL_law 386 = .ok (.iload 4, 2) := by decide +kernel
theorem dL_law_388 : decode cL_law 388 = .ok (.iconst 1, 1) := by decide +kernel
theorem dL_law_389 : decode cL_law 389 = .ok (.iadd, 1) := by decide +kernel
theorem dL_law_390 : decode cL_law 390 = .ok (.iaload, 1) := by decide +kernel
theorem dL_law_391 : decode cL_law 391 = .ok (.aload_n 3, 1) := by decide +kernel
theorem dL_law_392 : decode cL_law 392 = .ok (.invokestatic 96, 3) := by decide +kernel
theorem dL_law_395 : decode cL_law 395 = .ok (.istore 5, 2) := by decide +kernel
theorem dL_law_397 : decode cL_law 397 = .ok (.aload_n 2, 1) := by decide +kernel
theorem dL_law_398 : decode cL_law 398 = .ok (.aload_n 0, 1) := by decide +kernel
theorem dL_law_399 : decode cL_law 399 = .ok (.iload 4, 2) := by decide +kernel
theorem dL_law_401 : decode cL_law 401 = .ok (.iconst 1, 1) := by decide +kernel
theorem dL_law_402 : decode cL_law 402 = .ok (.iadd, 1) := by decide +kernel
theorem dL_law_403 : decode cL_law 403 = .ok (.iaload, 1) := by decide +kernel
theorem dL_law_404 : decode cL_law 404 = .ok (.invokevirtual 98, 3) := by decide +kernel
theorem dL_law_407 : decode cL_law 407 = .ok (.istore 6, 2) := by decide +kernel
theorem dL_law_409 : decode cL_law 409 = .ok (.aload_n 2, 1) := by decide +kernel
theorem dL_law_410 : decode cL_law 410 = .ok (.invokevirtual 83, 3) := by decide +kernel
theorem dL_law_413 : decode cL_law 413 = .ok (.iload 5, 2) := by decide +kernel
theorem dL_law_415 : decode cL_law 415 = .ok (.if_icmp .eq 5, 3) := by decide +kernel
theorem dL_law_418 : decode cL_law 418 = .ok (.iconst 0, 1) := by decide +kernel
theorem dL_law_419 : decode cL_law 419 = .ok (.ireturn, 1) := by decide +kernel
theorem dL_law_420 : decode cL_law 420 = .ok (.iload 5, 2) := by decide +kernel
theorem dL_law_422 : decode cL_law 422 = .ok (.ifCond .ne 15, 3) := by decide +kernel
theorem dL_law_425 : decode cL_law 425 = .ok (.aload_n 3, 1) := by decide +kernel
theorem dL_law_426 : decode cL_law 426 = .ok (.iconst 0, 1) := by decide +kernel
theorem dL_law_427 : decode cL_law 427 = .ok (.laload, 1) := by decide +kernel
theorem dL_law_428 : decode cL_law 428 = .ok (.iload 6, 2) := by decide +kernel
theorem dL_law_430 : decode cL_law 430 = .ok (.i2l, 1) := by decide +kernel
theorem dL_law_431 : decode cL_law 431 = .ok (.lcmp, 1) := by decide +kernel
theorem dL_law_432 : decode cL_law 432 = .ok (.ifCond .eq 5, 3) := by decide +kernel
theorem dL_law_435 : decode cL_law 435 = .ok (.iconst 0, 1) := by decide +kernel
theorem dL_law_436 : decode cL_law 436 = .ok (.ireturn, 1) := by decide +kernel
theorem dL_law_437 : decode cL_law 437 = .ok (.goto 866, 3) := by decide +kernel
theorem dL_law_440 : decode cL_law 440 = .ok (.aload_n 1, 1) := by decide +kernel
theorem dL_law_441 : decode cL_law 441 = .ok (.aload_n 0, 1) := by decide +kernel
theorem dL_law_442 : decode cL_law 442 = .ok (.iload 4, 2) := by decide +kernel
theorem dL_law_444 : decode cL_law 444 = .ok (.iconst 1, 1) := by decide +kernel
theorem dL_law_445 : decode cL_law 445 = .ok (.iadd, 1) := by decide +kernel
theorem dL_law_446 : decode cL_law 446 = .ok (.iaload, 1) := by decide +kernel
theorem dL_law_447 : decode cL_law 447 = .ok (.aload_n 3, 1) := by decide +kernel
theorem dL_law_448 : decode cL_law 448 = .ok (.invokestatic 99, 3) := by decide +kernel
theorem dL_law_451 : decode cL_law 451 = .ok (.istore 5, 2) := by decide +kernel
theorem dL_law_453 : decode cL_law 453 = .ok (.aload_n 2, 1) := by decide +kernel
theorem dL_law_454 : decode cL_law 454 = .ok (.aload_n 0, 1) := by decide +kernel
theorem dL_law_455 : decode cL_law 455 = .ok (.iload 4, 2) := by decide +kernel
theorem dL_law_457 : decode cL_law 457 = .ok (.iconst 1, 1) := by decide +kernel
theorem dL_law_458 : decode cL_law 458 = .ok (.iadd, 1) := by decide +kernel
theorem dL_law_459 : decode cL_law 459 = .ok (.iaload, 1) := by decide +kernel
theorem dL_law_460 : decode cL_law 460 = .ok (.invokevirtual 101, 3) := by decide +kernel
theorem dL_law_463 : decode cL_law 463 = .ok (.istore 6, 2) := by decide +kernel
theorem dL_law_465 : decode cL_law 465 = .ok (.aload_n 2, 1) := by decide +kernel
theorem dL_law_466 : decode cL_law 466 = .ok (.invokevirtual 83, 3) := by decide +kernel
theorem dL_law_469 : decode cL_law 469 = .ok (.iload 5, 2) := by decide +kernel
theorem dL_law_471 : decode cL_law 471 = .ok (.if_icmp .eq 5, 3) := by decide +kernel
theorem dL_law_474 : decode cL_law 474 = .ok (.iconst 0, 1) := by decide +kernel
theorem dL_law_475 : decode cL_law 475 = .ok (.ireturn, 1) := by decide +kernel
theorem dL_law_476 : decode cL_law 476 = .ok (.iload 5, 2) := by decide +kernel
theorem dL_law_478 : decode cL_law 478 = .ok (.ifCond .ne 15, 3) := by decide +kernel
theorem dL_law_481 : decode cL_law 481 = .ok (.aload_n 3, 1) := by decide +kernel
theorem dL_law_482 : decode cL_law 482 = .ok (.iconst 0, 1) := by decide +kernel
theorem dL_law_483 : decode cL_law 483 = .ok (.laload, 1) := by decide +kernel
theorem dL_law_484 : decode cL_law 484 = .ok (.iload 6, 2) := by decide +kernel
theorem dL_law_486 : decode cL_law 486 = .ok (.i2l, 1) := by decide +kernel
theorem dL_law_487 : decode cL_law 487 = .ok (.lcmp, 1) := by decide +kernel
theorem dL_law_488 : decode cL_law 488 = .ok (.ifCond .eq 5, 3) := by decide +kernel
theorem dL_law_491 : decode cL_law 491 = .ok (.iconst 0, 1) := by decide +kernel
theorem dL_law_492 : decode cL_law 492 = .ok (.ireturn, 1) := by decide +kernel
theorem dL_law_493 : decode cL_law 493 = .ok (.goto 810, 3) := by decide +kernel
theorem dL_law_496 : decode cL_law 496 = .ok (.aload_n 1, 1) := by decide +kernel
theorem dL_law_497 : decode cL_law 497 = .ok (.aload_n 0, 1) := by decide +kernel
theorem dL_law_498 : decode cL_law 498 = .ok (.iload 4, 2) := by decide +kernel
theorem dL_law_500 : decode cL_law 500 = .ok (.iconst 1, 1) := by decide +kernel
theorem dL_law_501 : decode cL_law 501 = .ok (.iadd, 1) := by decide +kernel
theorem dL_law_502 : decode cL_law 502 = .ok (.iaload, 1) := by decide +kernel
theorem dL_law_503 : decode cL_law 503 = .ok (.aload_n 3, 1) := by decide +kernel
theorem dL_law_504 : decode cL_law 504 = .ok (.invokestatic 102, 3) := by decide +kernel
theorem dL_law_507 : decode cL_law 507 = .ok (.istore 5, 2) := by decide +kernel
theorem dL_law_509 : decode cL_law 509 = .ok (.aload_n 2, 1) := by decide +kernel
theorem dL_law_510 : decode cL_law 510 = .ok (.aload_n 0, 1) := by decide +kernel
theorem dL_law_511 : decode cL_law 511 = .ok (.iload 4, 2) := by decide +kernel
theorem dL_law_513 : decode cL_law 513 = .ok (.iconst 1, 1) := by decide +kernel
theorem dL_law_514 : decode cL_law 514 = .ok (.iadd, 1) := by decide +kernel
theorem dL_law_515 : decode cL_law 515 = .ok (.iaload, 1) := by decide +kernel
theorem dL_law_516 : decode cL_law 516 = .ok (.invokevirtual 104, 3) := by decide +kernel
theorem dL_law_519 : decode cL_law 519 = .ok (.istore 6, 2) := by decide +kernel
theorem dL_law_521 : decode cL_law 521 = .ok (.aload_n 2, 1) := by decide +kernel
theorem dL_law_522 : decode cL_law 522 = .ok (.invokevirtual 83, 3) := by decide +kernel
theorem dL_law_525 : decode cL_law 525 = .ok (.iload 5, 2) := by decide +kernel
theorem dL_law_527 : decode cL_law 527 = .ok (.if_icmp .eq 5, 3) := by decide +kernel
theorem dL_law_530 : decode cL_law 530 = .ok (.iconst 0, 1) := by decide +kernel
theorem dL_law_531 : decode cL_law 531 = .ok (.ireturn, 1) := by decide +kernel
theorem dL_law_532 : decode cL_law 532 = .ok (.iload 5, 2) := by decide +kernel
theorem dL_law_534 : decode cL_law 534 = .ok (.ifCond .ne 15, 3) := by decide +kernel
theorem dL_law_537 : decode cL_law 537 = .ok (.aload_n 3, 1) := by decide +kernel
theorem dL_law_538 : decode cL_law 538 = .ok (.iconst 0, 1) := by decide +kernel
theorem dL_law_539 : decode cL_law 539 = .ok (.laload, 1) := by decide +kernel
theorem dL_law_540 : decode cL_law 540 = .ok (.iload 6, 2) := by decide +kernel
theorem dL_law_542 : decode cL_law 542 = .ok (.i2l, 1) := by decide +kernel
theorem dL_law_543 : decode cL_law 543 = .ok (.lcmp, 1) := by decide +kernel
theorem dL_law_544 : decode cL_law 544 = .ok (.ifCond .eq 5, 3) := by decide +kernel
theorem dL_law_547 : decode cL_law 547 = .ok (.iconst 0, 1) := by decide +kernel
theorem dL_law_548 : decode cL_law 548 = .ok (.ireturn, 1) := by decide +kernel
theorem dL_law_549 : decode cL_law 549 = .ok (.goto 754, 3) := by decide +kernel
theorem dL_law_552 : decode cL_law 552 = .ok (.aload_n 1, 1) := by decide +kernel
theorem dL_law_553 : decode cL_law 553 = .ok (.aload_n 0, 1) := by decide +kernel
theorem dL_law_554 : decode cL_law 554 = .ok (.iload 4, 2) := by decide +kernel
theorem dL_law_556 : decode cL_law 556 = .ok (.iconst 1, 1) := by decide +kernel
theorem dL_law_557 : decode cL_law 557 = .ok (.iadd, 1) := by decide +kernel
theorem dL_law_558 : decode cL_law 558 = .ok (.iaload, 1) := by decide +kernel
theorem dL_law_559 : decode cL_law 559 = .ok (.aload_n 3, 1) := by decide +kernel
theorem dL_law_560 : decode cL_law 560 = .ok (.invokestatic 105, 3) := by decide +kernel
theorem dL_law_563 : decode cL_law 563 = .ok (.istore 5, 2) := by decide +kernel
theorem dL_law_565 : decode cL_law 565 = .ok (.aload_n 2, 1) := by decide +kernel
theorem dL_law_566 : decode cL_law 566 = .ok (.aload_n 0, 1) := by decide +kernel
theorem dL_law_567 : decode cL_law 567 = .ok (.iload 4, 2) := by decide +kernel
theorem dL_law_569 : decode cL_law 569 = .ok (.iconst 1, 1) := by decide +kernel
theorem dL_law_570 : decode cL_law 570 = .ok (.iadd, 1) := by decide +kernel
theorem dL_law_571 : decode cL_law 571 = .ok (.iaload, 1) := by decide +kernel
theorem dL_law_572 : decode cL_law 572 = .ok (.invokevirtual 107, 3) := by decide +kernel
theorem dL_law_575 : decode cL_law 575 = .ok (.istore 6, 2) := by decide +kernel
theorem dL_law_577 : decode cL_law 577 = .ok (.aload_n 2, 1) := by decide +kernel
theorem dL_law_578 : decode cL_law 578 = .ok (.invokevirtual 83, 3) := by decide +kernel
theorem dL_law_581 : decode cL_law 581 = .ok (.iload 5, 2) := by decide +kernel
theorem dL_law_583 : decode cL_law 583 = .ok (.if_icmp .eq 5, 3) := by decide +kernel
theorem dL_law_586 : decode cL_law 586 = .ok (.iconst 0, 1) := by decide +kernel
theorem dL_law_587 : decode cL_law 587 = .ok (.ireturn, 1) := by decide +kernel
theorem dL_law_588 : decode cL_law 588 = .ok (.iload 5, 2) := by decide +kernel
theorem dL_law_590 : decode cL_law 590 = .ok (.ifCond .ne 15, 3) := by decide +kernel
theorem dL_law_593 : decode cL_law 593 = .ok (.aload_n 3, 1) := by decide +kernel
theorem dL_law_594 : decode cL_law 594 = .ok (.iconst 0, 1) := by decide +kernel
theorem dL_law_595 : decode cL_law 595 = .ok (.laload, 1) := by decide +kernel
theorem dL_law_596 : decode cL_law 596 = .ok (.iload 6, 2) := by decide +kernel
theorem dL_law_598 : decode cL_law 598 = .ok (.i2l, 1) := by decide +kernel
theorem dL_law_599 : decode cL_law 599 = .ok (.lcmp, 1) := by decide +kernel
theorem dL_law_600 : decode cL_law 600 = .ok (.ifCond .eq 5, 3) := by decide +kernel
theorem dL_law_603 : decode cL_law 603 = .ok (.iconst 0, 1) := by decide +kernel
theorem dL_law_604 : decode cL_law 604 = .ok (.ireturn, 1) := by decide +kernel
theorem dL_law_605 : decode cL_law 605 = .ok (.goto 698, 3) := by decide +kernel
theorem dL_law_608 : decode cL_law 608 = .ok (.aload_n 1, 1) := by decide +kernel
theorem dL_law_609 : decode cL_law 609 = .ok (.invokevirtual 108, 3) := by decide +kernel
theorem dL_law_612 : decode cL_law 612 = .ok (.aload_n 2, 1) := by decide +kernel
theorem dL_law_613 : decode cL_law 613 = .ok (.invokevirtual 111, 3) := by decide +kernel
theorem dL_law_616 : decode cL_law 616 = .ok (.if_icmp .eq 687, 3) := by decide +kernel
theorem dL_law_619 : decode cL_law 619 = .ok (.iconst 0, 1) := by decide +kernel
theorem dL_law_620 : decode cL_law 620 = .ok (.ireturn, 1) := by decide +kernel
theorem dL_law_621 : decode cL_law 621 = .ok (.aload_n 1, 1) := by decide +kernel
theorem dL_law_622 : decode cL_law 622 = .ok (.invokevirtual 112, 3) := by decide +kernel
theorem dL_law_625 : decode cL_law 625 = .ok (.aload_n 2, 1) := by decide +kernel
theorem dL_law_626 : decode cL_law 626 = .ok (.invokevirtual 115, 3) := by decide +kernel
theorem dL_law_629 : decode cL_law 629 = .ok (.if_icmp .eq 674, 3) := by decide +kernel
theorem dL_law_632 : decode cL_law 632 = .ok (.iconst 0, 1) := by decide +kernel
theorem dL_law_633 : decode cL_law 633 = .ok (.ireturn, 1) := by decide +kernel
theorem dL_law_634 : decode cL_law 634 = .ok (.aload_n 1, 1) := by decide +kernel
theorem dL_law_635 : decode cL_law 635 = .ok (.invokevirtual 116, 3) := by decide +kernel
theorem dL_law_638 : decode cL_law 638 = .ok (.aload_n 2, 1) := by decide +kernel
theorem dL_law_639 : decode cL_law 639 = .ok (.invokevirtual 119, 3) := by decide +kernel
theorem dL_law_642 : decode cL_law 642 = .ok (.if_icmp .eq 661, 3) := by decide +kernel
theorem dL_law_645 : decode cL_law 645 = .ok (.iconst 0, 1) := by decide +kernel
theorem dL_law_646 : decode cL_law 646 = .ok (.ireturn, 1) := by decide +kernel
theorem dL_law_647 : decode cL_law 647 = .ok (.aload_n 1, 1) := by decide +kernel
theorem dL_law_648 : decode cL_law 648 = .ok (.invokevirtual 120, 3) := by decide +kernel
theorem dL_law_651 : decode cL_law 651 = .ok (.aload_n 2, 1) := by decide +kernel
theorem dL_law_652 : decode cL_law 652 = .ok (.invokevirtual 123, 3) := by decide +kernel
theorem dL_law_655 : decode cL_law 655 = .ok (.if_icmp .eq 648, 3) := by decide +kernel
theorem dL_law_658 : decode cL_law 658 = .ok (.iconst 0, 1) := by decide +kernel
theorem dL_law_659 : decode cL_law 659 = .ok (.ireturn, 1) := by decide +kernel
theorem dL_law_660 : decode cL_law 660 = .ok (.aload_n 1, 1) := by decide +kernel
theorem dL_law_661 : decode cL_law 661 = .ok (.invokevirtual 124, 3) := by decide +kernel
theorem dL_law_664 : decode cL_law 664 = .ok (.aload_n 2, 1) := by decide +kernel
theorem dL_law_665 : decode cL_law 665 = .ok (.invokevirtual 127, 3) := by decide +kernel
theorem dL_law_668 : decode cL_law 668 = .ok (.if_icmp .eq 635, 3) := by decide +kernel
theorem dL_law_671 : decode cL_law 671 = .ok (.iconst 0, 1) := by decide +kernel
theorem dL_law_672 : decode cL_law 672 = .ok (.ireturn, 1) := by decide +kernel
theorem dL_law_673 : decode cL_law 673 = .ok (.aload_n 1, 1) := by decide +kernel
theorem dL_law_674 : decode cL_law 674 = .ok (.invokevirtual 128, 3) := by decide +kernel
theorem dL_law_677 : decode cL_law 677 = .ok (.aload_n 2, 1) := by decide +kernel
theorem dL_law_678 : decode cL_law 678 = .ok (.invokevirtual 131, 3) := by decide +kernel
theorem dL_law_681 : decode cL_law 681 = .ok (.if_icmp .eq 622, 3) := by decide +kernel
theorem dL_law_684 : decode cL_law 684 = .ok (.iconst 0, 1) := by decide +kernel
theorem dL_law_685 : decode cL_law 685 = .ok (.ireturn, 1) := by decide +kernel
theorem dL_law_686 : decode cL_law 686 = .ok (.aload_n 1, 1) := by decide +kernel
theorem dL_law_687 : decode cL_law 687 = .ok (.aload_n 0, 1) := by decide +kernel
theorem dL_law_688 : decode cL_law 688 = .ok (.iload 4, 2) := by decide +kernel
theorem dL_law_690 : decode cL_law 690 = .ok (.iconst 1, 1) := by decide +kernel
theorem dL_law_691 : decode cL_law 691 = .ok (.iadd, 1) := by decide +kernel
theorem dL_law_692 : decode cL_law 692 = .ok (.iaload, 1) := by decide +kernel
theorem dL_law_693 : decode cL_law 693 = .ok (.aload_n 3, 1) := by decide +kernel
theorem dL_law_694 : decode cL_law 694 = .ok (.invokestatic 132, 3) := by decide +kernel
theorem dL_law_697 : decode cL_law 697 = .ok (.istore 5, 2) := by decide +kernel
theorem dL_law_699 : decode cL_law 699 = .ok (.aload_n 2, 1) := by decide +kernel
theorem dL_law_700 : decode cL_law 700 = .ok (.aload_n 0, 1) := by decide +kernel
theorem dL_law_701 : decode cL_law 701 = .ok (.iload 4, 2) := by decide +kernel
theorem dL_law_703 : decode cL_law 703 = .ok (.iconst 1, 1) := by decide +kernel
theorem dL_law_704 : decode cL_law 704 = .ok (.iadd, 1) := by decide +kernel
theorem dL_law_705 : decode cL_law 705 = .ok (.iaload, 1) := by decide +kernel
theorem dL_law_706 : decode cL_law 706 = .ok (.invokevirtual 134, 3) := by decide +kernel
theorem dL_law_709 : decode cL_law 709 = .ok (.lstore 6, 2) := by decide +kernel
theorem dL_law_711 : decode cL_law 711 = .ok (.aload_n 2, 1) := by decide +kernel
theorem dL_law_712 : decode cL_law 712 = .ok (.invokevirtual 83, 3) := by decide +kernel
theorem dL_law_715 : decode cL_law 715 = .ok (.iload 5, 2) := by decide +kernel
theorem dL_law_717 : decode cL_law 717 = .ok (.if_icmp .eq 5, 3) := by decide +kernel
theorem dL_law_720 : decode cL_law 720 = .ok (.iconst 0, 1) := by decide +kernel
theorem dL_law_721 : decode cL_law 721 = .ok (.ireturn, 1) := by decide +kernel
theorem dL_law_722 : decode cL_law 722 = .ok (.iload 5, 2) := by decide +kernel
theorem dL_law_724 : decode cL_law 724 = .ok (.ifCond .ne 14, 3) := by decide +kernel
theorem dL_law_727 : decode cL_law 727 = .ok (.aload_n 3, 1) := by decide +kernel
theorem dL_law_728 : decode cL_law 728 = .ok (.iconst 0, 1) := by decide +kernel
theorem dL_law_729 : decode cL_law 729 = .ok (.laload, 1) := by decide +kernel
theorem dL_law_730 : decode cL_law 730 = .ok (.lload 6, 2) := by decide +kernel
theorem dL_law_732 : decode cL_law 732 = .ok (.lcmp, 1) := by decide +kernel
theorem dL_law_733 : decode cL_law 733 = .ok (.ifCond .eq 5, 3) := by decide +kernel
theorem dL_law_736 : decode cL_law 736 = .ok (.iconst 0, 1) := by decide +kernel
theorem dL_law_737 : decode cL_law 737 = .ok (.ireturn, 1) := by decide +kernel
theorem dL_law_738 : decode cL_law 738 = .ok (.goto 565, 3) := by decide +kernel
theorem dL_law_741 : decode cL_law 741 = .ok (.aload_n 1, 1) := by decide +kernel
theorem dL_law_742 : decode cL_law 742 = .ok (.aload_n 0, 1) := by decide +kernel
theorem dL_law_743 : decode cL_law 743 = .ok (.iload 4, 2) := by decide +kernel
theorem dL_law_745 : decode cL_law 745 = .ok (.iconst 1, 1) := by decide +kernel
theorem dL_law_746 : decode cL_law 746 = .ok (.iadd, 1) := by decide +kernel
theorem dL_law_747 : decode cL_law 747 = .ok (.iaload, 1) := by decide +kernel
theorem dL_law_748 : decode cL_law 748 = .ok (.aload_n 3, 1) := by decide +kernel
theorem dL_law_749 : decode cL_law 749 = .ok (.invokestatic 135, 3) := by decide +kernel
theorem dL_law_752 : decode cL_law 752 = .ok (.istore 5, 2) := by decide +kernel
theorem dL_law_754 : decode cL_law 754 = .ok (.aload_n 2, 1) := by decide +kernel
theorem dL_law_755 : decode cL_law 755 = .ok (.aload_n 0, 1) := by decide +kernel
theorem dL_law_756 : decode cL_law 756 = .ok (.iload 4, 2) := by decide +kernel
theorem dL_law_758 : decode cL_law 758 = .ok (.iconst 1, 1) := by decide +kernel
theorem dL_law_759 : decode cL_law 759 = .ok (.iadd, 1) := by decide +kernel
theorem dL_law_760 : decode cL_law 760 = .ok (.iaload, 1) := by decide +kernel
theorem dL_law_761 : decode cL_law 761 = .ok (.invokevirtual 137, 3) := by decide +kernel
theorem dL_law_764 : decode cL_law 764 = .ok (.istore 6, 2) := by decide +kernel
theorem dL_law_766 : decode cL_law 766 = .ok (.aload_n 2, 1) := by decide +kernel
theorem dL_law_767 : decode cL_law 767 = .ok (.invokevirtual 83, 3) := by decide +kernel
theorem dL_law_770 : decode cL_law 770 = .ok (.iload 5, 2) := by decide +kernel
theorem dL_law_772 : decode cL_law 772 = .ok (.if_icmp .eq 5, 3) := by decide +kernel
theorem dL_law_775 : decode cL_law 775 = .ok (.iconst 0, 1) := by decide +kernel
theorem dL_law_776 : decode cL_law 776 = .ok (.ireturn, 1) := by decide +kernel
theorem dL_law_777 : decode cL_law 777 = .ok (.iload 5, 2) := by decide +kernel
theorem dL_law_779 : decode cL_law 779 = .ok (.ifCond .ne 15, 3) := by decide +kernel
theorem dL_law_782 : decode cL_law 782 = .ok (.aload_n 3, 1) := by decide +kernel
theorem dL_law_783 : decode cL_law 783 = .ok (.iconst 0, 1) := by decide +kernel
theorem dL_law_784 : decode cL_law 784 = .ok (.laload, 1) := by decide +kernel
theorem dL_law_785 : decode cL_law 785 = .ok (.iload 6, 2) := by decide +kernel
theorem dL_law_787 : decode cL_law 787 = .ok (.i2l, 1) := by decide +kernel
theorem dL_law_788 : decode cL_law 788 = .ok (.lcmp, 1) := by decide +kernel
theorem dL_law_789 : decode cL_law 789 = .ok (.ifCond .eq 5, 3) := by decide +kernel
theorem dL_law_792 : decode cL_law 792 = .ok (.iconst 0, 1) := by decide +kernel
theorem dL_law_793 : decode cL_law 793 = .ok (.ireturn, 1) := by decide +kernel
theorem dL_law_794 : decode cL_law 794 = .ok (.goto 509, 3) := by decide +kernel
theorem dL_law_797 : decode cL_law 797 = .ok (.aload_n 1, 1) := by decide +kernel
theorem dL_law_798 : decode cL_law 798 = .ok (.invokevirtual 138, 3) := by decide +kernel
theorem dL_law_801 : decode cL_law 801 = .ok (.aload_n 2, 1) := by decide +kernel
theorem dL_law_802 : decode cL_law 802 = .ok (.invokevirtual 141, 3) := by decide +kernel
theorem dL_law_805 : decode cL_law 805 = .ok (.if_icmp .eq 498, 3) := by decide +kernel
theorem dL_law_808 : decode cL_law 808 = .ok (.iconst 0, 1) := by decide +kernel
theorem dL_law_809 : decode cL_law 809 = .ok (.ireturn, 1) := by decide +kernel
theorem dL_law_810 : decode cL_law 810 = .ok (.aload_n 1, 1) := by decide +kernel
theorem dL_law_811 : decode cL_law 811 = .ok (.aload_n 0, 1) := by decide +kernel
theorem dL_law_812 : decode cL_law 812 = .ok (.iload 4, 2) := by decide +kernel
theorem dL_law_814 : decode cL_law 814 = .ok (.iconst 1, 1) := by decide +kernel
theorem dL_law_815 : decode cL_law 815 = .ok (.iadd, 1) := by decide +kernel
theorem dL_law_816 : decode cL_law 816 = .ok (.iaload, 1) := by decide +kernel
theorem dL_law_817 : decode cL_law 817 = .ok (.aload_n 3, 1) := by decide +kernel
theorem dL_law_818 : decode cL_law 818 = .ok (.invokestatic 142, 3) := by decide +kernel
theorem dL_law_821 : decode cL_law 821 = .ok (.istore 5, 2) := by decide +kernel
theorem dL_law_823 : decode cL_law 823 = .ok (.aload_n 2, 1) := by decide +kernel
theorem dL_law_824 : decode cL_law 824 = .ok (.aload_n 0, 1) := by decide +kernel
theorem dL_law_825 : decode cL_law 825 = .ok (.iload 4, 2) := by decide +kernel
theorem dL_law_827 : decode cL_law 827 = .ok (.iconst 1, 1) := by decide +kernel
theorem dL_law_828 : decode cL_law 828 = .ok (.iadd, 1) := by decide +kernel
theorem dL_law_829 : decode cL_law 829 = .ok (.iaload, 1) := by decide +kernel
theorem dL_law_830 : decode cL_law 830 = .ok (.invokevirtual 144, 3) := by decide +kernel
theorem dL_law_833 : decode cL_law 833 = .ok (.istore 6, 2) := by decide +kernel
theorem dL_law_835 : decode cL_law 835 = .ok (.aload_n 2, 1) := by decide +kernel
theorem dL_law_836 : decode cL_law 836 = .ok (.invokevirtual 83, 3) := by decide +kernel
theorem dL_law_839 : decode cL_law 839 = .ok (.iload 5, 2) := by decide +kernel
theorem dL_law_841 : decode cL_law 841 = .ok (.if_icmp .eq 5, 3) := by decide +kernel
theorem dL_law_844 : decode cL_law 844 = .ok (.iconst 0, 1) := by decide +kernel
theorem dL_law_845 : decode cL_law 845 = .ok (.ireturn, 1) := by decide +kernel
theorem dL_law_846 : decode cL_law 846 = .ok (.iload 5, 2) := by decide +kernel
theorem dL_law_848 : decode cL_law 848 = .ok (.ifCond .ne 15, 3) := by decide +kernel
theorem dL_law_851 : decode cL_law 851 = .ok (.aload_n 3, 1) := by decide +kernel
theorem dL_law_852 : decode cL_law 852 = .ok (.iconst 0, 1) := by decide +kernel
theorem dL_law_853 : decode cL_law 853 = .ok (.laload, 1) := by decide +kernel
theorem dL_law_854 : decode cL_law 854 = .ok (.iload 6, 2) := by decide +kernel
theorem dL_law_856 : decode cL_law 856 = .ok (.i2l, 1) := by decide +kernel
theorem dL_law_857 : decode cL_law 857 = .ok (.lcmp, 1) := by decide +kernel
theorem dL_law_858 : decode cL_law 858 = .ok (.ifCond .eq 5, 3) := by decide +kernel
theorem dL_law_861 : decode cL_law 861 = .ok (.iconst 0, 1) := by decide +kernel
theorem dL_law_862 : decode cL_law 862 = .ok (.ireturn, 1) := by decide +kernel
theorem dL_law_863 : decode cL_law 863 = .ok (.goto 440, 3) := by decide +kernel
theorem dL_law_866 : decode cL_law 866 = .ok (.aload_n 1, 1) := by decide +kernel
theorem dL_law_867 : decode cL_law 867 = .ok (.aload_n 0, 1) := by decide +kernel
theorem dL_law_868 : decode cL_law 868 = .ok (.iload 4, 2) := by decide +kernel
theorem dL_law_870 : decode cL_law 870 = .ok (.iconst 1, 1) := by decide +kernel
theorem dL_law_871 : decode cL_law 871 = .ok (.iadd, 1) := by decide +kernel
theorem dL_law_872 : decode cL_law 872 = .ok (.iaload, 1) := by decide +kernel
theorem dL_law_873 : decode cL_law 873 = .ok (.aload_n 3, 1) := by decide +kernel
theorem dL_law_874 : decode cL_law 874 = .ok (.invokestatic 145, 3) := by decide +kernel
theorem dL_law_877 : decode cL_law 877 = .ok (.istore 5, 2) := by decide +kernel
theorem dL_law_879 : decode cL_law 879 = .ok (.aload_n 2, 1) := by decide +kernel
theorem dL_law_880 : decode cL_law 880 = .ok (.aload_n 0, 1) := by decide +kernel
theorem dL_law_881 : decode cL_law 881 = .ok (.iload 4, 2) := by decide +kernel
theorem dL_law_883 : decode cL_law 883 = .ok (.iconst 1, 1) := by decide +kernel
theorem dL_law_884 : decode cL_law 884 = .ok (.iadd, 1) := by decide +kernel
theorem dL_law_885 : decode cL_law 885 = .ok (.iaload, 1) := by decide +kernel
theorem dL_law_886 : decode cL_law 886 = .ok (.invokevirtual 147, 3) := by decide +kernel
theorem dL_law_889 : decode cL_law 889 = .ok (.istore 6, 2) := by decide +kernel
theorem dL_law_891 : decode cL_law 891 = .ok (.aload_n 2, 1) := by decide +kernel
theorem dL_law_892 : decode cL_law 892 = .ok (.invokevirtual 83, 3) := by decide +kernel
theorem dL_law_895 : decode cL_law 895 = .ok (.iload 5, 2) := by decide +kernel
theorem dL_law_897 : decode cL_law 897 = .ok (.if_icmp .eq 5, 3) := by decide +kernel
theorem dL_law_900 : decode cL_law 900 = .ok (.iconst 0, 1) := by decide +kernel
theorem dL_law_901 : decode cL_law 901 = .ok (.ireturn, 1) := by decide +kernel
theorem dL_law_902 : decode cL_law 902 = .ok (.iload 5, 2) := by decide +kernel
theorem dL_law_904 : decode cL_law 904 = .ok (.ifCond .ne 22, 3) := by decide +kernel
theorem dL_law_907 : decode cL_law 907 = .ok (.aload_n 3, 1) := by decide +kernel
theorem dL_law_908 : decode cL_law 908 = .ok (.iconst 0, 1) := by decide +kernel
theorem dL_law_909 : decode cL_law 909 = .ok (.laload, 1) := by decide +kernel
theorem dL_law_910 : decode cL_law 910 = .ok (.iload 6, 2) := by decide +kernel
theorem dL_law_912 : decode cL_law 912 = .ok (.ifCond .eq 7, 3) := by decide +kernel
theorem dL_law_915 : decode cL_law 915 = .ok (.lconst 1, 1) := by decide +kernel
theorem dL_law_916 : decode cL_law 916 = .ok (.goto 4, 3) := by decide +kernel
theorem dL_law_919 : decode cL_law 919 = .ok (.lconst 0, 1) := by decide +kernel
theorem dL_law_920 : decode cL_law 920 = .ok (.lcmp, 1) := by decide +kernel
theorem dL_law_921 : decode cL_law 921 = .ok (.ifCond .eq 5, 3) := by decide +kernel
theorem dL_law_924 : decode cL_law 924 = .ok (.iconst 0, 1) := by decide +kernel
theorem dL_law_925 : decode cL_law 925 = .ok (.ireturn, 1) := by decide +kernel
theorem dL_law_926 : decode cL_law 926 = .ok (.goto 377, 3) := by decide +kernel
theorem dL_law_929 : decode cL_law 929 = .ok (.aload_n 1, 1) := by decide +kernel
theorem dL_law_930 : decode cL_law 930 = .ok (.invokevirtual 148, 3) := by decide +kernel
theorem dL_law_933 : decode cL_law 933 = .ok (.aload_n 2, 1) := by decide +kernel
theorem dL_law_934 : decode cL_law 934 = .ok (.invokevirtual 151, 3) := by decide +kernel
theorem dL_law_937 : decode cL_law 937 = .ok (.if_icmp .eq 366, 3) := by decide +kernel
theorem dL_law_940 : decode cL_law 940 = .ok (.iconst 0, 1) := by decide +kernel
theorem dL_law_941 : decode cL_law 941 = .ok (.ireturn, 1) := by decide +kernel
theorem dL_law_942 : decode cL_law 942 = .ok (.aload_n 1, 1) := by decide +kernel
theorem dL_law_943 : decode cL_law 943 = .ok (.aload_n 0, 1) := by decide +kernel
theorem dL_law_944 : decode cL_law 944 = .ok (.iload 4, 2) := by decide +kernel
theorem dL_law_946 : decode cL_law 946 = .ok (.iconst 1, 1) := by decide +kernel
theorem dL_law_947 : decode cL_law 947 = .ok (.iadd, 1) := by decide +kernel
theorem dL_law_948 : decode cL_law 948 = .ok (.iaload, 1) := by decide +kernel
theorem dL_law_949 : decode cL_law 949 = .ok (.aload_n 3, 1) := by decide +kernel
theorem dL_law_950 : decode cL_law 950 = .ok (.invokestatic 152, 3) := by decide +kernel
theorem dL_law_953 : decode cL_law 953 = .ok (.istore 5, 2) := by decide +kernel
theorem dL_law_955 : decode cL_law 955 = .ok (.aload_n 2, 1) := by decide +kernel
theorem dL_law_956 : decode cL_law 956 = .ok (.aload_n 0, 1) := by decide +kernel
theorem dL_law_957 : decode cL_law 957 = .ok (.iload 4, 2) := by decide +kernel
theorem dL_law_959 : decode cL_law 959 = .ok (.iconst 1, 1) := by decide +kernel
theorem dL_law_960 : decode cL_law 960 = .ok (.iadd, 1) := by decide +kernel
theorem dL_law_961 : decode cL_law 961 = .ok (.iaload, 1) := by decide +kernel
theorem dL_law_962 : decode cL_law 962 = .ok (.invokevirtual 154, 3) := by decide +kernel
theorem dL_law_965 : decode cL_law 965 = .ok (.istore 6, 2) := by decide +kernel
theorem dL_law_967 : decode cL_law 967 = .ok (.aload_n 2, 1) := by decide +kernel
theorem dL_law_968 : decode cL_law 968 = .ok (.invokevirtual 83, 3) := by decide +kernel
theorem dL_law_971 : decode cL_law 971 = .ok (.iload 5, 2) := by decide +kernel
theorem dL_law_973 : decode cL_law 973 = .ok (.if_icmp .eq 5, 3) := by decide +kernel
theorem dL_law_976 : decode cL_law 976 = .ok (.iconst 0, 1) := by decide +kernel
theorem dL_law_977 : decode cL_law 977 = .ok (.ireturn, 1) := by decide +kernel
theorem dL_law_978 : decode cL_law 978 = .ok (.iload 5, 2) := by decide +kernel
theorem dL_law_980 : decode cL_law 980 = .ok (.ifCond .ne 15, 3) := by decide +kernel
theorem dL_law_983 : decode cL_law 983 = .ok (.aload_n 3, 1) := by decide +kernel
theorem dL_law_984 : decode cL_law 984 = .ok (.iconst 0, 1) := by decide +kernel
theorem dL_law_985 : decode cL_law 985 = .ok (.laload, 1) := by decide +kernel
theorem dL_law_986 : decode cL_law 986 = .ok (.iload 6, 2) := by decide +kernel
theorem dL_law_988 : decode cL_law 988 = .ok (.i2l, 1) := by decide +kernel
theorem dL_law_989 : decode cL_law 989 = .ok (.lcmp, 1) := by decide +kernel
theorem dL_law_990 : decode cL_law 990 = .ok (.ifCond .eq 5, 3) := by decide +kernel
theorem dL_law_993 : decode cL_law 993 = .ok (.iconst 0, 1) := by decide +kernel
theorem dL_law_994 : decode cL_law 994 = .ok (.ireturn, 1) := by decide +kernel
theorem dL_law_995 : decode cL_law 995 = .ok (.goto 308, 3) := by decide +kernel
theorem dL_law_998 : decode cL_law 998 = .ok (.aload_n 1, 1) := by decide +kernel
theorem dL_law_999 : decode cL_law 999 = .ok (.aload_n 0, 1) := by decide +kernel
theorem dL_law_1000 : decode cL_law 1000 = .ok (.iload 4, 2) := by decide +kernel
theorem dL_law_1002 : decode cL_law 1002 = .ok (.iconst 1, 1) := by decide +kernel
theorem dL_law_1003 : decode cL_law 1003 = .ok (.iadd, 1) := by decide +kernel
theorem dL_law_1004 : decode cL_law 1004 = .ok (.iaload, 1) := by decide +kernel
theorem dL_law_1005 : decode cL_law 1005 = .ok (.aload_n 3, 1) := by decide +kernel
theorem dL_law_1006 : decode cL_law 1006 = .ok (.invokestatic 155, 3) := by decide +kernel
theorem dL_law_1009 : decode cL_law 1009 = .ok (.istore 5, 2) := by decide +kernel
theorem dL_law_1011 : decode cL_law 1011 = .ok (.aload_n 2, 1) := by decide +kernel
theorem dL_law_1012 : decode cL_law 1012 = .ok (.aload_n 0, 1) := by decide +kernel
theorem dL_law_1013 : decode cL_law 1013 = .ok (.iload 4, 2) := by decide +kernel
theorem dL_law_1015 : decode cL_law 1015 = .ok (.iconst 1, 1) := by decide +kernel
theorem dL_law_1016 : decode cL_law 1016 = .ok (.iadd, 1) := by decide +kernel
theorem dL_law_1017 : decode cL_law 1017 = .ok (.iaload, 1) := by decide +kernel
theorem dL_law_1018 : decode cL_law 1018 = .ok (.invokevirtual 157, 3) := by decide +kernel
theorem dL_law_1021 : decode cL_law 1021 = .ok (.istore 6, 2) := by decide +kernel
theorem dL_law_1023 : decode cL_law 1023 = .ok (.aload_n 2, 1) := by decide +kernel
theorem dL_law_1024 : decode cL_law 1024 = .ok (.invokevirtual 83, 3) := by decide +kernel
theorem dL_law_1027 : decode cL_law 1027 = .ok (.iload 5, 2) := by decide +kernel
theorem dL_law_1029 : decode cL_law 1029 = .ok (.if_icmp .eq 5, 3) := by decide +kernel
theorem dL_law_1032 : decode cL_law 1032 = .ok (.iconst 0, 1) := by decide +kernel
theorem dL_law_1033 : decode cL_law 1033 = .ok (.ireturn, 1) := by decide +kernel
theorem dL_law_1034 : decode cL_law 1034 = .ok (.iload 5, 2) := by decide +kernel
theorem dL_law_1036 : decode cL_law 1036 = .ok (.ifCond .ne 15, 3) := by decide +kernel
theorem dL_law_1039 : decode cL_law 1039 = .ok (.aload_n 3, 1) := by decide +kernel
theorem dL_law_1040 : decode cL_law 1040 = .ok (.iconst 0, 1) := by decide +kernel
theorem dL_law_1041 : decode cL_law 1041 = .ok (.laload, 1) := by decide +kernel
theorem dL_law_1042 : decode cL_law 1042 = .ok (.iload 6, 2) := by decide +kernel
theorem dL_law_1044 : decode cL_law 1044 = .ok (.i2l, 1) := by decide +kernel
theorem dL_law_1045 : decode cL_law 1045 = .ok (.lcmp, 1) := by decide +kernel
theorem dL_law_1046 : decode cL_law 1046 = .ok (.ifCond .eq 5, 3) := by decide +kernel
theorem dL_law_1049 : decode cL_law 1049 = .ok (.iconst 0, 1) := by decide +kernel
theorem dL_law_1050 : decode cL_law 1050 = .ok (.ireturn, 1) := by decide +kernel
theorem dL_law_1051 : decode cL_law 1051 = .ok (.goto 252, 3) := by decide +kernel
theorem dL_law_1054 : decode cL_law 1054 = .ok (.aload_n 1, 1) := by decide +kernel
theorem dL_law_1055 : decode cL_law 1055 = .ok (.aload_n 0, 1) := by decide +kernel
theorem dL_law_1056 : decode cL_law 1056 = .ok (.iload 4, 2) := by decide +kernel
theorem dL_law_1058 : decode cL_law 1058 = .ok (.iconst 1, 1) := by decide +kernel
theorem dL_law_1059 : decode cL_law 1059 = .ok (.iadd, 1) := by decide +kernel
theorem dL_law_1060 : decode cL_law 1060 = .ok (.iaload, 1) := by decide +kernel
theorem dL_law_1061 : decode cL_law 1061 = .ok (.aload_n 3, 1) := by decide +kernel
theorem dL_law_1062 : decode cL_law 1062 = .ok (.invokestatic 158, 3) := by decide +kernel
theorem dL_law_1065 : decode cL_law 1065 = .ok (.istore 5, 2) := by decide +kernel
theorem dL_law_1067 : decode cL_law 1067 = .ok (.aload_n 2, 1) := by decide +kernel
theorem dL_law_1068 : decode cL_law 1068 = .ok (.aload_n 0, 1) := by decide +kernel
theorem dL_law_1069 : decode cL_law 1069 = .ok (.iload 4, 2) := by decide +kernel
theorem dL_law_1071 : decode cL_law 1071 = .ok (.iconst 1, 1) := by decide +kernel
theorem dL_law_1072 : decode cL_law 1072 = .ok (.iadd, 1) := by decide +kernel
theorem dL_law_1073 : decode cL_law 1073 = .ok (.iaload, 1) := by decide +kernel
theorem dL_law_1074 : decode cL_law 1074 = .ok (.invokevirtual 160, 3) := by decide +kernel
theorem dL_law_1077 : decode cL_law 1077 = .ok (.istore 6, 2) := by decide +kernel
theorem dL_law_1079 : decode cL_law 1079 = .ok (.aload_n 2, 1) := by decide +kernel
theorem dL_law_1080 : decode cL_law 1080 = .ok (.invokevirtual 83, 3) := by decide +kernel
theorem dL_law_1083 : decode cL_law 1083 = .ok (.iload 5, 2) := by decide +kernel
theorem dL_law_1085 : decode cL_law 1085 = .ok (.if_icmp .eq 5, 3) := by decide +kernel
theorem dL_law_1088 : decode cL_law 1088 = .ok (.iconst 0, 1) := by decide +kernel
theorem dL_law_1089 : decode cL_law 1089 = .ok (.ireturn, 1) := by decide +kernel
theorem dL_law_1090 : decode cL_law 1090 = .ok (.iload 5, 2) := by decide +kernel
theorem dL_law_1092 : decode cL_law 1092 = .ok (.ifCond .ne 15, 3) := by decide +kernel
theorem dL_law_1095 : decode cL_law 1095 = .ok (.aload_n 3, 1) := by decide +kernel
theorem dL_law_1096 : decode cL_law 1096 = .ok (.iconst 0, 1) := by decide +kernel
theorem dL_law_1097 : decode cL_law 1097 = .ok (.laload, 1) := by decide +kernel
theorem dL_law_1098 : decode cL_law 1098 = .ok (.iload 6, 2) := by decide +kernel
theorem dL_law_1100 : decode cL_law 1100 = .ok (.i2l, 1) := by decide +kernel
theorem dL_law_1101 : decode cL_law 1101 = .ok (.lcmp, 1) := by decide +kernel
theorem dL_law_1102 : decode cL_law 1102 = .ok (.ifCond .eq 5, 3) := by decide +kernel
theorem dL_law_1105 : decode cL_law 1105 = .ok (.iconst 0, 1) := by decide +kernel
theorem dL_law_1106 : decode cL_law 1106 = .ok (.ireturn, 1) := by decide +kernel
theorem dL_law_1107 : decode cL_law 1107 = .ok (.goto 196, 3) := by decide +kernel
theorem dL_law_1110 : decode cL_law 1110 = .ok (.aload_n 1, 1) := by decide +kernel
theorem dL_law_1111 : decode cL_law 1111 = .ok (.aload_n 0, 1) := by decide +kernel
theorem dL_law_1112 : decode cL_law 1112 = .ok (.iload 4, 2) := by decide +kernel
theorem dL_law_1114 : decode cL_law 1114 = .ok (.iconst 1, 1) := by decide +kernel
theorem dL_law_1115 : decode cL_law 1115 = .ok (.iadd, 1) := by decide +kernel
theorem dL_law_1116 : decode cL_law 1116 = .ok (.iaload, 1) := by decide +kernel
theorem dL_law_1117 : decode cL_law 1117 = .ok (.aload_n 3, 1) := by decide +kernel
theorem dL_law_1118 : decode cL_law 1118 = .ok (.invokestatic 161, 3) := by decide +kernel
theorem dL_law_1121 : decode cL_law 1121 = .ok (.istore 5, 2) := by decide +kernel
theorem dL_law_1123 : decode cL_law 1123 = .ok (.aload_n 2, 1) := by decide +kernel
theorem dL_law_1124 : decode cL_law 1124 = .ok (.aload_n 0, 1) := by decide +kernel
theorem dL_law_1125 : decode cL_law 1125 = .ok (.iload 4, 2) := by decide +kernel
theorem dL_law_1127 : decode cL_law 1127 = .ok (.iconst 1, 1) := by decide +kernel
theorem dL_law_1128 : decode cL_law 1128 = .ok (.iadd, 1) := by decide +kernel
theorem dL_law_1129 : decode cL_law 1129 = .ok (.iaload, 1) := by decide +kernel
theorem dL_law_1130 : decode cL_law 1130 = .ok (.invokevirtual 163, 3) := by decide +kernel
theorem dL_law_1133 : decode cL_law 1133 = .ok (.istore 6, 2) := by decide +kernel
theorem dL_law_1135 : decode cL_law 1135 = .ok (.aload_n 2, 1) := by decide +kernel
theorem dL_law_1136 : decode cL_law 1136 = .ok (.invokevirtual 83, 3) := by decide +kernel
theorem dL_law_1139 : decode cL_law 1139 = .ok (.iload 5, 2) := by decide +kernel
theorem dL_law_1141 : decode cL_law 1141 = .ok (.if_icmp .eq 5, 3) := by decide +kernel
theorem dL_law_1144 : decode cL_law 1144 = .ok (.iconst 0, 1) := by decide +kernel
theorem dL_law_1145 : decode cL_law 1145 = .ok (.ireturn, 1) := by decide +kernel
theorem dL_law_1146 : decode cL_law 1146 = .ok (.iload 5, 2) := by decide +kernel
theorem dL_law_1148 : decode cL_law 1148 = .ok (.ifCond .ne 15, 3) := by decide +kernel
theorem dL_law_1151 : decode cL_law 1151 = .ok (.aload_n 3, 1) := by decide +kernel
theorem dL_law_1152 : decode cL_law 1152 = .ok (.iconst 0, 1) := by decide +kernel
theorem dL_law_1153 : decode cL_law 1153 = .ok (.laload, 1) := by decide +kernel
theorem dL_law_1154 : decode cL_law 1154 = .ok (.iload 6, 2) := by decide +kernel
theorem dL_law_1156 : decode cL_law 1156 = .ok (.i2l, 1) := by decide +kernel
theorem dL_law_1157 : decode cL_law 1157 = .ok (.lcmp, 1) := by decide +kernel
theorem dL_law_1158 : decode cL_law 1158 = .ok (.ifCond .eq 5, 3) := by decide +kernel
theorem dL_law_1161 : decode cL_law 1161 = .ok (.iconst 0, 1) := by decide +kernel
theorem dL_law_1162 : decode cL_law 1162 = .ok (.ireturn, 1) := by decide +kernel
theorem dL_law_1163 : decode cL_law 1163 = .ok (.goto 140, 3) := by decide +kernel
theorem dL_law_1166 : decode cL_law 1166 = .ok (.aload_n 1, 1) := by decide +kernel
theorem dL_law_1167 : decode cL_law 1167 = .ok (.aload_n 0, 1) := by decide +kernel
theorem dL_law_1168 : decode cL_law 1168 = .ok (.iload 4, 2) := by decide +kernel
theorem dL_law_1170 : decode cL_law 1170 = .ok (.iconst 1, 1) := by decide +kernel
theorem dL_law_1171 : decode cL_law 1171 = .ok (.iadd, 1) := by decide +kernel
theorem dL_law_1172 : decode cL_law 1172 = .ok (.iaload, 1) := by decide +kernel
theorem dL_law_1173 : decode cL_law 1173 = .ok (.aload_n 3, 1) := by decide +kernel
theorem dL_law_1174 : decode cL_law 1174 = .ok (.invokestatic 164, 3) := by decide +kernel
theorem dL_law_1177 : decode cL_law 1177 = .ok (.istore 5, 2) := by decide +kernel
theorem dL_law_1179 : decode cL_law 1179 = .ok (.aload_n 2, 1) := by decide +kernel
theorem dL_law_1180 : decode cL_law 1180 = .ok (.aload_n 0, 1) := by decide +kernel
theorem dL_law_1181 : decode cL_law 1181 = .ok (.iload 4, 2) := by decide +kernel
theorem dL_law_1183 : decode cL_law 1183 = .ok (.iconst 1, 1) := by decide +kernel
theorem dL_law_1184 : decode cL_law 1184 = .ok (.iadd, 1) := by decide +kernel
theorem dL_law_1185 : decode cL_law 1185 = .ok (.iaload, 1) := by decide +kernel
theorem dL_law_1186 : decode cL_law 1186 = .ok (.invokevirtual 166, 3) := by decide +kernel
theorem dL_law_1189 : decode cL_law 1189 = .ok (.istore 6, 2) := by decide +kernel
theorem dL_law_1191 : decode cL_law 1191 = .ok (.aload_n 2, 1) := by decide +kernel
theorem dL_law_1192 : decode cL_law 1192 = .ok (.invokevirtual 83, 3) := by decide +kernel
theorem dL_law_1195 : decode cL_law 1195 = .ok (.iload 5, 2) := by decide +kernel
theorem dL_law_1197 : decode cL_law 1197 = .ok (.if_icmp .eq 5, 3) := by decide +kernel
theorem dL_law_1200 : decode cL_law 1200 = .ok (.iconst 0, 1) := by decide +kernel
theorem dL_law_1201 : decode cL_law 1201 = .ok (.ireturn, 1) := by decide +kernel
theorem dL_law_1202 : decode cL_law 1202 = .ok (.iload 5, 2) := by decide +kernel
theorem dL_law_1204 : decode cL_law 1204 = .ok (.ifCond .ne 15, 3) := by decide +kernel
theorem dL_law_1207 : decode cL_law 1207 = .ok (.aload_n 3, 1) := by decide +kernel
theorem dL_law_1208 : decode cL_law 1208 = .ok (.iconst 0, 1) := by decide +kernel
theorem dL_law_1209 : decode cL_law 1209 = .ok (.laload, 1) := by decide +kernel
theorem dL_law_1210 : decode cL_law 1210 = .ok (.iload 6, 2) := by decide +kernel
theorem dL_law_1212 : decode cL_law 1212 = .ok (.i2l, 1) := by decide +kernel
theorem dL_law_1213 : decode cL_law 1213 = .ok (.lcmp, 1) := by decide +kernel
theorem dL_law_1214 : decode cL_law 1214 = .ok (.ifCond .eq 5, 3) := by decide +kernel
theorem dL_law_1217 : decode cL_law 1217 = .ok (.iconst 0, 1) := by decide +kernel
theorem dL_law_1218 : decode cL_law 1218 = .ok (.ireturn, 1) := by decide +kernel
theorem dL_law_1219 : decode cL_law 1219 = .ok (.goto 84, 3) := by decide +kernel
theorem dL_law_1222 : decode cL_law 1222 = .ok (.aload_n 1, 1) := by decide +kernel
theorem dL_law_1223 : decode cL_law 1223 = .ok (.invokevirtual 167, 3) := by decide +kernel
theorem dL_law_1226 : decode cL_law 1226 = .ok (.aload_n 2, 1) := by decide +kernel
theorem dL_law_1227 : decode cL_law 1227 = .ok (.invokevirtual 170, 3) := by decide +kernel
theorem dL_law_1230 : decode cL_law 1230 = .ok (.if_icmp .eq 73, 3) := by decide +kernel
theorem dL_law_1233 : decode cL_law 1233 = .ok (.iconst 0, 1) := by decide +kernel
theorem dL_law_1234 : decode cL_law 1234 = .ok (.ireturn, 1) := by decide +kernel
theorem dL_law_1235 : decode cL_law 1235 = .ok (.aload_n 1, 1) := by decide +kernel
theorem dL_law_1236 : decode cL_law 1236 = .ok (.aload_n 0, 1) := by decide +kernel
theorem dL_law_1237 : decode cL_law 1237 = .ok (.iload 4, 2) := by decide +kernel
theorem dL_law_1239 : decode cL_law 1239 = .ok (.iconst 1, 1) := by decide +kernel
theorem dL_law_1240 : decode cL_law 1240 = .ok (.iadd, 1) := by decide +kernel
theorem dL_law_1241 : decode cL_law 1241 = .ok (.iaload, 1) := by decide +kernel
theorem dL_law_1242 : decode cL_law 1242 = .ok (.aload_n 0, 1) := by decide +kernel
theorem dL_law_1243 : decode cL_law 1243 = .ok (.iload 4, 2) := by decide +kernel
theorem dL_law_1245 : decode cL_law 1245 = .ok (.iconst 2, 1) := by decide +kernel
theorem dL_law_1246 : decode cL_law 1246 = .ok (.iadd, 1) := by decide +kernel
theorem dL_law_1247 : decode cL_law 1247 = .ok (.iaload, 1) := by decide +kernel
theorem dL_law_1248 : decode cL_law 1248 = .ok (.aload_n 3, 1) := by decide +kernel
theorem dL_law_1249 : decode cL_law 1249 = .ok (.invokestatic 171, 3) := by decide +kernel
theorem dL_law_1252 : decode cL_law 1252 = .ok (.istore 5, 2) := by decide +kernel
theorem dL_law_1254 : decode cL_law 1254 = .ok (.aload_n 2, 1) := by decide +kernel
theorem dL_law_1255 : decode cL_law 1255 = .ok (.aload_n 0, 1) := by decide +kernel
theorem dL_law_1256 : decode cL_law 1256 = .ok (.iload 4, 2) := by decide +kernel
theorem dL_law_1258 : decode cL_law 1258 = .ok (.iconst 1, 1) := by decide +kernel
theorem dL_law_1259 : decode cL_law 1259 = .ok (.iadd, 1) := by decide +kernel
theorem dL_law_1260 : decode cL_law 1260 = .ok (.iaload, 1) := by decide +kernel
theorem dL_law_1261 : decode cL_law 1261 = .ok (.aload_n 0, 1) := by decide +kernel
theorem dL_law_1262 : decode cL_law 1262 = .ok (.iload 4, 2) := by decide +kernel
theorem dL_law_1264 : decode cL_law 1264 = .ok (.iconst 2, 1) := by decide +kernel
theorem dL_law_1265 : decode cL_law 1265 = .ok (.iadd, 1) := by decide +kernel
theorem dL_law_1266 : decode cL_law 1266 = .ok (.iaload, 1) := by decide +kernel
theorem dL_law_1267 : decode cL_law 1267 = .ok (.invokevirtual 174, 3) := by decide +kernel
theorem dL_law_1270 : decode cL_law 1270 = .ok (.istore 6, 2) := by decide +kernel
theorem dL_law_1272 : decode cL_law 1272 = .ok (.aload_n 2, 1) := by decide +kernel
theorem dL_law_1273 : decode cL_law 1273 = .ok (.invokevirtual 83, 3) := by decide +kernel
theorem dL_law_1276 : decode cL_law 1276 = .ok (.iload 5, 2) := by decide +kernel
theorem dL_law_1278 : decode cL_law 1278 = .ok (.if_icmp .eq 5, 3) := by decide +kernel
theorem dL_law_1281 : decode cL_law 1281 = .ok (.iconst 0, 1) := by decide +kernel
theorem dL_law_1282 : decode cL_law 1282 = .ok (.ireturn, 1) := by decide +kernel
theorem dL_law_1283 : decode cL_law 1283 = .ok (.iload 5, 2) := by decide +kernel
theorem dL_law_1285 : decode cL_law 1285 = .ok (.ifCond .ne 15, 3) := by decide +kernel
theorem dL_law_1288 : decode cL_law 1288 = .ok (.aload_n 3, 1) := by decide +kernel
theorem dL_law_1289 : decode cL_law 1289 = .ok (.iconst 0, 1) := by decide +kernel
theorem dL_law_1290 : decode cL_law 1290 = .ok (.laload, 1) := by decide +kernel
theorem dL_law_1291 : decode cL_law 1291 = .ok (.iload 6, 2) := by decide +kernel
theorem dL_law_1293 : decode cL_law 1293 = .ok (.i2l, 1) := by decide +kernel
theorem dL_law_1294 : decode cL_law 1294 = .ok (.lcmp, 1) := by decide +kernel
theorem dL_law_1295 : decode cL_law 1295 = .ok (.ifCond .eq 5, 3) := by decide +kernel
theorem dL_law_1298 : decode cL_law 1298 = .ok (.iconst 0, 1) := by decide +kernel
theorem dL_law_1299 : decode cL_law 1299 = .ok (.ireturn, 1) := by decide +kernel
theorem dL_law_1300 : decode cL_law 1300 = .ok (.goto 3, 3) := by decide +kernel
theorem dL_law_1303 : decode cL_law 1303 = .ok (.iinc 4 3, 3) := by decide +kernel
theorem dL_law_1306 : decode cL_law 1306 = .ok (.goto (-1283), 3) := by decide +kernel
theorem dL_law_1309 : decode cL_law 1309 = .ok (.iconst 1, 1) := by decide +kernel
theorem dL_law_1310 : decode cL_law 1310 = .ok (.ireturn, 1) := by decide +kernel
end
