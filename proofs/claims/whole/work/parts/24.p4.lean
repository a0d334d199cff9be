/-! what can be played -/
def inS (s c : Nat) : Bool := if s = 4 then decide (32 ≤ c) else decide (8 * s ≤ c ∧ c < 8 * s + 8)
theorem m4_tb : ∀ c, c < 64 → tb (-4294967296) c = decide (32 ≤ c) := by decide +kernel
theorem ms_tb : ∀ s, s < 4 → ∀ c, c < 64 → tb ((255 : Int64) <<< (((8 : Int32) * nI s).toInt64 &&& 63)) c = decide (8 * s ≤ c ∧ c < 8 * s + 8) := by decide +kernel
theorem su_in : ∀ s, s < 5 → ∀ c, c < 54 → inS s c = decide (su c = s) := by decide +kernel
theorem su_lt : ∀ c, c < 54 → su c < 5 := by decide +kernel
theorem tb_and (x y : Int64) (c : Nat) : tb (x &&& y) c = (tb x c && tb y c) := by
  simp [tb, Int64.toBitVec_and]
theorem e_cos {h : Int64} (hs : ∀ c, tb h c = true → c < 54) {s : Nat} (h5 : s < 5) : ∃ x, f_X6_cardsOfSuit h (nI s) = some x ∧ ∀ c, tb x c = true ↔ (tb h c = true ∧ su c = s) := by
  have key : ∀ mk : Int64, (∀ c, c < 64 → tb mk c = inS s c) → ∀ c, tb (h &&& mk) c = true ↔ (tb h c = true ∧ su c = s) := by
    intro mk hm c
    rw [tb_and, Bool.and_eq_true]
    constructor
    · intro ⟨h1, h2⟩
      have hc := hs c h1
      rw [hm c (by omega), su_in s h5 c hc] at h2
      exact ⟨h1, of_decide_eq_true h2⟩
    · intro ⟨h1, h2⟩
      have hc := hs c h1
      refine ⟨h1, ?_⟩
      rw [hm c (by omega), su_in s h5 c hc]
      exact decide_eq_true h2
  unfold f_X6_cardsOfSuit f_X6_cardsOfSuit_19
  by_cases q : s = 4
  · subst q
    rw [if_pos (show nI 4 = 4 from rfl)]
    exact ⟨_, rfl, key _ (fun c hc => by rw [m4_tb c hc]; rfl)⟩
  · rw [if_neg (show ¬ nI s = 4 from fun e => q ((nI_eq (by omega) (by decide)).mp e))]
    refine ⟨_, rfl, key _ (fun c hc => ?_)⟩
    rw [ms_tb s (by omega) c hc]
    unfold inS
    rw [if_neg q]
def Has (h : Int64) (s : Nat) : Prop := ∃ c, tb h c = true ∧ su c = s
theorem zero_iff (x : Int64) : lg_cmp x 0 = 0 ↔ ∀ c, ¬ tb x c = true := by
  rw [lg_cmp_eq]
  constructor
  · intro e c; rw [e, tb_zero]; decide
  · intro h
    apply tb_ext
    intro c _
    rw [tb_zero]
    exact Bool.eq_false_iff.mpr (h c)
theorem e_pof {h : Int64} (hs : ∀ c, tb h c = true → c < 54) {s : Nat} (h5 : s < 5) : ∃ x, f_X6_playableOf h (nI s) = some x ∧ (∀ c, tb x c = true ↔ (tb h c = true ∧ ((Has h s ∧ su c = s) ∨ (¬ Has h s ∧ (su c = 4 ∨ ¬ Has h 4))))) ∧ ((∃ c, tb h c = true) → ∃ c, tb x c = true) := by
  obtain ⟨x, e1, h1⟩ := e_cos hs h5
  obtain ⟨y, e2, h2⟩ := e_cos hs (show 4 < 5 by decide)
  have z1 : lg_cmp x 0 = 0 ↔ ¬ Has h s := by
    rw [zero_iff]
    exact ⟨fun q ⟨c, hc⟩ => q c ((h1 c).mpr hc), fun q c hc => q ⟨c, (h1 c).mp hc⟩⟩
  have z2 : lg_cmp y 0 = 0 ↔ ¬ Has h 4 := by
    rw [zero_iff]
    exact ⟨fun q ⟨c, hc⟩ => q c ((h2 c).mpr hc), fun q c hc => q ⟨c, (h2 c).mp hc⟩⟩
  unfold f_X6_playableOf
  rw [if_neg (nm1 (j := s) (by omega)), e1, b1s, show f_X6_cardsOfSuit h 4 = some y from e2, b1s]
  by_cases q1 : Has h s
  · rw [if_neg (fun e => z1.mp e q1)]
    refine ⟨x, rfl, fun c => ?_, fun _ => ?_⟩
    · rw [h1]
      exact ⟨fun ⟨a, b⟩ => ⟨a, Or.inl ⟨q1, b⟩⟩, fun ⟨a, b⟩ => ⟨a, b.elim (fun q => q.2) (fun q => absurd q1 q.1)⟩⟩
    · obtain ⟨c, hc⟩ := q1
      exact ⟨c, (h1 c).mpr hc⟩
  · rw [if_pos (z1.mpr q1)]
    by_cases q2 : Has h 4
    · rw [if_neg (fun e => z2.mp e q2)]
      refine ⟨y, rfl, fun c => ?_, fun _ => ?_⟩
      · rw [h2]
        exact ⟨fun ⟨a, b⟩ => ⟨a, Or.inr ⟨q1, Or.inl b⟩⟩, fun ⟨a, b⟩ => ⟨a, b.elim (fun q => absurd q.1 q1) (fun q => q.2.elim id (fun z => absurd q2 z))⟩⟩
      · obtain ⟨c, hc⟩ := q2
        exact ⟨c, (h2 c).mpr hc⟩
    · rw [if_pos (z2.mpr q2)]
      exact ⟨h, rfl, fun c => ⟨fun a => ⟨a, Or.inr ⟨q1, Or.inr q2⟩⟩, fun a => a.1⟩, fun a => a⟩
theorem L_hasSuit {h : Int64} {s : Nat} (h5 : s < 5) : ∀ (n c b : Nat), c ≤ 54 → 54 < c + n → b < 2 → ∃ r : Nat, r < 2 ∧ f_X7_hasSuit_5 n h (nI s) (nI b) (nI c) = some (nI r) ∧ (r = 1 ↔ (b = 1 ∨ ∃ d, c ≤ d ∧ d < 54 ∧ tb h d = true ∧ su d = s)) := by
  intro n
  induction n with
  | zero => intro c b h1 h2; omega
  | succ n ih =>
    intro c b h54 hn hb
    rw [f_X7_hasSuit_5_s]
    by_cases q : c = 54
    · subst q
      rw [if_pos (show (54 : Int32) ≤ nI 54 from nI_le (Nat.le_refl _) (by decide)), if_pos (by rcases (show b = 0 ∨ b = 1 by omega) with rfl | rfl; exact Or.inl rfl; exact Or.inr rfl)]
      exact ⟨b, hb, rfl, fun e => Or.inl e, fun e => e.elim id (fun ⟨d, h1, h2, _⟩ => by omega)⟩
    · have hlt : c < 54 := by omega
      rw [if_neg (nge hlt (by decide))]
      unfold f_X7_hasSuit_34 f_X7_hasSuit_38 f_X7_hasSuit_39
      rw [nI_1]
      rcases (show b = 0 ∨ b = 1 by omega) with rfl | rfl
      · rw [if_pos (show nI 0 = 0 from rfl), e_has (by omega), b1s]
        by_cases ht : tb h c = true
        · rw [if_pos ht, if_neg n10, e_suitEq, e_suit c hlt, b1s]
          by_cases hsu : su c = s
          · rw [if_pos (by rw [hsu])]
            obtain ⟨r, h1, h2, h3⟩ := ih (c + 1) 1 (by omega) (by omega) (by omega)
            exact ⟨r, h1, h2, fun e => Or.inr ⟨c, Nat.le_refl c, hlt, ht, hsu⟩, fun _ => h3.mpr (Or.inl rfl)⟩
          · rw [if_neg (show ¬ nI (su c) = nI s from fun e => hsu ((nI_eq (by have := su_lt c hlt; omega) (by omega)).mp e))]
            obtain ⟨r, h1, h2, h3⟩ := ih (c + 1) 0 (by omega) (by omega) (by omega)
            refine ⟨r, h1, h2, fun e => ?_, fun e => ?_⟩
            · rcases h3.mp e with x | ⟨d, d1, d2⟩
              · omega
              · exact Or.inr ⟨d, by omega, d2⟩
            · rcases e with x | ⟨d, d1, d2, d3, d4⟩
              · omega
              · refine h3.mpr (Or.inr ⟨d, ?_, d2, d3, d4⟩)
                rcases Nat.lt_or_ge c d with x | x
                · omega
                · have : d = c := by omega
                  subst this; exact absurd d4 hsu
        · rw [if_neg ht, if_pos rfl]
          obtain ⟨r, h1, h2, h3⟩ := ih (c + 1) 0 (by omega) (by omega) (by omega)
          refine ⟨r, h1, h2, fun e => ?_, fun e => ?_⟩
          · rcases h3.mp e with x | ⟨d, d1, d2⟩
            · omega
            · exact Or.inr ⟨d, by omega, d2⟩
          · rcases e with x | ⟨d, d1, d2, d3, d4⟩
            · omega
            · refine h3.mpr (Or.inr ⟨d, ?_, d2, d3, d4⟩)
              rcases Nat.lt_or_ge c d with x | x
              · omega
              · have : d = c := by omega
                subst this; exact absurd d3 ht
      · rw [if_neg (show ¬ nI 1 = 0 from n10)]
        obtain ⟨r, h1, h2, h3⟩ := ih (c + 1) 1 (by omega) (by omega) (by omega)
        exact ⟨r, h1, h2, fun _ => Or.inl rfl, fun _ => h3.mpr (Or.inl rfl)⟩
theorem e_hasSuit {h : Int64} (hs : ∀ c, tb h c = true → c < 54) {s : Nat} (h5 : s < 5) : ∃ r : Nat, r < 2 ∧ f_X7_hasSuit h (nI s) = some (nI r) ∧ (r = 1 ↔ Has h s) := by
  obtain ⟨r, h1, h2, h3⟩ := L_hasSuit (h := h) h5 64 0 0 (by omega) (by omega) (by omega)
  refine ⟨r, h1, h2, fun e => ?_, fun ⟨c, c1, c2⟩ => h3.mpr (Or.inr ⟨c, Nat.zero_le c, hs c c1, c1, c2⟩)⟩
  rcases h3.mp e with x | ⟨d, _, _, d3, d4⟩
  · omega
  · exact ⟨d, d3, d4⟩
/-- in PLAYING: the set of cards that can be played is the same on both sides -/
theorem e_now {k : Nat} {S M : tk_ST} (h : Rel k S M) (h1 : S.1 1 = 5) {t z : Nat} (ht : t < 4) (hz : z < 4) (et : S.1 2 = nI t) (ez : S.1 14 = nI z) (hc : 0 < z → ∃ c, c < 54 ∧ S.2.2.1 1 0 = nI c) :
    ∃ x, f_X6_playableNow S = some x ∧ (∀ c, c < 54 → f_X7_isPlayable (nI c) M = some (if tb x c = true then 1 else 0)) ∧ (∀ c, tb x c = true → tb (S.2.2.2 0 t) c = true) ∧ ((∃ c, tb (S.2.2.2 0 t) c = true) → ∃ c, tb x c = true) := by
  have hE := h.1
  have hs := h.2.2.2.2.2.2.1.1 t ht
  have a1 : M.1 1 = S.1 1 := hE.1
  have a4 : M.1 4 = S.1 2 := hE.2.1
  have a15 : M.1 15 = S.1 14 := hE.2.2.2.2.2.2.2.2.2.1
  have ah : M.2.2.2 0 = S.2.2.2 0 := hE.2.2.2.2.2.2.2.2.2.2.2.2.2.2.2.2
  have at3 : M.2.2.1 3 = S.2.2.1 1 := hE.2.2.2.2.2.2.2.2.2.2.2.2.2.1
  unfold f_X6_playableNow f_X5_ledSuit
  rw [if_pos h1, et, e_at13 ht, b1s, ez]
  have hM : ∀ c, c < 54 → f_X7_isPlayable (nI c) M = (if tb (S.2.2.2 0 t) c = true then (if nI z = 0 then some 1 else (tk_b1 (f_X7_suit (S.2.2.1 1 0)) fun r9 => (tk_b1 (f_X7_hasSuit (S.2.2.2 0 t) r9) fun r13 => (if r13 = 0 then (tk_b1 (f_X7_suit (nI c)) fun r17 => (if r17 = (4 : Int32) then some 1 else (tk_b1 (f_X7_hasSuit (S.2.2.2 0 t) (4 : Int32)) fun r22 => (if r22 = 0 then some 1 else some (0 : Int32))))) else (tk_b1 (f_X7_suit (nI c)) fun r26 => (if r26 = r9 then some (1 : Int32) else some (0 : Int32))))))) else some 0) := by
    intro c hc54
    unfold f_X7_isPlayable f_X7_isPlayable_99
    rw [a1, if_pos h1, a4, et, if_neg (inR ht (by decide)), cl (by omega), ah, e_has (by omega), b1s, a15, ez, at3]
    by_cases q : tb (S.2.2.2 0 t) c = true
    · rw [if_pos q, if_pos q, if_neg n10]
      have hb1 : ¬ (nI t < 0 ∨ 4 ≤ t) := fun e => e.elim (nneg (by omega)) (by omega)
      have hb0 : ¬ ((0 : Int32) < 0 ∨ 4 ≤ (0 : Int32).toNatClampNeg) := by decide
      simp only [if_neg hb1, if_neg hb0]
      rfl
    · rw [if_neg q, if_neg q, if_pos rfl]
  by_cases qz : z = 0
  · subst qz
    rw [if_pos (show nI 0 ≤ 0 by decide), b1s]
    unfold f_X6_playableOf
    rw [if_pos rfl, b1s]
    refine ⟨_, rfl, fun c hc54 => ?_, fun c a => a, fun a => a⟩
    rw [hM c hc54]
    by_cases q : tb (S.2.2.2 0 t) c = true
    · rw [if_pos q, if_pos q, if_pos (show nI 0 = 0 from rfl)]
    · rw [if_neg q, if_neg q]
  · obtain ⟨c0, hc0, e0⟩ := hc (by omega)
    have h5 := su_lt c0 hc0
    obtain ⟨x, hx1, hx2, hx3⟩ := e_pof hs h5
    obtain ⟨r, r1, r2, r3⟩ := e_hasSuit hs h5
    obtain ⟨r', r1', r2', r3'⟩ := e_hasSuit hs (show 4 < 5 by decide)
    rw [if_neg (show ¬ nI z ≤ 0 from nI_nle (by omega) (by omega)), show f_X2_at_p6 0 S = some (S.2.2.1 1 0) from e_at6 (j := 0) (by decide) S, b1s, e0, e_suit c0 hc0, b1s, b1s, hx1, b1s]
    refine ⟨x, rfl, fun c hc54 => ?_, fun c a => ((hx2 c).mp a).1, hx3⟩
    rw [hM c hc54]
    by_cases q : tb (S.2.2.2 0 t) c = true
    · rw [if_pos q, if_neg (show ¬ nI z = 0 from nI_ne0 (by omega) (by omega)), e0, e_suitEq, e_suit c0 hc0, b1s, r2, b1s, e_suit c hc54, b1s, b1s, show f_X7_hasSuit (S.2.2.2 0 t) 4 = some (nI r') from r2', b1s]
      have hx := hx2 c
      by_cases g1 : Has (S.2.2.2 0 t) (su c0)
      · rw [r3.mpr g1, if_neg (show ¬ nI 1 = 0 from n10)]
        by_cases g2 : su c = su c0
        · rw [if_pos (by rw [g2]), if_pos (hx.mpr ⟨q, Or.inl ⟨g1, g2⟩⟩)]
        · rw [if_neg (show ¬ nI (su c) = nI (su c0) from fun e => g2 ((nI_eq (by have := su_lt c hc54; omega) (by omega)).mp e)), if_neg (fun a => (hx.mp a).2.elim (fun b => g2 b.2) (fun b => b.1 g1))]
      · have : r = 0 := by
          rcases (show r = 0 ∨ r = 1 by omega) with e | e
          · exact e
          · exact absurd (r3.mp e) g1
        rw [this, if_pos (show nI 0 = 0 from rfl)]
        by_cases g2 : su c = 4
        · rw [if_pos (show nI (su c) = 4 by rw [g2]; rfl), if_pos (hx.mpr ⟨q, Or.inr ⟨g1, Or.inl g2⟩⟩)]
        · rw [if_neg (show ¬ nI (su c) = 4 from fun e => g2 ((nI_eq (b := 4) (by have := su_lt c hc54; omega) (by decide)).mp e))]
          by_cases g3 : Has (S.2.2.2 0 t) 4
          · rw [r3'.mpr g3, if_neg (show ¬ nI 1 = 0 from n10), if_neg (fun a => (hx.mp a).2.elim (fun b => g1 b.1) (fun b => b.2.elim g2 (fun d => d g3)))]
          · have : r' = 0 := by
              rcases (show r' = 0 ∨ r' = 1 by omega) with e | e
              · exact e
              · exact absurd (r3'.mp e) g3
            rw [this, if_pos (show nI 0 = 0 from rfl), if_pos (hx.mpr ⟨q, Or.inr ⟨g1, Or.inr g3⟩⟩)]
    · rw [if_neg q, if_neg (fun a => q ((hx2 c).mp a).1)]
theorem e_nowN {S : tk_ST} (h1 : ¬ S.1 1 = 5) : f_X6_playableNow S = some 0 := by
  unfold f_X6_playableNow
  rw [if_neg h1]
theorem e_plN {M : tk_ST} (h1 : ¬ M.1 1 = 5) (x : Int32) : f_X7_isPlayable x M = some 0 := by
  unfold f_X7_isPlayable
  rw [if_neg h1]
/-- in every phase -/
theorem e_now2 {k : Nat} {S M : tk_ST} (h : Rel k S M) : ∃ x, f_X6_playableNow S = some x ∧ (∀ c, c < 54 → f_X7_isPlayable (nI c) M = some (if tb x c = true then 1 else 0)) := by
  by_cases h1 : S.1 1 = 5
  · have hp : Ply S M := by
      rcases h.2.2.2.2.2.2.2.2.2 with h | h | h | h | h | h
      · rw [h.1] at h1; exact absurd h1 (by decide)
      · rw [h.1] at h1; exact absurd h1 (by decide)
      · rw [h.1] at h1; exact absurd h1 (by decide)
      · rw [h.1] at h1; exact absurd h1 (by decide)
      · rw [h.1] at h1; exact absurd h1 (by decide)
      · exact h.2
    obtain ⟨l, d, L, z, T, -, -, -, hL, hz, -, -, -, -, -, ez, -, et, -, -, hc⟩ := hp
    obtain ⟨x, h2, h3, -⟩ := e_now h h1 (t := (L + z) % 4) (z := z) (by omega) hz et ez (fun q => hc 0 q)
    exact ⟨x, h2, h3⟩
  · refine ⟨0, e_nowN h1, fun c hc => ?_⟩
    rw [e_plN (by rw [h.1.1]; exact h1), tb_zero]
    rfl
theorem P_canPlay {k : Nat} {S M : tk_ST} (h : Rel k S M) (p : Int32) : SimQ 3 k S (f_X6_canPlay p S) (f_X7_canPlay p M) := by
  unfold f_X6_canPlay f_X7_canPlay f_X7_canPlay_13
  rcases or3 (n := 54) (by decide) (x := p) with hp | ⟨j, hj, rfl⟩
  · rw [e_isCardN hp, e_cardMN hp, b1s, b1s, if_pos rfl, if_pos rfl, e_fine1, b2s, if_pos rfl]
    exact simQ_err h rfl rfl
  · obtain ⟨x, h1, h2⟩ := e_now2 (h.t 0)
    rw [e_isCard hj, e_cardM hj, b1s, b1s, if_neg n10, if_neg n10, e_fine0, b2s, if_neg n10, h1, b1s, e_holds (by omega), b1s, h2 j hj, b1s]
    by_cases q : tb x j = true
    · rw [if_pos q, if_neg n10, if_pos (Or.inr rfl)]; exact simQ_ok h rfl rfl
    · rw [if_neg q, if_pos rfl, if_pos (Or.inl rfl)]; exact simQ_ok h rfl rfl
