/-! the law's own small methods -/
theorem L_bits (h : Int64) : ∀ (n c : Nat), c ≤ 54 → 54 < c + n → f_L_bits_4 n h (nI (ct (tb h) c)) (nI c) = some (nI (cn h)) := by
  intro n
  induction n with
  | zero => intro c h1 h2; omega
  | succ n ih =>
    intro c h54 hn
    rw [f_L_bits_4_s]
    by_cases q : c = 54
    · subst q; rw [if_pos (show (54 : Int32) ≤ nI 54 from nI_le (Nat.le_refl _) (by decide))]; rfl
    · have hlt : c < 54 := by omega
      rw [if_neg (nge hlt (by decide))]
      have hs : ct (tb h) (c + 1) = ct (tb h) c + (if tb h c = true then 1 else 0) := rfl
      have h1 : (lg_cmp ((h >>> ((nI c).toInt64 &&& 63)) &&& (1 : Int64)) (1 : Int64)) = 0 ↔ tb h c = true := by
        rw [lg_one, tb_one, tb_shr h (by omega)]
      have := ih (c + 1) (by omega) (by omega)
      by_cases ht : tb h c = true
      · rw [if_pos (h1.mpr ht)]
        unfold f_L_bits_26
        rw [nI_1, nI_1]
        rw [hs, if_pos ht] at this
        exact this
      · rw [if_neg (fun e => ht (h1.mp e))]
        unfold f_L_bits_26
        rw [nI_1, Int32.add_zero]
        rw [hs, if_neg ht, Nat.add_zero] at this
        exact this
theorem e_bits (h : Int64) : f_L_bits h = some (nI (cn h)) := L_bits h 64 0 (by omega) (by omega)
theorem e_Lhas {h : Int64} {c : Nat} (hc : c < 64) : f_L_has h (nI c) = some (if tb h c then 1 else 0) := e_holds hc
theorem e_Lsuit : ∀ c, c < 54 → f_L_suit (nI c) = some (nI (su c)) := by decide +kernel
theorem L_drawn {h : Int64} (Y : Nat) (hY : Y < 2 ^ 30) (hh : ∃ c, c < 54 ∧ tb h c = true) : ∀ n k, k ≤ 54 → 54 < k + n → (∀ i, i < k → ¬ tb h ((Y + i) % 54) = true) → ∃ c, c < 54 ∧ tb h c = true ∧ f_L_drawn_8 n h (nI ((Y + k) % 54)) (nI k) = some (nI c) := by
  intro n
  induction n with
  | zero => intro k h1 h2; omega
  | succ n ih =>
    intro k h54 hn hk
    rw [f_L_drawn_8_s]
    by_cases q : k = 54
    · obtain ⟨c, hc, ht⟩ := hh
      have := hk ((c + 54 - Y % 54) % 54) (by omega)
      rw [show (Y + (c + 54 - Y % 54) % 54) % 54 = c by omega] at this
      exact absurd ht this
    · rw [if_neg (nge (show k < 54 by omega) (by decide)), e_Lhas (by omega), b1s]
      by_cases ht : tb h ((Y + k) % 54) = true
      · rw [if_pos ht, if_neg n10]
        exact ⟨_, by omega, ht, rfl⟩
      · rw [if_neg ht, if_pos rfl, nI_1, nI_1, show (54 : Int32) = nI 54 from rfl, e_rem (by omega) (by decide) (by decide), show ((Y + k) % 54 + 1) % 54 = (Y + (k + 1)) % 54 by omega]
        refine ih (k + 1) (by omega) (by omega) (fun i hi => ?_)
        by_cases e : i = k
        · subst e; exact ht
        · exact hk i (by omega)
theorem e_drawn {h : Int64} {Y : Nat} (hY : Y < 2 ^ 30) (hh : ∃ c, c < 54 ∧ tb h c = true) : ∃ c, c < 54 ∧ tb h c = true ∧ f_L_drawn h (nI Y) = some (nI c) := by
  obtain ⟨c, h1, h2, h3⟩ := L_drawn Y hY hh 64 0 (by omega) (by omega) (fun i hi => absurd hi (Nat.not_lt_zero i))
  refine ⟨c, h1, h2, ?_⟩
  unfold f_L_drawn
  rw [show (54 : Int32) = nI 54 from rfl, e_rem (by omega) (by decide) (by decide)]
  exact h3
theorem L_wins {kc : Nat → Nat} (hk : ∀ i, i < 4 → kc i < 54) (n : Nat) {b i : Nat} (hb : b < 4) (hi : i < 4) (K1 K2 K3 : Int32) : f_L_wins_36 (f_L_wins_9 n) K1 K2 K3 (nI (kc b)) (nI b) (nI i) (nI (kc i)) = f_L_wins_9 n K1 K2 K3 (nI (kc (wst kc b i))) (nI (wst kc b i)) (nI (i + 1)) := by
  have hbk := hk b hb
  have hik := hk i hi
  have s1 := su_lt _ hbk
  have s2 := su_lt _ hik
  have key : ∀ u : Nat, u < 2 → u = (if bt (kc i) (kc b) = true then 1 else 0) → f_L_wins_80 (f_L_wins_9 n) K1 K2 K3 (nI (kc b)) (nI b) (nI i) (nI (kc i)) (nI u) = f_L_wins_9 n K1 K2 K3 (nI (kc (wst kc b i))) (nI (wst kc b i)) (nI (i + 1)) := by
    intro u hu eu
    unfold f_L_wins_80 f_L_wins_94 f_L_wins_108 wst
    by_cases q : bt (kc i) (kc b) = true
    · rw [if_pos q] at eu
      subst eu
      rw [if_neg (show ¬ nI 1 = 0 from n10), if_neg (show ¬ nI 1 = 0 from n10), if_pos q, nI_1]
    · rw [if_neg q] at eu
      subst eu
      rw [if_pos (show nI 0 = 0 from rfl), if_pos (show nI 0 = 0 from rfl), if_neg q, nI_1]
  unfold f_L_wins_36
  rw [e_Lsuit _ hik, e_Lsuit _ hbk, b1s, b1s, b1s]
  unfold bt at key
  by_cases q : su (kc i) = su (kc b)
  · rw [if_pos (show nI (su (kc i)) = nI (su (kc b)) by rw [q])]
    simp only [if_pos q] at key
    by_cases r : kc b < kc i
    · rw [if_neg (nI_ge r (by omega))]
      exact key 1 (by decide) (by rw [if_pos (decide_eq_true r)])
    · rw [if_pos (nI_le (by omega) (by omega))]
      exact key 0 (by decide) (by rw [if_neg (by simpa using r)])
  · rw [if_neg (fun e => q ((nI_eq (by omega) (by omega)).mp e))]
    simp only [if_neg q] at key
    by_cases r : su (kc i) = 4
    · rw [if_pos (show nI (su (kc i)) = 4 by rw [r]; rfl)]
      exact key 1 (by decide) (by rw [if_pos (decide_eq_true r)])
    · rw [if_neg (show ¬ nI (su (kc i)) = 4 from fun e => r ((nI_eq (b := 4) (by omega) (by decide)).mp e))]
      exact key 0 (by decide) (by rw [if_neg (by simpa using r)])
theorem e_Lwins {kc : Nat → Nat} (hk : ∀ i, i < 4 → kc i < 54) : f_L_wins (nI (kc 0)) (nI (kc 1)) (nI (kc 2)) (nI (kc 3)) = some (nI (bst kc)) := by
  show f_L_wins_9 (63 + 1) (nI (kc 1)) (nI (kc 2)) (nI (kc 3)) (nI (kc 0)) (nI 0) (nI 1) = _
  have w1 := wst_lt kc (b := 0) (i := 1) (by omega) (by omega)
  have w2 := wst_lt kc (b := wst kc 0 1) (i := 2) w1 (by omega)
  rw [f_L_wins_9_s, if_neg (by decide), if_pos (show nI 1 = 1 from rfl), L_wins hk 63 (b := 0) (i := 1) (by omega) (by omega)]
  rw [show 63 = 62 + 1 from rfl, f_L_wins_9_s, if_neg (by decide), if_neg (by decide), if_pos (show nI (1 + 1) = 2 from rfl), L_wins hk 62 (b := wst kc 0 1) (i := 2) w1 (by omega)]
  rw [show 62 = 61 + 1 from rfl, f_L_wins_9_s, if_neg (by decide), if_neg (by decide), if_neg (by decide), L_wins hk 61 (b := wst kc (wst kc 0 1) 2) (i := 3) w2 (by omega)]
  rw [show 61 = 60 + 1 from rfl, f_L_wins_9_s, if_pos (by decide)]
  rfl
/-! the hall's answers, as the law asks for them -/
theorem r_hand {p : Nat} (hp : p < 4) (S : tk_ST) : f0_X6_hand (nI p) S = some (S.2.2.2 0 p) := by
  unfold f0_X6_hand f_X6_hand
  rw [e_play hp, b1s, if_neg n10, e_at13 hp, b1s, b2s, if_pos rfl]
theorem r_score {p : Nat} (hp : p < 4) (S : tk_ST) : f0_X6_score (nI p) S = some (S.2.2.1 2 p) := by
  unfold f0_X6_score f_X6_score
  rw [e_play hp, b1s, if_neg n10, e_at9 hp, b1s, b2s, if_pos rfl]
theorem r_radli {p : Nat} (hp : p < 4) (S : tk_ST) : f0_X6_radli (nI p) S = some (S.2.2.1 3 p) := by
  unfold f0_X6_radli f_X6_radli
  rw [e_play hp, b1s, if_neg n10, e_at11 hp, b1s, b2s, if_pos rfl]
theorem r_value {c : Nat} (hc : c < 54) (S : tk_ST) : f0_X6_valueOf (nI c) S = some (nI (wo c)) := by
  unfold f0_X6_valueOf f_X6_valueOf
  rw [e_isCard hc, b1s, if_neg n10, e_worth c hc, b1s, b2s, if_pos rfl]
theorem r_thirds {s : Nat} (hs : s < 2) (S : tk_ST) : f0_X6_thirds (nI s) S = some (nI (th (S.2.2.2 1 s))) := by
  unfold f0_X6_thirds f_X6_thirds
  rw [e_sideP hs, b1s, if_neg n10, e_at15 hs, b1s, e_th, b1s, b2s, if_pos rfl]
theorem r_thirds0 (S : tk_ST) : f0_X6_thirds (0 : Int32) S = some (nI (th (S.2.2.2 1 0))) := r_thirds (s := 0) (by decide) S
theorem r_thirds1 (S : tk_ST) : f0_X6_thirds (1 : Int32) S = some (nI (th (S.2.2.2 1 1))) := r_thirds (s := 1) (by decide) S
theorem r_trickAt {S : tk_ST} {j z : Nat} (hj : j < z) (hz : z ≤ 4) (ez : S.1 14 = nI z) : f0_X6_trickAt (nI j) S = some (S.2.2.1 1 j) := by
  unfold f0_X6_trickAt f_X6_trickAt f_X5_cardAt
  rw [if_neg (nneg (by omega)), ez, if_pos (nI_lt hj (by omega)), e_at6 (by omega), b1s, b1s, b2s, if_pos rfl]
theorem r_talon {S : tk_ST} {j : Nat} (hj : j < 6) (h0 : ¬ S.1 0 = -1) : f0_X6_talonAt (nI j) S = some (S.2.2.1 0 (48 + j)) := by
  unfold f0_X6_talonAt f_X6_talonAt f_X1_cardAt
  rw [if_neg (nneg (by omega)), if_pos (show nI j < 6 from nI_lt hj (by decide)), if_neg h0, show (48 : Int32) + nI j = nI (48 + j) from nI_add 48 j, e_at2 (by omega), b1s, b1s, b2s, if_pos rfl]
theorem r_canPlay {S : tk_ST} {x : Int64} (hx : f_X6_playableNow S = some x) {c : Nat} (hc : c < 54) : f0_X6_canPlay (nI c) S = some (if tb x c = true then 1 else 0) := by
  unfold f0_X6_canPlay f_X6_canPlay
  rw [e_isCard hc, b1s, if_neg n10, hx, b1s, e_holds (by omega), b1s]
  by_cases q : tb x c = true
  · rw [if_pos q, if_pos (Or.inr rfl), b2s, if_pos rfl]
  · rw [if_neg q, if_pos (Or.inl rfl), b2s, if_pos rfl]
theorem L_pk (h : Int64) : ∀ (n c pts m v : Nat), c ≤ 54 → 54 < c + n → m < 3 → m ≤ v → v ≤ 5 * c → 3 * pts + 3 * v = wt (tb h) c + 2 * m → ∃ r, 3 * r ≤ th h ∧ f_X6_packPointsOf_10 n h (nI pts) (nI m) (nI v) (nI c) = some (nI r) := by
  intro n
  induction n with
  | zero => intro c pts m v h1 h2; omega
  | succ n ih =>
    intro c pts m v h54 hn hm hmv hv hw
    rw [f_X6_packPointsOf_10_s]
    by_cases q : c = 54
    · subst q; rw [if_pos (show (54 : Int32) ≤ nI 54 from nI_le (Nat.le_refl _) (by decide))]
      refine ⟨pts, ?_, rfl⟩
      have : wt (tb h) 54 = th h := rfl
      omega
    · have hlt : c < 54 := by omega
      have hb := wo_b c hlt
      have hw3 : w3 c + 2 = 3 * wo c := by unfold w3; omega
      rw [if_neg (nge hlt (by decide)), e_holds (by omega), b1s]
      have hs : wt (tb h) (c + 1) = wt (tb h) c + (if tb h c = true then w3 c else 0) := rfl
      by_cases ht : tb h c = true
      · rw [if_pos ht, if_neg n10, e_worth c hlt, b1s, nI_1, nI_add]
        rw [if_pos ht] at hs
        unfold f_X6_packPointsOf_39 f_X6_packPointsOf_56
        by_cases q3 : m + 1 = 3
        · rw [if_pos (show nI (m + 1) = 3 by rw [q3]; rfl), show nI (v + wo c) - 2 = nI (v + wo c - 2) from pk_sub (b := 2) (by omega), nI_add, nI_1]
          exact ih (c + 1) (pts + (v + wo c - 2)) 0 0 (by omega) (by omega) (by omega) (by omega) (by omega) (by omega)
        · rw [if_neg (show ¬ nI (m + 1) = 3 from fun e => q3 ((nI_eq (b := 3) (by omega) (by decide)).mp e)), nI_1]
          exact ih (c + 1) pts (m + 1) (v + wo c) (by omega) (by omega) (by omega) (by omega) (by omega) (by omega)
      · rw [if_neg ht, if_pos rfl]
        rw [if_neg ht] at hs
        unfold f_X6_packPointsOf_39 f_X6_packPointsOf_56
        rw [if_neg (show ¬ nI m = 3 from fun e => by have := (nI_eq (b := 3) (by omega) (by decide)).mp e; omega), nI_1]
        exact ih (c + 1) pts m v (by omega) (by omega) (by omega) (by omega) (by omega) (by omega)
theorem r_packs {s : Nat} (hs : s < 2) (S : tk_ST) : ∃ r, 3 * r ≤ th (S.2.2.2 1 s) ∧ f0_X6_byPacks (nI s) S = some (nI r) := by
  obtain ⟨r, h1, h2⟩ := L_pk (S.2.2.2 1 s) 64 0 0 0 0 (by omega) (by omega) (by omega) (by omega) (by omega) rfl
  refine ⟨r, h1, ?_⟩
  unfold f0_X6_byPacks f_X6_byPacks
  rw [e_sideP hs, b1s, if_neg n10, e_at15 hs, b1s, show f_X6_packPointsOf (S.2.2.2 1 s) = some (nI r) from h2, b1s, b2s, if_pos rfl]
theorem e_opn {S : tk_ST} (h4 : S.1 4 = -1 ∨ ∃ s, s < 4 ∧ S.1 4 = nI s) (h5 : S.1 5 = -1 ∨ ∃ o, o < 4 ∧ S.1 5 = nI o) : f_X6_sidesAreOpen S = some 1 ∨ f_X6_sidesAreOpen S = some 0 := by
  unfold f_X6_sidesAreOpen f_X6_sidesAreOpen_37 f_X6_calledKing
  by_cases q4 : S.1 4 = -1
  · rw [if_pos q4]; exact Or.inl rfl
  · rw [if_neg q4]
    by_cases q5 : S.1 5 = -1
    · rw [if_pos q5]; exact Or.inl rfl
    · rw [if_neg q5]
      obtain ⟨s, hs, es⟩ := h4.resolve_left q4
      obtain ⟨o, ho, eo⟩ := h5.resolve_left q5
      rw [eo, e_at13 ho, b1s, es, b1s, e_king hs, e_holds (by omega), b1s]
      by_cases q : tb (S.2.2.2 0 o) (8 * s + 7) = true
      · rw [if_pos q, if_neg n10]; exact Or.inr rfl
      · rw [if_neg q, if_pos rfl]; exact Or.inl rfl
/-- what a player knows of a side: the side's number, or nothing -/
theorem r_knows {S : tk_ST} (h : Sd S) {p q : Nat} (hp : p < 4) (hq : q < 4) : f0_X6_knows (nI p) (nI q) S = some (if S.1 3 = -1 then -1 else if S.1 1 = 2 then -1 else sd (nI q) (S.1 3) (S.1 6)) ∨ (q ≠ p ∧ f0_X6_knows (nI p) (nI q) S = some (-1)) := by
  obtain ⟨-, -, h4, h5, -⟩ := h
  unfold f0_X6_knows f_X6_knows f_X6_knows_70 f_X6_knows_75
  rw [e_play hp, e_play hq, b1s, if_neg n10, b1s, if_neg n10]
  by_cases q3 : S.1 3 = -1
  · rw [if_pos q3, if_pos q3, b2s, if_pos rfl]; exact Or.inl rfl
  · rw [if_neg q3, if_neg q3]
    by_cases q2 : S.1 1 = 2
    · rw [if_pos q2, if_pos q2, b2s, if_pos rfl]; exact Or.inl rfl
    · rw [if_neg q2, if_neg q2, e_side, b1s, if_neg n10]
      by_cases d1 : nI q = S.1 3
      · rw [if_pos d1, b2s, if_pos rfl]; exact Or.inl rfl
      · rw [if_neg d1]
        by_cases d2 : nI q = nI p
        · rw [if_pos d2, b2s, if_pos rfl]; exact Or.inl rfl
        · rw [if_neg d2]
          by_cases d3 : nI p = S.1 5
          · rw [if_pos d3, b2s, if_pos rfl]; exact Or.inl rfl
          · rw [if_neg d3]
            rcases e_opn h4 h5 with o | o
            · rw [o, b1s, if_neg n10, b2s, if_pos rfl]; exact Or.inl rfl
            · rw [o, b1s, if_pos rfl, if_pos rfl, b2s, if_pos rfl]; exact Or.inr ⟨fun e => d2 (by rw [e]), rfl⟩
/-- what can be played now -/
theorem r_now {S : tk_ST} {t z c0 : Nat} (h1 : S.1 1 = 5) (hC : Crd (S.2.2.2 0)) (ht : t < 4) (hz : z < 4) (et : S.1 2 = nI t) (ez : S.1 14 = nI z) (hc : 0 < z → c0 < 54 ∧ S.2.2.1 1 0 = nI c0) :
    ∃ x, f_X6_playableNow S = some x ∧ (∀ c, tb x c = true → tb (S.2.2.2 0 t) c = true) ∧ ((∃ c, tb (S.2.2.2 0 t) c = true) → ∃ c, tb x c = true) ∧ (z = 0 → x = S.2.2.2 0 t) ∧ (0 < z → Has (S.2.2.2 0 t) (su c0) → ∀ c, tb x c = true → su c = su c0) := by
  have hs := hC.1 t ht
  unfold f_X6_playableNow f_X5_ledSuit
  rw [if_pos h1, et, e_at13 ht, b1s, ez]
  by_cases qz : z = 0
  · subst qz
    rw [if_pos (show nI 0 ≤ 0 by decide), b1s]
    unfold f_X6_playableOf
    rw [if_pos rfl, b1s]
    exact ⟨_, rfl, fun c a => a, fun a => a, fun _ => rfl, fun q => absurd q (Nat.lt_irrefl 0)⟩
  · obtain ⟨hc0, e0⟩ := hc (by omega)
    obtain ⟨x, hx1, hx2, hx3⟩ := e_pof hs (su_lt c0 hc0)
    rw [if_neg (show ¬ nI z ≤ 0 from nI_nle (by omega) (by omega)), show f_X2_at_p6 0 S = some (S.2.2.1 1 0) from e_at6 (j := 0) (by decide) S, b1s, e0, e_suit c0 hc0, b1s, b1s, hx1, b1s]
    exact ⟨x, rfl, fun c a => ((hx2 c).mp a).1, hx3, fun q => absurd q qz, fun _ g c a => ((hx2 c).mp a).2.elim (fun b => b.2) (fun b => absurd g b.1)⟩
