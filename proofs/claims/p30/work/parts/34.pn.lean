/-! the law's cases -/
theorem law_end {L : Nat} {xs : Nat → Int32} {K : Int32 → Int32 → Int32 → Int32 → tk_ST → Option Int32} {D : Nat} {S : tk_ST} (h : Inv D S) {x3 x5 x6 x9 : Int32} (hs : x9 = 5 → S.1 1 = 0 → Scd S) : f_law_1043 L xs K x3 1 x5 x6 x9 S = K x3 1 x5 (x6 + 1) S := by
  unfold f_law_1043 f_law_1083 f_law_1088 f_X6_phase
  rw [if_neg n10, areHands_ok h, b1s, if_neg n10, areSides_ok h, b1s, if_neg n10]
  by_cases q9 : x9 = 5
  · rw [if_pos q9, b1s]
    by_cases q0 : S.1 1 = 0
    · rw [if_pos q0, isScored_ok (hs q9 q0), b1s, if_neg n10]
    · rw [if_neg q0]
  · rw [if_neg q9]
theorem L_140 {L : Nat} {xs : Nat → Int32} {K : Int32 → Int32 → Int32 → Int32 → tk_ST → Option Int32} (n : Nat) {p : Nat} (hp : p < 4) (x3 x5 x6 x8 x9 : Int32) (S : tk_ST) : f_law_140 L xs K (n + 1) x3 x5 x6 x8 x9 (nI p) S = f_law_140 L xs K n x3 x5 x6 x8 x9 (nI (p + 1)) (tk_A S 4 (upd (upd (S.2.2.1 4) p (S.2.2.1 2 p)) (4 + p) (S.2.2.1 3 p))) := by
  rw [f_law_140_s, if_neg (nge hp (by decide)), r_score hp, b1s, if_neg (inR (show p < 8 by omega) (by decide)), b1s, r_radli hp, b1s, show (4 : Int32) + nI p = nI (4 + p) from nI_add 4 p, if_neg (inR (show 4 + p < 8 by omega) (by decide)), b1s, cl (by omega), cl (by omega), tk_AA, nI_1]
  rfl
theorem law_over {L : Nat} {xs : Nat → Int32} {K : Int32 → Int32 → Int32 → Int32 → tk_ST → Option Int32} {D : Nat} {S : tk_ST} (h : Inv D S) (hD : D < 2 ^ 29) (h1 : S.1 1 = 0) {x5 x6 : Int32} {Y : Nat} (hY : Y < 2 ^ 28) {x9 : Int32} (hx9 : ¬ x9 = 5) : ∃ S', f_law_140 L xs K 64 (nI D) x5 x6 (nI Y) x9 0 S = K (nI (D + 1)) 1 x5 (x6 + 1) S' ∧ Inv (D + 1) S' := by
  have hR : Rad D S := by
    rcases h.2.2.2.2 with h | h | h | h | h | h
    · exact h.2.2.2
    · exact absurd (h.1.symm.trans h1) (by decide)
    · exact absurd (h.1.symm.trans h1) (by decide)
    · exact absurd (h.1.symm.trans h1) (by decide)
    · exact absurd (h.1.symm.trans h1) (by decide)
    · exact absurd (h.1.symm.trans h1) (by decide)
  obtain ⟨X, hX, eX⟩ := pk_andE (nI Y) (m := 65535) 16 (by decide)
  show ∃ S', f_law_140 L xs K (63 + 1) (nI D) x5 x6 (nI Y) x9 (nI 0) S = _ ∧ _
  rw [L_140 63 (p := 0) (by omega), L_140 62 (p := 1) (by omega), L_140 61 (p := 2) (by omega), L_140 60 (p := 3) (by omega), show 60 = 59 + 1 from rfl, f_law_140_s, if_pos (show (4 : Int32) ≤ nI (3 + 1) by decide), eX]
  generalize hG : tk_A (tk_A (tk_A (tk_A S 4 _) 4 _) 4 _) 4 _ = G
  have g1 : G.1 = S.1 := by rw [← hG]; rfl
  have ga : ∀ j, j ≠ 4 → G.2.2.1 j = S.2.2.1 j := fun j hj => by rw [← hG, uA3, if_neg hj, uA3, if_neg hj, uA3, if_neg hj, uA3, if_neg hj]
  have hB : Bef (D + 1) G := by
    intro p hp
    obtain ⟨n, n1, n2⟩ := hR p hp
    rw [ga 2 (by decide), ga 3 (by decide)]
    refine ⟨?_, ?_, n, by omega, n2⟩
    · rw [← hG]
      rcases (show p = 0 ∨ p = 1 ∨ p = 2 ∨ p = 3 by omega) with rfl | rfl | rfl | rfl <;> rfl
    · rw [← hG]
      rcases (show p = 0 ∨ p = 1 ∨ p = 2 ∨ p = 3 by omega) with rfl | rfl | rfl | rfl <;> rfl
  obtain ⟨S', a1, a2, a0, a3, a4, a5, a6⟩ := S_deal (D := D) hX (by rw [g1]; exact h1) (h.1.eq (by rw [g1])) hB
  rw [a1, b2s]
  refine ⟨S', ?_, a2⟩
  have hn0 : ¬ S'.1 0 = -1 := by rw [a0]; exact n1I (by omega)
  have k191 : ∀ n j, j < 6 → f_law_191 L xs K (n + 1) (nI D) x5 x6 x9 (nI (D % 4)) (orr (S'.2.2.1 0) 48 j) (nI j) S' = f_law_191 L xs K n (nI D) x5 x6 x9 (nI (D % 4)) (orr (S'.2.2.1 0) 48 (j + 1)) (nI (j + 1)) S' := by
    intro n j hj
    rw [f_law_191_s, if_neg (show ¬ (6 : Int32) ≤ nI j from nI_ge (b := 6) hj (by decide)), r_talon hj hn0, b1s, nI_1]
    rfl
  show f_law_191 L xs K (63 + 1) (nI D) x5 x6 x9 (nI (D % 4)) (orr (S'.2.2.1 0) 48 0) (nI 0) S' = _
  rw [k191 63 0 (by omega), k191 62 1 (by omega), k191 61 2 (by omega), k191 60 3 (by omega), k191 59 4 (by omega), k191 58 5 (by omega), show 58 = 57 + 1 from rfl, f_law_191_s, if_pos (show (6 : Int32) ≤ nI (5 + 1) by decide), show (4 : Int32) = nI 4 from rfl, e_rem (by omega) (by decide) (by decide), if_pos rfl]
  unfold f_X6_turn f_X6_level f_X6_tricks
  rw [b1s, if_pos a3, show f0_X6_hand (0 : Int32) S' = some (S'.2.2.2 0 0) from r_hand (p := 0) (by omega) S', b1s, show f0_X6_hand (1 : Int32) S' = some (S'.2.2.2 0 1) from r_hand (p := 1) (by omega) S', b1s, show f0_X6_hand (2 : Int32) S' = some (S'.2.2.2 0 2) from r_hand (p := 2) (by omega) S', b1s, show f0_X6_hand (3 : Int32) S' = some (S'.2.2.2 0 3) from r_hand (p := 3) (by omega) S', b1s, e_bits, b1s, show nI (cn ((((orr (S'.2.2.1 0) 48 (5 + 1) ||| S'.2.2.2 0 0) ||| S'.2.2.2 0 1) ||| S'.2.2.2 0 2) ||| S'.2.2.2 0 3)) = 54 from congrArg nI a6, if_pos rfl, b1s, if_pos a4, b1s, if_pos a5]
  unfold f_law_287
  rw [nI_1]
  exact law_end a2 (fun e => absurd e hx9)
theorem law_bid {L : Nat} {xs : Nat → Int32} {K : Int32 → Int32 → Int32 → Int32 → tk_ST → Option Int32} {D : Nat} {S : tk_ST} (h : Inv D S) (h1 : S.1 1 = 1) {v : Nat} (hv : v < 6) (x3 x5 x6 : Int32) {x9 : Int32} (hx9 : ¬ x9 = 5) : ∃ S', f_law_320 L xs K x3 x5 x6 x9 (nI v) S = K x3 1 x5 (x6 + 1) S' ∧ Inv D S' := by
  have f487 : ∀ {S' : tk_ST}, Inv D S' → f_law_483 L xs K x3 x5 x6 x9 S' = K x3 1 x5 (x6 + 1) S' := by
    intro S' hI
    unfold f_law_483 f_law_488
    exact law_end hI (fun e => absurd e hx9)
  have f488 : ∀ {S' : tk_ST}, Inv D S' → f_law_488 L xs K x3 x5 x6 x9 1 S' = K x3 1 x5 (x6 + 1) S' := by
    intro S' hI
    unfold f_law_488
    exact law_end hI (fun e => absurd e hx9)
  unfold f_law_320 f_X6_level f_X6_turn
  rw [b1s, b1s]
  unfold f_L_bids
  rcases S_bid h h1 hv with ⟨q1, q2, q3⟩ | ⟨q1, r, S', a1, a2, a3, a4, a5⟩
  · rw [q3, b3s, if_neg (show ¬ (2 : Int32) = 0 by decide), if_pos rfl, b2s, if_neg (nI_nle q1 (by omega)), if_neg q2, if_pos rfl, b1s, if_pos rfl]
    exact ⟨S, f488 h, h⟩
  · rw [a1, b3s, if_pos rfl, b2s]
    have e378 : f_law_378 L xs K x3 x5 x6 x9 (nI v) (S.1 11) (S.1 2) r S' = K x3 1 x5 (x6 + 1) S' := by
      have e394 : f_law_394 L xs K x3 x5 x6 x9 (S.1 2) r (S'.1 11) (S'.1 11) S' = K x3 1 x5 (x6 + 1) S' := by
        unfold f_law_394 f_X6_phase f_X6_turn f_X6_declarer f_X6_level f_law_480
        rw [if_pos rfl, b1s, if_pos a4]
        rcases a5 with ⟨b1, b2, b3⟩ | ⟨b1, b2⟩ | ⟨l, d, l1, l5, d4, el, ed, er⟩
        · rw [if_pos b1, b1s, if_neg b2, b1s, if_neg (show ¬ 0 ≤ S'.1 3 by rw [b3]; decide)]
          exact f487 a2
        · rw [if_neg (show ¬ r = 1 by rw [b1]; decide), if_pos b1, b1s, if_pos b2]
          exact f487 a2
        · have r1 : ¬ r = 1 := by
            rw [er]
            split
            · decide
            · split <;> decide
          have r0 : ¬ r = 0 := by
            rw [er]
            split
            · decide
            · split <;> decide
          rw [if_neg r1, if_neg r0, b1s, if_neg (show ¬ S'.1 3 < 0 by rw [ed]; exact ni_neg (by omega)), b1s, b1s, el]
          by_cases q4 : l < 4
          · rw [if_neg (show ¬ (4 : Int32) ≤ nI l from nI_ge (b := 4) q4 (by decide)), if_pos (show r = 2 by rw [er, if_pos q4])]
            exact f487 a2
          · rw [if_pos (show (4 : Int32) ≤ nI l from nI_le (a := 4) (by omega) (by omega))]
            by_cases q5 : l = 4
            · rw [if_pos (show nI l = 4 by rw [q5]; rfl), if_pos (show r = 3 by rw [er, if_neg q4, if_pos q5])]
              exact f487 a2
            · rw [if_neg (show ¬ nI l = 4 from fun e => q5 ((nI_eq (b := 4) (by omega) (by decide)).mp e)), if_pos (show r = 5 by rw [er, if_neg q4, if_neg q5])]
              exact f487 a2
      unfold f_law_378 f_X6_level
      rw [b1s]
      by_cases v0 : v = 0
      · rw [if_pos (show nI v ≤ 0 by rw [v0]; decide)]
        rw [if_pos v0] at a3
        rw [← a3]
        exact e394
      · rw [if_neg (nI_nle (by omega) (by omega))]
        rw [if_neg v0] at a3
        rw [← a3]
        exact e394
    refine ⟨S', ?_, a2⟩
    by_cases v0 : v = 0
    · rw [if_pos (show nI v ≤ 0 by rw [v0]; decide)]
      exact e378
    · rw [if_neg (nI_nle (by omega) (by omega)), if_pos (q1.resolve_left v0)]
      exact e378
theorem L_567 {L : Nat} {xs : Nat → Int32} {K : Int32 → Int32 → Int32 → Int32 → tk_ST → Option Int32} {S : tk_ST} {c : Nat} (hc : c < 54) (hk : ∀ p, p < 4 → tb (S.2.2.2 0 p) c = true → nI p = S.1 3 ∨ nI p = S.1 6) (n : Nat) {p : Nat} (hp : p < 4) (x3 x5 x6 x9 : Int32) : f_law_567 L xs K (n + 1) x3 1 x5 x6 x9 (nI c) (nI p) S = f_law_567 L xs K n x3 1 x5 x6 x9 (nI c) (nI (p + 1)) S := by
  rw [f_law_567_s]
  unfold f_law_610 f_law_615 f_X6_declarer f_X6_partner
  rw [if_neg (nge hp (by decide)), if_neg n10, r_hand hp, b1s, e_Lhas (by omega), b1s, nI_1]
  by_cases t : tb (S.2.2.2 0 p) c = true
  · rw [if_pos t, if_neg n10, b1s]
    by_cases q : nI p = S.1 3
    · rw [if_pos q]
    · rw [if_neg q, b1s, if_pos ((hk p hp t).resolve_left q)]
  · rw [if_neg t, if_pos rfl]
theorem law_call {L : Nat} {xs : Nat → Int32} {K : Int32 → Int32 → Int32 → Int32 → tk_ST → Option Int32} {D : Nat} {S : tk_ST} (h : Inv D S) {c : Nat} (hc : c < 54) (hk : ∀ p, p < 4 → tb (S.2.2.2 0 p) c = true → nI p = S.1 3 ∨ nI p = S.1 6) (x3 x5 x6 : Int32) {x9 : Int32} (hx9 : ¬ x9 = 5) : f_law_557 L xs K x3 x5 x6 x9 (nI c) S = K x3 1 x5 (x6 + 1) S := by
  unfold f_law_557 f_law_562
  show f_law_567 L xs K (63 + 1) x3 1 x5 x6 x9 (nI c) (nI 0) S = _
  rw [L_567 hc hk 63 (p := 0) (by omega), L_567 hc hk 62 (p := 1) (by omega), L_567 hc hk 61 (p := 2) (by omega), L_567 hc hk 60 (p := 3) (by omega), show 60 = 59 + 1 from rfl, f_law_567_s, if_pos (show (4 : Int32) ≤ nI (3 + 1) by decide)]
  exact law_end h (fun e => absurd e hx9)
theorem law_take {L : Nat} {xs : Nat → Int32} {K : Int32 → Int32 → Int32 → Int32 → tk_ST → Option Int32} {D : Nat} {S : tk_ST} (h : Inv D S) (h1 : S.1 1 = 3) {l d Y : Nat} (hY : Y < 2 ^ 28) (l1 : 1 ≤ l) (l4 : l ≤ 4) (d4 : d < 4) (el : S.1 11 = nI l) (ed : S.1 3 = nI d) (hDe : De S) (hPr : Pre D S) (x3 x5 x6 : Int32) {x9 : Int32} (hx9 : ¬ x9 = 5) : ∃ S', f_law_650 L xs K x3 x5 x6 (nI Y) x9 (nI (szl l)) S = K x3 1 x5 (x6 + 1) S' ∧ Inv D S' := by
  obtain ⟨z0, z4, zg, g0, g6⟩ := e_sz l1 l4
  have e6 : (6 : Int32) / nI (szl l) = nI (grl l) := by
    rw [show (6 : Int32) = nI 6 from rfl, pk_div (by omega) z0 (by omega)]
    congr 1
    rw [← zg]
    exact Nat.mul_div_cancel _ z0
  have hj : Y % grl l < grl l := Nat.mod_lt _ g0
  have hz := gz_le l1 l4 hj
  obtain ⟨S', a1, a2, a3, a4, a5, c, c54, a6, a7⟩ := S_take h h1 l1 l4 d4 el ed hj hDe hPr
  refine ⟨S', ?_, a2⟩
  unfold f_law_650 f_law_722 f_X6_declarer
  rw [e6, if_neg (nI_ne0 z0 (by omega)), if_neg (nI_ne0 g0 (by omega)), e_rem (by omega) g0 (by omega), a1, b2s, if_pos rfl, b1s, a3, r_hand d4, b1s, e_bits, b1s, a4, show (12 : Int32) + nI (szl l) = nI (12 + szl l) from nI_add 12 _, if_pos rfl, b1s, r_hand d4, b1s, if_neg (nI_ne0 z0 (by omega)), if_neg (nI_ne0 g0 (by omega)), mul6 _ (by omega) _ z4, r_talon (by omega) a5, b1s, a6, e_Lhas (by omega), b1s, if_pos a7, if_neg n10]
  exact law_end a2 (fun e => absurd e hx9)
