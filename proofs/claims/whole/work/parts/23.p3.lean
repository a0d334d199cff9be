theorem cards_eq {k : Nat} {S M : tk_ST} (h : Rel k S M) {s : Nat} (hs : s < 2) : f_X7_cardsOf (nI s) M = some (S.2.2.2 1 s) := by
  have hE := h.1
  rw [e_cards S M hE.2.2.1 hE.2.2.2.2.2.1 s hs]
  rcases h.2.2.2.2.2.2.2.1 with ⟨h1, h2, h3, -⟩ | ⟨h1, h2, h3⟩
  · rw [if_pos h1]
    rcases (show s = 0 ∨ s = 1 by omega) with rfl | rfl
    · rw [h2]
    · rw [h3]
  · rw [if_neg (by rw [h1]; exact n10)]
    rcases (show s = 0 ∨ s = 1 by omega) with rfl | rfl
    · rw [h2]; rfl
    · rw [h3]; rfl
theorem L_thirds {h : Int64} {side : Int32} {M : tk_ST} (hc : f_X7_cardsOf side M = some h) : ∀ (n c : Nat) (sum : Int32), c ≤ 54 → f_X6_thirdsOf_4 n h sum (nI c) = f_X7_counted_4 n side sum (nI c) M := by
  intro n
  induction n with
  | zero => intro c sum _; rfl
  | succ n ih =>
    intro c sum h54
    rw [f_X6_thirdsOf_4_s, f_X7_counted_4_s]
    by_cases q : c = 54
    · subst q; rw [if_pos (show (54 : Int32) ≤ nI 54 from nI_le (Nat.le_refl _) (by decide)), if_pos (show (54 : Int32) ≤ nI 54 from nI_le (Nat.le_refl _) (by decide))]
    · have hlt : c < 54 := by omega
      rw [if_neg (nge hlt (by decide)), if_neg (nge hlt (by decide)), hc, b1s, e_hasEq, e_holds (by omega), b1s, b1s]
      by_cases ht : tb h c = true
      · rw [if_pos ht, if_neg n10, if_neg n10, e_worth c hlt, e_worthM c hlt, b1s, b1s]
        unfold f_X6_thirdsOf_29 f_X7_counted_35
        rw [nI_1]; exact ih _ _ (by omega)
      · rw [if_neg ht, if_pos rfl, if_pos rfl]
        unfold f_X6_thirdsOf_29 f_X7_counted_35
        rw [nI_1, Int32.add_zero]; exact ih _ _ (by omega)
theorem wo_b : ∀ c, c < 54 → 1 ≤ wo c ∧ wo c ≤ 5 := by decide
theorem L_thirdsB (h : Int64) : ∀ (n c sum : Nat), c ≤ 54 → 54 < c + n → sum ≤ 13 * c → ∃ t, t ≤ 702 ∧ f_X6_thirdsOf_4 n h (nI sum) (nI c) = some (nI t) := by
  intro n
  induction n with
  | zero => intro c sum h1 h2; omega
  | succ n ih =>
    intro c sum h54 hn hs
    rw [f_X6_thirdsOf_4_s]
    by_cases q : c = 54
    · subst q; rw [if_pos (show (54 : Int32) ≤ nI 54 from nI_le (Nat.le_refl _) (by decide))]
      exact ⟨sum, by omega, rfl⟩
    · have hlt : c < 54 := by omega
      have hw := wo_b c hlt
      rw [if_neg (nge hlt (by decide)), e_holds (by omega), b1s]
      by_cases ht : tb h c = true
      · rw [if_pos ht, if_neg n10, e_worth c hlt, b1s]
        unfold f_X6_thirdsOf_29
        rw [nI_1, show (3 : Int32) * nI (wo c) = nI (3 * wo c) from pk_mul 3 (wo c), show nI (3 * wo c) - 2 = nI (3 * wo c - 2) from pk_sub (b := 2) (by omega), nI_add]
        exact ih _ _ (by omega) (by omega) (by omega)
      · rw [if_neg ht, if_pos rfl]
        unfold f_X6_thirdsOf_29
        rw [nI_1]; exact ih _ _ (by omega) (by omega) (by omega)
theorem thirds_b (h : Int64) : ∃ t, t ≤ 702 ∧ f_X6_thirdsOf h = some (nI t) := L_thirdsB h 64 0 0 (by omega) (by omega) (by omega)
theorem counted_eq {k : Nat} {S M : tk_ST} (h : Rel k S M) {s : Nat} (hs : s < 2) : f_X7_counted (nI s) M = f_X6_thirdsOf (S.2.2.2 1 s) := (L_thirds (cards_eq h hs) 64 0 0 (by omega)).symm
theorem e_sideP {j : Nat} (h : j < 2) : f_X6_isSide (nI j) = some 1 := by
  unfold f_X6_isSide
  rw [if_neg (nneg (by omega)), if_neg (nge h (by decide))]
theorem e_sidePN {x : Int32} (h : x < 0 ∨ nI 2 ≤ x) : f_X6_isSide x = some 0 := by
  unfold f_X6_isSide
  rcases h with h | h
  · rw [if_pos h]
  · by_cases q : x < 0
    · rw [if_pos q]
    · rw [if_neg q]; exact if_pos h
theorem P_thirds {k : Nat} {S M : tk_ST} (h : Rel k S M) (p : Int32) : SimQ 3 k S (f_X6_thirds p S) (f_X7_thirds p M) := by
  unfold f_X6_thirds f_X7_thirds f_X7_thirds_15
  rcases or3 (n := 2) (by decide) (x := p) with hp | ⟨j, hj, rfl⟩
  · rw [e_sidePN hp, show f_X7_isIn p 0 1 = some 0 from e_isInN (hp.imp id (fun h => lt_of_le1 (by decide) h)), b1s, b1s, if_pos rfl, if_pos rfl, e_fine1, b2s, if_pos rfl]
    exact simQ_err h rfl rfl
  · obtain ⟨t, -, ht⟩ := thirds_b (S.2.2.2 1 j)
    rw [e_sideP hj, show f_X7_isIn (nI j) 0 1 = some 1 from e_isIn (a := 0) (b := 1) (by omega) (by omega) (by decide), b1s, b1s, if_neg n10, if_neg n10, e_fine0, b2s, if_neg n10, counted_eq (h.t 0) hj, e_at15 hj, b1s, ht, b1s, b1s]
    exact simQ_ok h rfl rfl
theorem L_packs {h : Int64} {side : Int32} {M : tk_ST} (hc : f_X7_cardsOf side M = some h) : ∀ (n c m : Nat) (pts v : Int32), c ≤ 54 → 54 < c + n → m ≤ c → ∃ r, f_X6_packPointsOf_10 n h pts (nI (m % 3)) v (nI c) = some r ∧ f_X7_byPacks_33 n side pts v (nI m) (nI c) M = some (r, M) := by
  intro n
  induction n with
  | zero => intro c m pts v h1 h2; omega
  | succ n ih =>
    intro c m pts v h54 hn hm
    rw [f_X6_packPointsOf_10_s, f_X7_byPacks_33_s]
    by_cases q : c = 54
    · subst q; rw [if_pos (show (54 : Int32) ≤ nI 54 from nI_le (Nat.le_refl _) (by decide)), if_pos (show (54 : Int32) ≤ nI 54 from nI_le (Nat.le_refl _) (by decide))]
      exact ⟨_, rfl, rfl⟩
    · have hlt : c < 54 := by omega
      have h3 : m % 3 < 3 := Nat.mod_lt _ (by decide)
      rw [if_neg (nge hlt (by decide)), if_neg (nge hlt (by decide)), hc, b1s, e_hasEq, e_holds (by omega), b1s, b1s]
      by_cases ht : tb h c = true
      · rw [if_pos ht, if_neg n10, if_neg n10, e_worth c hlt, e_worthM c hlt, b1s, b1s]
        unfold f_X6_packPointsOf_39 f_X7_byPacks_79 f_X6_packPointsOf_56 f_X7_byPacks_93 f_X7_byPacks_94
        rw [nI_1, nI_1, nI_1, show tk_rem (nI (m + 1)) 3 = nI ((m + 1) % 3) from e_rem (d := 3) (by omega) (by decide) (by decide)]
        by_cases q3 : (m + 1) % 3 = 0
        · rw [q3, if_pos (show nI 0 = 0 from rfl), if_pos (show nI 0 = 0 from rfl), show m % 3 + 1 = 3 by omega, if_pos (show nI 3 = 3 from rfl)]
          have := ih (c + 1) (m + 1) (pts + (v + nI (wo c) - 2)) 0 (by omega) (by omega) (by omega)
          rw [q3] at this
          exact this
        · have e3 : m % 3 + 1 = (m + 1) % 3 := by omega
          rw [e3, if_neg (show ¬ nI ((m + 1) % 3) = 0 from nI_ne0 (by omega) (by omega)), if_neg (show ¬ nI ((m + 1) % 3) = 0 from nI_ne0 (by omega) (by omega)), if_neg (show ¬ nI ((m + 1) % 3) = 3 from fun e => by have := (nI_eq (a := (m + 1) % 3) (b := 3) (by omega) (by decide)).mp e; omega), Int32.add_zero]
          exact ih (c + 1) (m + 1) pts (v + nI (wo c)) (by omega) (by omega) (by omega)
      · rw [if_neg ht, if_pos rfl, if_pos rfl]
        unfold f_X6_packPointsOf_39 f_X6_packPointsOf_56 f_X7_byPacks_94
        rw [nI_1, if_neg (show ¬ nI (m % 3) = 3 from fun e => by have := (nI_eq (a := m % 3) (b := 3) (by omega) (by decide)).mp e; omega)]
        exact ih (c + 1) m pts v (by omega) (by omega) (by omega)
theorem P_byPacks {k : Nat} {S M : tk_ST} (h : Rel k S M) (p : Int32) : SimQ 3 k S (f_X6_byPacks p S) (f_X7_byPacks p M) := by
  unfold f_X6_byPacks f_X7_byPacks f_X7_byPacks_15
  rcases or3 (n := 2) (by decide) (x := p) with hp | ⟨j, hj, rfl⟩
  · rw [e_sidePN hp, show f_X7_isIn p 0 1 = some 0 from e_isInN (hp.imp id (fun h => lt_of_le1 (by decide) h)), b1s, b1s, if_pos rfl, if_pos rfl, e_fine1, b2s, if_pos rfl]
    exact simQ_err h rfl rfl
  · obtain ⟨r, h1, h2⟩ := L_packs (cards_eq (h.t 0) hj) 64 0 0 0 0 (by omega) (by omega) (by omega)
    have h1 : f_X6_packPointsOf (S.2.2.2 1 j) = some r := h1
    have h2 : f_X7_byPacks_33 64 (nI j) 0 0 0 0 (tk_I M 0 0) = some (r, tk_I M 0 0) := h2
    rw [e_sideP hj, show f_X7_isIn (nI j) 0 1 = some 1 from e_isIn (a := 0) (b := 1) (by omega) (by omega) (by decide), b1s, b1s, if_neg n10, if_neg n10, e_fine0, b2s, if_neg n10, h2, e_at15 hj, b1s, h1, b1s]
    exact simQ_ok h rfl rfl
theorem nm1 {j : Nat} (h : j < 2 ^ 31) : ¬ nI j = -1 := fun e => nneg h (by rw [e]; decide)
theorem e_open {k : Nat} {S M : tk_ST} (h : Rel k S M) : ∃ b : Bool, f_X6_sidesAreOpen S = some (if b = true then 1 else 0) ∧ (b = true ↔ (S.1 4 = -1 ∨ S.1 5 = -1 ∨ ¬ M.1 12 = 0)) := by
  obtain ⟨k1, k2, k3, k4⟩ := h.2.2.2.2.2.1
  unfold f_X6_sidesAreOpen f_X6_sidesAreOpen_37 f_X6_calledKing
  by_cases q4 : S.1 4 = -1
  · exact ⟨true, by rw [if_pos q4]; rfl, by simp [q4]⟩
  · by_cases q5 : S.1 5 = -1
    · exact ⟨true, by rw [if_neg q4, if_pos q5]; rfl, by simp [q5]⟩
    · obtain ⟨o, ho, eo⟩ := k2.resolve_left q5
      obtain ⟨s, hs, es⟩ := k3.resolve_left q4
      have k5 := k4 s o hs ho es eo
      rw [if_neg q4, if_neg q5, eo, e_at13 ho, b1s, b1s, es, show (8 : Int32) * nI s = nI (8 * s) from pk_mul 8 s, show nI (8 * s) + 7 = nI (8 * s + 7) from nI_add _ 7, e_holds (by omega), b1s, k5]
      by_cases ht : tb (S.2.2.2 0 o) (8 * s + 7) = true
      · refine ⟨false, by rw [if_pos ht, if_neg n10]; rfl, ?_⟩
        rw [if_pos ht]; simp [nm1 (j := o) (by omega), nm1 (j := s) (by omega)]
      · refine ⟨true, by rw [if_neg ht, if_pos rfl]; rfl, ?_⟩
        rw [if_neg ht]; simp
theorem P_knows {k : Nat} {S M : tk_ST} (h : Rel k S M) (p p' : Int32) : SimQ 3 k S (f_X6_knows p p' S) (f_X7_knows p p' M) := by
  have hE := h.1
  obtain ⟨k1, k2, k3, k4⟩ := h.2.2.2.2.2.1
  obtain ⟨bo, ho, hb⟩ := e_open h
  unfold f_X6_knows f_X6_knows_14 f_X7_knows f_X7_knows_19
  have bad : SimQ 3 k S (some (3, 0)) (f_X7_knows_20 p p' 1 M) := by
    unfold f_X7_knows_20
    rw [e_fine1, b2s, if_pos rfl]
    exact simQ_err h rfl rfl
  rcases or3 (n := 4) (by decide) (x := p) with hp | ⟨i, hi, rfl⟩
  · rw [e_playN hp, e_playMN hp, b1s, b1s, if_pos rfl, if_pos rfl]; exact bad
  · rw [e_play hi, e_playM hi, b1s, b1s, if_neg n10, if_neg n10]
    rcases or3 (n := 4) (by decide) (x := p') with hp | ⟨j, hj, rfl⟩
    · rw [e_playN hp, e_playMN hp, b1s, b1s, if_pos rfl, if_pos rfl]; exact bad
    · rw [e_play hj, e_playM hj, b1s, b1s, if_neg n10, if_neg n10]
      unfold f_X7_knows_20
      rw [e_fine0, b2s, if_neg n10]
      have a8 : (tk_I M 0 0).1 8 = S.1 3 := hE.2.2.1
      have a1 : (tk_I M 0 0).1 1 = S.1 1 := hE.1
      have a6 : (tk_I M 0 0).1 6 = S.1 11 := hE.2.2.2.2.2.2.1
      have a11 : (tk_I M 0 0).1 11 = S.1 5 := hE.2.2.2.2.1
      have a12 : (tk_I M 0 0).1 12 = M.1 12 := rfl
      rw [a8, a1, a6, a11, a12]
      by_cases q3 : S.1 3 = -1
      · rw [if_pos q3, if_pos q3]; exact simQ_ok h rfl rfl
      · by_cases q1 : S.1 1 = 2
        · rw [if_neg q3, if_neg q3, if_pos q1, if_pos q1]; exact simQ_ok h rfl rfl
        · rw [if_neg q3, if_neg q3, if_neg q1, if_neg q1]
          have k1 := k1 q3 q1
          have hside : f_X7_sideOf (nI j) (tk_I M 0 0) = some (sd (nI j) (S.1 3) (S.1 6)) := e_sideM _ S _ (nm1 (by omega)) a8 hE.2.2.2.2.2.1
          have yesM : f_X7_knows_100 (nI j) (tk_I M 0 0) = some (sd (nI j) (S.1 3) (S.1 6), tk_I M 0 0) := by
            unfold f_X7_knows_100
            rw [hside, b1s]
          have yes77 : f_X7_knows_77 (nI i) (nI j) (tk_I M 0 0) = some (sd (nI j) (S.1 3) (S.1 6), tk_I M 0 0) := by
            unfold f_X7_knows_77 f_X7_knows_82
            rw [if_neg n10, yesM]
          have yesS : f_X6_knows_70 (nI j) S = some (0, sd (nI j) (S.1 3) (S.1 6)) := by
            unfold f_X6_knows_70 f_X6_knows_75
            rw [if_neg n10, e_side, b1s]
          have noS : f_X6_knows_75 (nI j) 0 S = some (0, -1) := by
            unfold f_X6_knows_75
            rw [if_pos rfl]
          have m82 : f_X7_knows_82 (nI i) (nI j) 0 (tk_I M 0 0) = if nI j = S.1 3 then some (sd (nI j) (S.1 3) (S.1 6), tk_I M 0 0) else if nI j = nI i then some (sd (nI j) (S.1 3) (S.1 6), tk_I M 0 0) else some (-1, tk_I M 0 0) := by
            unfold f_X7_knows_82
            rw [if_pos rfl, a8, yesM]
          rw [ho, b1s, yesS, noS, yes77, m82]
          have fin : SimQ 3 k S (some (0, sd (nI j) (S.1 3) (S.1 6))) (some (sd (nI j) (S.1 3) (S.1 6), tk_I M 0 0)) := simQ_ok h rfl rfl
          have fin2 : SimQ 3 k S (some (0, -1)) (some (-1, tk_I M 0 0)) := simQ_ok h rfl rfl
          by_cases g1 : nI j = S.1 3
          · rw [if_pos g1, if_pos g1]
            split <;> first | exact fin | (split <;> first | exact fin | (split <;> first | exact fin | (split <;> exact fin)))
          · rw [if_neg g1, if_neg g1]
            by_cases g2 : nI j = nI i
            · rw [if_pos g2, if_pos g2]
              split <;> first | exact fin | (split <;> first | exact fin | (split <;> first | exact fin | (split <;> exact fin)))
            · rw [if_neg g2, if_neg g2]
              by_cases g3 : nI i = S.1 5
              · rw [if_pos g3, if_pos g3]
                split <;> first | exact fin | (split <;> first | exact fin | (split <;> exact fin))
              · rw [if_neg g3, if_neg g3]
                by_cases gl : 3 < S.1 11
                · have : bo = true := hb.mpr (Or.inl (k1.mpr gl))
                  rw [if_pos gl, this, if_pos rfl, if_neg n10]; exact fin
                · rw [if_neg gl]
                  have g4 : ¬ S.1 4 = -1 := fun e => gl (k1.mp e)
                  by_cases g5 : S.1 5 = -1
                  · have : bo = true := hb.mpr (Or.inr (Or.inl g5))
                    rw [if_pos g5, this, if_pos rfl, if_neg n10]; exact fin
                  · rw [if_neg g5]
                    by_cases g6 : M.1 12 = 0
                    · have : ¬ bo = true := fun e => (hb.mp e).elim g4 (fun y => y.elim g5 (fun z => z g6))
                      rw [if_pos g6, if_neg this, if_pos rfl]; exact fin2
                    · have : bo = true := hb.mpr (Or.inr (Or.inr g6))
                      rw [if_neg g6, this, if_pos rfl, if_neg n10]; exact fin
