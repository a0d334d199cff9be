/-! the law's turns -/
theorem law_ann {L : Nat} {xs : Nat → Int32} {K : Int32 → Int32 → Int32 → Int32 → tk_ST → Option Int32} {D : Nat} {S : tk_ST} (h : Inv D S) (h5 : S.1 1 = 5) {j : Nat} (hj : j < 2) (x3 x5 x6 x9 : Int32) {can : Int32} (hcan : S.1 9 = 0 → S.1 14 = 0 → (j = 1 → ¬ (4 : Int32) ≤ S.1 11) → ¬ can = 0) : ∃ S', f_law_919 L xs K x3 x5 x6 x9 (nI j) can S = K x3 1 x5 (x6 + 1) S' ∧ Inv D S' := by
  have fin : ∀ {S' : tk_ST}, Inv D S' → S'.1 1 = 5 → f_law_958 L xs K x3 x5 x6 x9 S' = K x3 1 x5 (x6 + 1) S' := by
    intro S' hI h5'
    unfold f_law_958 f_law_963
    exact law_end hI (fun _ e => absurd (h5'.symm.trans e) (by decide))
  unfold f_law_919 f_L_announces
  rcases S_announce h h5 hj with q | ⟨r, S', a1, a2, a3, a4, a5, a6, a7, a8⟩
  · rw [q, b3s, if_neg (show ¬ (2 : Int32) = 0 by decide), if_pos rfl, b2s, if_pos rfl]
    exact ⟨S, fin h h5, h⟩
  · rw [a1, b3s, if_pos rfl, b2s, if_neg (show ¬ nI r = -3 from fun e => nneg (j := r) (by omega) (by rw [e]; decide)), if_neg (hcan a4 a5 a6), if_neg (show ¬ (2 : Int32) < nI r from nI_nlt (b := r) (a := 2) a2 (by decide)), a7, b3s, if_neg (show ¬ (2 : Int32) = 0 by decide), if_pos rfl, b2s, if_pos rfl]
    exact ⟨S', fin a3 a8, a3⟩
theorem law_step {L : Nat} {xs : Nat → Int32} {K : Int32 → Int32 → Int32 → Int32 → tk_ST → Option Int32} {D : Nat} {S : tk_ST} (h : Inv D S) (hD : D < 2 ^ 29) (x5 x6 x : Int32) : ∃ D' S', f_law_115 L xs K (nI D) x5 x6 x S = K (nI D') 1 x5 (x6 + 1) S' ∧ Inv D' S' ∧ D' ≤ D + 1 := by
  obtain ⟨Y, hY, eY⟩ := pk_andE (x >>> ((4 : Int32) &&& 31)) (m := 268435455) 28 (by decide)
  unfold f_law_115 f_X6_phase
  rw [b1s, eY]
  have n5 : ∀ {k : Int32}, S.1 1 = k → ¬ k = 5 → ¬ S.1 1 = 5 := fun e n q => n (e.symm.trans q)
  by_cases p0 : S.1 1 = 0
  · rw [if_pos p0]
    obtain ⟨S', a1, a2⟩ := law_over (L := L) (xs := xs) (K := K) h hD p0 (x5 := x5) (x6 := x6) hY (x9 := S.1 1) (n5 p0 (by decide))
    exact ⟨D + 1, S', a1, a2, Nat.le_refl _⟩
  · rw [if_neg p0]
    by_cases p1 : S.1 1 = 1
    · rw [if_pos p1]
      have n9 := n5 p1 (by decide)
      by_cases q : (6 : Int32) ≤ (x &&& (15 : Int32))
      · rw [if_pos q, b1s, show (6 : Int32) = nI 6 from rfl, e_rem (by omega) (by decide) (by decide)]
        obtain ⟨S', a1, a2⟩ := law_bid (L := L) (xs := xs) (K := K) h p1 (v := Y % 6) (Nat.mod_lt _ (by decide)) (nI D) x5 x6 n9
        exact ⟨D, S', a1, a2, by omega⟩
      · rw [if_neg q]
        obtain ⟨S', a1, a2⟩ := law_bid (L := L) (xs := xs) (K := K) h p1 (v := 0) (by decide) (nI D) x5 x6 n9
        exact ⟨D, S', a1, a2, by omega⟩
    · rw [if_neg p1]
      by_cases p2 : S.1 1 = 2
      · rw [if_pos p2]
        have n9 := n5 p2 (by decide)
        obtain ⟨s, hs, es⟩ := pk_andE (nI Y) (m := 3) 2 (by decide)
        have hs4 : s < 4 := hs
        rw [es, e_king hs4]
        obtain ⟨S', a1, a2, a3, a4, a5⟩ := S_call h p2 hs4
        unfold f_X6_called f_X6_partner
        rw [a1, b2s, if_pos rfl, b1s, if_pos a3, b1s]
        refine ⟨D, S', ?_, a2, by omega⟩
        rcases a4 with e | ⟨q, hq, e, ht⟩
        · rw [if_pos (show S'.1 6 < 0 by rw [e]; decide)]
          exact law_call a2 (by omega) a5 _ _ _ n9
        · rw [if_neg (show ¬ S'.1 6 < 0 by rw [e]; exact ni_neg (by omega)), b1s, e, r_hand hq, b1s, e_Lhas (by omega), b1s, if_pos ht, if_neg n10]
          exact law_call a2 (by omega) a5 _ _ _ n9
      · rw [if_neg p2]
        by_cases p3 : S.1 1 = 3
        · rw [if_pos p3]
          have n9 := n5 p3 (by decide)
          obtain ⟨l, d, l1, l4, d4, el, ed, hDe, hPr⟩ := h.t p3
          obtain ⟨S', a1, a2⟩ := law_take (L := L) (xs := xs) (K := K) h p3 hY l1 l4 d4 el ed hDe hPr (nI D) x5 x6 n9
          refine ⟨D, S', ?_, a2, by omega⟩
          unfold f_X6_level
          rw [b1s, b1s, el]
          have e3 := e_szM l1 l4
          by_cases q : (3 : Int32) ≤ nI l
          · rw [if_pos q]
            rw [if_pos q] at e3
            rw [← e3] at a1; exact a1
          · rw [if_neg q]
            rw [if_neg q] at e3
            rw [← e3] at a1; exact a1
        · rw [if_neg p3]
          by_cases p4 : S.1 1 = 4
          · rw [if_pos p4]
            have n9 := n5 p4 (by decide)
            obtain ⟨l, d, t, l1, l4, d4, el, ed, t1, t3, et, cd, co, hPr⟩ := h.d p4
            obtain ⟨c, hc, hcb, hdr⟩ := e_drawn (h := S.2.2.2 0 d) (show Y < 2 ^ 30 by omega) (cn_pos (by omega))
            have f868 : ∀ {S' : tk_ST}, Inv D S' → f_law_868 L xs K (nI D) x5 x6 (S.1 1) 1 S' = K (nI D) 1 x5 (x6 + 1) S' := by
              intro S' hI
              unfold f_law_868
              exact law_end hI (fun e => absurd e n9)
            unfold f_X6_declarer
            rw [b1s, ed, r_hand d4, b1s, hdr, b1s]
            unfold f_L_lays
            rcases S_discard h p4 d4 ed hc hcb with ⟨q1, q2⟩ | ⟨q1, t', S', a1, a2, a3, a4, a5, a6, a7, a8⟩
            · rw [q2, b3s, if_neg (show ¬ (2 : Int32) = 0 by decide), if_pos rfl, b2s, r_value hc, b1s, if_pos (show nI (wo c) = 5 by rw [q1]; rfl), if_pos rfl, b1s, ed, r_hand d4, b1s, if_pos (lg_self _)]
              exact ⟨D, S, f868 h, h, by omega⟩
            · rw [a1, b3s, if_pos rfl, b2s, r_value hc, b1s, if_neg (show ¬ nI (wo c) = 5 from fun e => q1 ((nI_eq (b := 5) (by have := wo_lt c; omega) (by decide)).mp e)), e_bits, b1s, show nI (cn (S.2.2.2 0 d)) - (13 : Int32) = nI (cn (S.2.2.2 0 d) - 13) from pk_sub (b := 13) (by omega), if_pos (show nI t' = nI (cn (S.2.2.2 0 d) - 13) by congr 1; omega), b1s, a5, r_hand d4, b1s, show (1 : Int64) <<< ((nI c).toInt64 &&& 63) = jb c from rfl, tb_sub (by omega) hcb, a6, if_pos (lg_self _)]
              refine ⟨D, S', ?_, a4, by omega⟩
              unfold f_law_863
              by_cases q0 : t' = 0
              · obtain ⟨b1, b2⟩ := a8 q0
                have := th_le (S'.2.2.2 1 0)
                rw [if_pos (show nI t' ≤ 0 by rw [q0]; decide), b1s, if_pos b1, r_thirds0, b1s, if_neg (nI_nle (by omega) (by omega))]
                exact f868 a4
              · rw [if_neg (nI_nle (by omega) (by omega)), b1s, if_pos (a7 (by omega))]
                exact f868 a4
          · rw [if_neg p4]
            have p5 : S.1 1 = 5 := by
              rcases h.2.2.2.2 with h | h | h | h | h | h
              · exact absurd h.1 p0
              · exact absurd h.1 p1
              · exact absurd h.1 p2
              · exact absurd h.1 p3
              · exact absurd h.1 p4
              · exact h.1
            by_cases q0 : (x &&& (15 : Int32)) = 0
            · rw [if_pos q0]
              obtain ⟨j, hj, ej⟩ := pk_andE (nI Y) (m := 1) 1 (by decide)
              have hj2 : j < 2 := hj
              rw [ej]
              unfold f_X6_tricks f_X6_inTrick f_X6_level f_law_914 f_law_918
              rw [b1s, b1s, b1s]
              by_cases c9 : S.1 9 = 0
              · rw [if_pos c9]
                by_cases c14 : S.1 14 = 0
                · rw [if_pos c14]
                  by_cases cj : nI j = 0
                  · rw [if_pos cj]
                    obtain ⟨S', a1, a2⟩ := law_ann (L := L) (xs := xs) (K := K) h p5 hj2 (nI D) x5 x6 (S.1 1) (can := 1) (fun _ _ _ => n10)
                    exact ⟨D, S', a1, a2, by omega⟩
                  · rw [if_neg cj]
                    have j1 : j = 1 := by
                      rcases (show j = 0 ∨ j = 1 by omega) with e | e
                      · exact absurd (by rw [e]; rfl) cj
                      · exact e
                    by_cases c4 : (4 : Int32) ≤ S.1 11
                    · rw [if_pos c4]
                      obtain ⟨S', a1, a2⟩ := law_ann (L := L) (xs := xs) (K := K) h p5 hj2 (nI D) x5 x6 (S.1 1) (can := 0) (fun _ _ e => absurd c4 (e j1))
                      exact ⟨D, S', a1, a2, by omega⟩
                    · rw [if_neg c4]
                      obtain ⟨S', a1, a2⟩ := law_ann (L := L) (xs := xs) (K := K) h p5 hj2 (nI D) x5 x6 (S.1 1) (can := 1) (fun _ _ _ => n10)
                      exact ⟨D, S', a1, a2, by omega⟩
                · rw [if_neg c14]
                  obtain ⟨S', a1, a2⟩ := law_ann (L := L) (xs := xs) (K := K) h p5 hj2 (nI D) x5 x6 (S.1 1) (can := 0) (fun _ e _ => absurd e c14)
                  exact ⟨D, S', a1, a2, by omega⟩
              · rw [if_neg c9]
                obtain ⟨S', a1, a2⟩ := law_ann (L := L) (xs := xs) (K := K) h p5 hj2 (nI D) x5 x6 (S.1 1) (can := 0) (fun e _ _ => absurd e c9)
                exact ⟨D, S', a1, a2, by omega⟩
            · rw [if_neg q0]
              by_cases q1 : (x &&& (15 : Int32)) = 1
              · rw [if_pos q1]
                obtain ⟨j, hj, ej⟩ := pk_andE (nI Y) (m := 15) 4 (by decide)
                have hj16 : j < 16 := hj
                obtain ⟨l, d, Ld, z, T, kc, hP⟩ := h.p p5
                obtain ⟨S', a1, a2, a3⟩ := S_plow h hD p5 hP (x := 1 + j) (by omega) (by omega)
                obtain ⟨l1, l5, d4, L4, z4, T12, el, ed, eL, ez, eT, -⟩ := id hP
                unfold f_X6_tricks f_X6_inTrick f_law_1022 f_law_1030
                rw [b1s, b1s, ej, show (1 : Int32) + nI j = nI (1 + j) from nI_add 1 j, a1, b2s, eT, ez, show (4 : Int32) * nI T = nI (4 * T) from pk_mul 4 T, show (48 : Int32) - nI (4 * T) = nI (48 - 4 * T) from pk_sub (a := 48) (by omega), pk_sub (by omega)]
                refine ⟨D, S', ?_, a2, by omega⟩
                by_cases c : 48 - 4 * T - z ≤ 1 + j
                · rw [if_pos (nI_le c (by omega)), if_pos (show nI (min (1 + j) (48 - 4 * T - z)) = nI (48 - 4 * T - z) by congr 1; omega)]
                  exact law_end a2 (fun _ => a3)
                · rw [if_neg (nI_ge (by omega) (by omega)), if_pos (show nI (min (1 + j) (48 - 4 * T - z)) = nI (1 + j) by congr 1; omega)]
                  exact law_end a2 (fun _ => a3)
              · rw [if_neg q1]
                obtain ⟨S', a1, a2, a3⟩ := isPlayed_ok h hD p5 (show Y < 2 ^ 30 by omega)
                rw [a1, b2s]
                exact ⟨D, S', law_end a2 (fun _ => a3), a2, by omega⟩
theorem law_runs {L : Nat} {xs : Nat → Int32} (hL : L ≤ 260) {Tn : Nat} (hT : Tn ≤ 480) : ∀ (n j D : Nat) (S : tk_ST), j ≤ Tn → Tn - j < n → D ≤ j → Inv D S → f_law_71 L xs n (nI D) 1 (nI Tn) (nI j) S = some 1 := by
  intro n
  induction n with
  | zero => intro j D S h1 h2; omega
  | succ n ih =>
    intro j D S hj hn hDj h
    rw [f_law_71_s]
    by_cases q : j = Tn
    · subst q; rw [if_pos (nI_le (Nat.le_refl _) (by omega))]
    · rw [if_neg (nI_ge (by omega) (by omega)), if_neg n10]
      have key : ∀ x, f_law_115 L xs (f_law_71 L xs n) (nI D) (nI Tn) (nI j) x S = some 1 := by
        intro x
        obtain ⟨D', S', a1, a2, a3⟩ := law_step (L := L) (xs := xs) (K := f_law_71 L xs n) h (by omega) (nI Tn) (nI j) x
        rw [a1, nI_1]
        exact ih (j + 1) D' S' (by omega) (by omega) (by omega) a2
      by_cases r : L ≤ j
      · rw [if_pos (show Int32.ofNat L ≤ nI j from nI_le (a := L) r (by omega))]
        exact key _
      · rw [if_neg (show ¬ Int32.ofNat L ≤ nI j from nI_ge (b := L) (by omega) (by omega)), if_neg (inR (show j < L by omega) (by omega))]
        exact key _
theorem law_all {L : Nat} {xs : Nat → Int32} (hL : L ≤ 260) {S : tk_ST} (h : Inv 0 S) : f_law L xs S = some 1 := by
  have k66 : ∀ Tn : Nat, Tn ≤ 480 → f_law_66 L xs 0 1 (nI Tn) S = some 1 := by
    intro Tn hT
    unfold f_law_66
    exact law_runs hL hT 500 0 0 S (by omega) (by omega) (by omega) h
  unfold f_law f_law_34
  rw [areHands_ok h, b1s, if_neg n10, areSides_ok h, b1s, if_neg n10]
  by_cases a : 60 ≤ L
  · rw [if_pos (show (60 : Int32) ≤ Int32.ofNat L from nI_le (a := 60) (b := L) a (by omega))]
    by_cases b : 120 ≤ L
    · rw [if_pos (show (120 : Int32) ≤ Int32.ofNat L from nI_le (a := 120) (b := L) b (by omega))]
      exact k66 480 (by omega)
    · rw [if_neg (show ¬ (120 : Int32) ≤ Int32.ofNat L from nI_ge (a := L) (b := 120) (by omega) (by decide)), show (4 : Int32) * Int32.ofNat L = nI (4 * L) from pk_mul 4 L]
      exact k66 (4 * L) (by omega)
  · rw [if_neg (show ¬ (60 : Int32) ≤ Int32.ofNat L from nI_ge (a := L) (b := 60) (by omega) (by decide))]
    exact k66 240 (by omega)
