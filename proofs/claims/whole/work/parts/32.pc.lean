theorem e_dcl26 {S : tk_ST} (n j : Nat) (hj : j < 6) : f_X7_declares_26 (n + 1) (nI j) S = f_X7_declares_26 n (nI (j + 1)) (tk_L S 1 (S.2.1 1 ||| jbI (S.2.2.1 0 (48 + j)))) := by
  rw [f_X7_declares_26_s, if_neg (show ¬ (6 : Int32) ≤ nI j from nI_ge (b := 6) hj (by decide)), e_talonM hj, b1s, nI_1]
  rfl
theorem L_dcl {S0 : tk_ST} (h0 : S0.2.1 1 = 0) : ∀ m, m ≤ 6 → ∃ S', f_X7_declares_26 64 0 S0 = f_X7_declares_26 (64 - m) (nI m) S' ∧ S'.1 = S0.1 ∧ S'.2.2 = S0.2.2 ∧ S'.2.1 0 = S0.2.1 0 ∧ S'.2.1 1 = orr (S0.2.2.1 0) 48 m
  | 0, _ => ⟨S0, rfl, rfl, rfl, rfl, h0⟩
  | m + 1, h => by
    obtain ⟨A, x1, x2, x3, x4, x5⟩ := L_dcl h0 m (by omega)
    rw [x1, show 64 - m = (64 - (m + 1)) + 1 by omega, e_dcl26 _ m (by omega)]
    refine ⟨_, rfl, x2, x3, x4, ?_⟩
    show A.2.1 1 ||| jbI (A.2.2.1 0 (48 + m)) = _
    rw [x5, x3]; rfl
def hbt (S3 : tk_ST) : Option (Int32 × Int32 × tk_ST) := (tk_b1 (f_X0_allPassed S3) fun r4 => (if r4 = 0 then (tk_b1 (f_X0_isSettled S3) fun r8 => (if r8 = 0 then (tk_b1 (f_X0_nextBehind (S3.1 2) S3) fun r12 => some ((0 : Int32), (S3.1 1), (tk_I S3 2 r12))) else (tk_b1 (f_X6_beginGame S3) fun S17 => some ((0 : Int32), (S17.1 1), S17)))) else (tk_b1 (f_X6_endDeal S3) fun S20 => some ((0 : Int32), (S20.1 1), S20))))
theorem bid_next {k : Nat} {S M : tk_ST} (hE : Eqs S M) (hA : Ann S M) (hF : Fh k S M) (hP : Par S) (hD : Dcl S) (hK : Kn S M) (hC : Crd (S.2.2.2 0)) (hPi : Pil S M) (hZ : Siz S) (h1 : S.1 1 = 1) (h0 : M.1 0 = 0) {P t : Nat} (hP16 : P < 16) (h15 : P ≠ 15) (ht : t < 4) (eP : S.1 10 = nI P) (et : S.1 2 = nI t) (ha : ∀ p, p < 4 → M.2.2.1 1 p = if P.testBit p = true then 1 else 0) (ep : M.1 5 = nI (pc P)) (e3 : S.1 3 = -1) (e4 : S.1 4 = -1) (e5 : S.1 5 = -1) (e6 : S.1 6 = -1) (hlb : (S.1 11 = 0 ∧ S.1 12 = -1) ∨ ∃ l b, 1 ≤ l ∧ l ≤ 5 ∧ b < 4 ∧ S.1 11 = nI l ∧ S.1 12 = nI b) (hHT : HT S M) (hFr : Fre S M) : SimW 1 k (tk_b1 (f_X0_nextBehind (S.1 2) S) fun r12 => some ((0 : Int32), (S.1 1), (tk_I S 2 r12))) (f_X7_bid_131 M) := by
  have a4 : M.1 4 = S.1 2 := hE.2.1
  rw [et, e_next hP16 ht eP, b1s]
  obtain ⟨B, x1, x2, x3, x4⟩ := e_nextM hP16 h15 ht (a4.trans et) ha
  have g : ∀ i, i ≠ 4 → B.1 i = M.1 i := x3
  have hn := nxt_f P hP16 h15 t ht
  refine simW_ok rfl (x1.trans (by rw [hE.1])) (Rel.mono (k := k) ⟨⟨(g 1 (by decide)).trans hE.1, x2, (g 8 (by decide)).trans hE.2.2.1, (g 9 (by decide)).trans hE.2.2.2.1, (g 11 (by decide)).trans hE.2.2.2.2.1, (g 10 (by decide)).trans hE.2.2.2.2.2.1, (g 6 (by decide)).trans hE.2.2.2.2.2.2.1, (g 7 (by decide)).trans hE.2.2.2.2.2.2.2.1, (g 17 (by decide)).trans hE.2.2.2.2.2.2.2.2.1, (g 15 (by decide)).trans hE.2.2.2.2.2.2.2.2.2.1, (g 18 (by decide)).trans hE.2.2.2.2.2.2.2.2.2.2.1, ?_⟩, ?_, ?_, hP, hD, ⟨hK.1, hK.2.1, hK.2.2.1, fun s o hs ho es eo => (g 12 (by decide)).trans (hK.2.2.2 s o hs ho es eo)⟩, hC, ?_, hZ, ?_⟩ (Nat.le_succ k)) ((g 0 (by decide)).trans h0)
  · rw [x4]; exact hE.2.2.2.2.2.2.2.2.2.2.2
  · show ∃ b0 b1 : Nat, b0 < 2 ∧ b1 < 2 ∧ S.1 8 = nI (b0 + 2 * b1) ∧ B.2.2.1 2 0 = nI b0 ∧ B.2.2.1 2 1 = nI b1
    rw [x4]; exact hA
  · obtain ⟨D, d1, d2, d3⟩ := hF
    exact ⟨D, d1, (g 2 (by decide)).trans d2, d3.imp id fun ⟨x, y, z⟩ => ⟨x, y, (g 3 (by decide)).trans z⟩⟩
  · unfold Pil
    rw [g 14 (by decide), x4]
    exact hPi
  · refine Or.inr (Or.inl ⟨h1, P, nxt P t, hP16, hn.1, eP, rfl, hn.2, ?_, (g 5 (by decide)).trans ep, e3, e4, e5, e6, hlb, ?_, ?_⟩)
    · rw [x4]; exact ha
    · obtain ⟨t1, t2, t3, t4, t5⟩ := hHT
      exact ⟨t1, t2, t3, t4, by rw [x4]; exact t5⟩
    · obtain ⟨f1, f2, f3, f4, f5, f, y1, y2, y3⟩ := hFr
      exact ⟨(g 14 (by decide)).trans f1, (g 12 (by decide)).trans f2, f3, f4, f5, f, y1, y2, (g 3 (by decide)).trans y3⟩
theorem bid_after {k : Nat} {S M : tk_ST} (hE : Eqs S M) (hA : Ann S M) (hF : Fh k S M) (hP : Par S) (hD : Dcl S) (hK : Kn S M) (hC : Crd (S.2.2.2 0)) (hPi : Pil S M) (hZ : Siz S) (h1 : S.1 1 = 1) (h0 : M.1 0 = 0) {P t : Nat} (hP16 : P < 16) (ht : t < 4) (eP : S.1 10 = nI P) (et : S.1 2 = nI t) (ha : ∀ p, p < 4 → M.2.2.1 1 p = if P.testBit p = true then 1 else 0) (ep : M.1 5 = nI (pc P)) (e3 : S.1 3 = -1) (e4 : S.1 4 = -1) (e5 : S.1 5 = -1) (e6 : S.1 6 = -1) (hlb : (S.1 11 = 0 ∧ S.1 12 = -1) ∨ ∃ l b, 1 ≤ l ∧ l ≤ 5 ∧ b < 4 ∧ S.1 11 = nI l ∧ S.1 12 = nI b) (hHT : HT S M) (hFr : Fre S M) : SimW 1 k (hbt S) (f_X7_bid_87 M) := by
  have p4 := pc4 P hP16
  unfold hbt f_X7_bid_87 f_X0_allPassed
  rw [eP, e_bitc P hP16, b1s, ep]
  by_cases q4 : pc P = 4
  · rw [q4, if_pos (show nI 4 = 4 from rfl), if_pos (show nI 4 = 4 from rfl), b1s, if_neg n10]
    unfold f_X6_endDeal
    rw [b1s]
    exact simW_ok (r := 0) rfl rfl (Rel.mono (k := k) ⟨⟨rfl, rfl, hE.2.2⟩, hA, hF, hP, hD, ⟨fun e => absurd e3 e, hK.2⟩, hC, hPi, hZ, Or.inl ⟨rfl, rfl⟩⟩ (Nat.le_succ k)) h0
  · have h15 : P ≠ 15 := fun e => q4 (p4.1.mpr e)
    have nx := bid_next hE hA hF hP hD hK hC hPi hZ h1 h0 hP16 h15 ht eP et ha ep e3 e4 e5 e6 hlb hHT hFr
    have q4' : ¬ nI (pc P) = 4 := fun e => q4 ((nI_eq (b := 4) (by omega) (by decide)).mp e)
    rw [if_neg q4', if_neg q4', b1s, if_pos rfl]
    unfold f_X0_isSettled
    rw [eP, e_bitc P hP16, b1s, hE.2.2.2.2.2.2.2.1]
    rcases hlb with ⟨el, eb⟩ | ⟨l, b, l1, l5, b4, el, eb⟩
    · rw [if_pos eb, b1s, if_pos rfl]
      by_cases q3 : nI (pc P) = 3
      · rw [if_pos q3, if_pos eb]; exact nx
      · rw [if_neg q3]; exact nx
    · rw [if_neg (show ¬ S.1 12 = -1 by rw [eb]; exact n1I (by omega)), if_neg (show ¬ S.1 12 = -1 by rw [eb]; exact n1I (by omega))]
      by_cases q3 : nI (pc P) = 3
      · rw [if_pos q3, if_pos q3, b1s, if_neg n10]
        unfold f_X6_beginGame f_X7_declares f_X7_declares_76
        rw [hE.2.2.2.2.2.2.1, hE.2.2.2.2.2.2.2.1, el, eb]
        obtain ⟨f1, f2, f3, f4, f5, f, y1, y2, y3⟩ := id hFr
        have hP0 : M.1 14 = 0 ∧ S.2.2.2 1 0 = 0 ∧ S.2.2.2 1 1 = 0 ∧ ∀ p, p < 4 → M.2.2.2 1 p = 0 := by
          rcases hPi with y | ⟨y, _⟩
          · exact y
          · rw [f1] at y; exact absurd y (by decide)
        have hn3 : ∀ s, s < 4 → ¬ S.1 4 = nI s := fun s hs e => n1I (j := s) (by omega) (e.symm.trans e4)
        by_cases q5 : l = 5
        · subst q5
          rw [if_pos (show (3 : Int32) < nI 5 by decide), if_pos (show (4 : Int32) < nI 5 by decide), if_pos (show nI 5 = 5 from rfl)]
          unfold f_X6_beginPlay
          rw [show (0 : Int32) = nI 0 from rfl, show (1 : Int32) = nI 1 from rfl, e_put15 (by decide), b1s, e_put15 (by decide), b1s, b1s, b1s]
          obtain ⟨B, x1, x2, x3, x4, x5⟩ := L_dcl (S0 := tk_I (tk_I M 8 (nI b)) 4 (nI b)) hHT.2.2.2.2 6 (by omega)
          rw [show nI 0 = (0 : Int32) from rfl, x1, show 64 - 6 = 57 + 1 from rfl, f_X7_declares_26_s, if_pos (show (6 : Int32) ≤ nI 6 by decide)]
          unfold f_X7_begins
          rw [b1s, b1s]
          have g : ∀ i, i ≠ 4 → i ≠ 8 → B.1 i = M.1 i := fun i i1 i2 => by rw [x2, uI1, if_neg i1, uI1, if_neg i2]
          have g8 : B.1 8 = nI b := by rw [x2]; rfl
          have x5' : B.2.1 1 = S.2.1 1 := by
            rw [x5, hHT.2.2.1]
            show orr (M.2.2.1 0) 48 6 = _
            rw [hE.2.2.2.2.2.2.2.2.2.2.2.2.1]
          have aL : B.2.1 0 = S.2.1 0 := x4.trans hE.2.2.2.2.2.2.2.2.2.2.2.1
          refine simW_ok rfl rfl (Rel.mono (k := k) ⟨⟨rfl, ?_, g8, (g 9 (by decide) (by decide)).trans hE.2.2.2.1, (g 11 (by decide) (by decide)).trans hE.2.2.2.2.1, (g 10 (by decide) (by decide)).trans hE.2.2.2.2.2.1, (g 6 (by decide) (by decide)).trans hE.2.2.2.2.2.2.1, (g 7 (by decide) (by decide)).trans hE.2.2.2.2.2.2.2.1, (g 17 (by decide) (by decide)).trans hE.2.2.2.2.2.2.2.2.1, (g 15 (by decide) (by decide)).trans hE.2.2.2.2.2.2.2.2.2.1, (g 18 (by decide) (by decide)).trans hE.2.2.2.2.2.2.2.2.2.2.1, aL, ?_⟩, ?_, ?_, Or.inl e6, Or.inr ⟨b, b4, rfl⟩, ⟨fun _ _ => ⟨fun _ => ?_, fun _ => e4⟩, hK.2.1, hK.2.2.1, fun s o hs ho es eo => absurd es (hn3 s hs)⟩, hC, Or.inr ⟨rfl, ?_, ?_⟩, hZ, ?_⟩ (Nat.le_succ k)) ((g 0 (by decide) (by decide)).trans h0)
          · show B.1 3 = S.1 0
            rw [g 3 (by decide) (by decide), y3, y2]
          · show B.2.2.1 0 = S.2.2.1 0 ∧ B.2.2.1 3 = S.2.2.1 1 ∧ B.2.2.1 4 = S.2.2.1 2 ∧ B.2.2.1 5 = S.2.2.1 3 ∧ B.2.2.2 0 = S.2.2.2 0
            rw [x3]; exact hE.2.2.2.2.2.2.2.2.2.2.2.2
          · show ∃ b0 b1 : Nat, b0 < 2 ∧ b1 < 2 ∧ S.1 8 = nI (b0 + 2 * b1) ∧ B.2.2.1 2 0 = nI b0 ∧ B.2.2.1 2 1 = nI b1
            rw [x3]; exact hA
          · obtain ⟨D, d1, d2, d3⟩ := hF
            exact ⟨D, d1, (g 2 (by decide) (by decide)).trans d2, d3.imp id fun ⟨x, y, z⟩ => ⟨x, y, (g 3 (by decide) (by decide)).trans z⟩⟩
          · show (3 : Int32) < S.1 11
            rw [el]; decide
          · show S.2.1 0 = pl (B.2.1 0) (B.2.2.2 1) _ _ 0
            rw [pl_zero (by rw [x3]; exact hP0.2.2.2), aL]
          · show S.2.1 1 = pl (B.2.1 1) (B.2.2.2 1) _ _ 1
            rw [pl_zero (by rw [x3]; exact hP0.2.2.2), x5']
          · refine Or.inr (Or.inr (Or.inr (Or.inr (Or.inr ⟨rfl, 5, b, f, 0, 0, by omega, by omega, b4, y1, by decide, by decide, el, rfl, f3.trans y2, (g 3 (by decide) (by decide)).trans y3, f4, f5, ?_, fun r hr => ?_, rfl, fun k hk => absurd hk (Nat.not_lt_zero k)⟩))))
            · show S.1 0 = nI ((f + 0) % 4)
              rw [y2, Nat.add_zero, Nat.mod_eq_of_lt y1]
            · show cn (S.2.2.2 0 r) = 12 - 0 - (if (r + 4 - f) % 4 < 0 then 1 else 0)
              rw [if_neg (Nat.not_lt_zero _), hHT.2.1 r hr]
        · have q5' : ¬ nI l = 5 := fun e => q5 ((nI_eq (b := 5) (by omega) (by decide)).mp e)
          rw [if_neg q5']
          have hTT : HT S M := hHT
          by_cases q44 : l = 4
          · subst q44
            rw [if_pos (show (3 : Int32) < nI 4 by decide), if_neg (show ¬ (4 : Int32) < nI 4 by decide), if_pos (show nI 4 = 4 from rfl), b1s, b1s]
            exact simW_ok rfl rfl (Rel.mono (k := k) ⟨⟨rfl, rfl, rfl, hE.2.2.2⟩, hA, hF, Or.inl e6, Or.inr ⟨b, b4, rfl⟩, ⟨fun _ _ => ⟨fun _ => (show (3 : Int32) < S.1 11 by rw [el]; decide), fun _ => e4⟩, hK.2.1, hK.2.2.1, fun s o hs ho es eo => absurd es (hn3 s hs)⟩, hC, Or.inl hP0, hZ, Or.inr (Or.inr (Or.inr (Or.inl ⟨rfl, 4, b, by omega, by omega, b4, el, rfl, hHT, hFr⟩)))⟩ (Nat.le_succ k)) h0
          · have q44' : ¬ nI l = 4 := fun e => q44 ((nI_eq (b := 4) (by omega) (by decide)).mp e)
            rw [if_neg (show ¬ (3 : Int32) < nI l from nI_nlt (b := l) (a := 3) (by omega) (by omega)), if_neg q44', b1s, b1s]
            exact simW_ok rfl rfl (Rel.mono (k := k) ⟨⟨rfl, rfl, rfl, hE.2.2.2⟩, hA, hF, Or.inl e6, Or.inr ⟨b, b4, rfl⟩, ⟨fun _ e => absurd rfl e, hK.2.1, hK.2.2.1, fun s o hs ho es eo => absurd es (hn3 s hs)⟩, hC, Or.inl hP0, hZ, Or.inr (Or.inr (Or.inl ⟨rfl, l, b, by omega, by omega, b4, el, rfl, e4, e5, e6, hHT, hFr⟩))⟩ (Nat.le_succ k)) h0
      · rw [if_neg q3, if_neg q3, b1s, if_pos rfl]; exact nx
theorem P_bid {k : Nat} {S M : tk_ST} (h : Rel k S M) (p : Int32) : SimW 1 k (f_X6_bid p S) (f_X7_bid p M) := by
  obtain ⟨hE, hA, hF, hP, hD, hK, hC, hPi, hZ, hPh⟩ := id h
  have a1 : M.1 1 = S.1 1 := hE.1
  have a6 : M.1 6 = S.1 11 := hE.2.2.2.2.2.2.1
  have q4 : ∀ X : Option (Int32 × Int32 × tk_ST), (p < 0 ∨ nI 6 ≤ p) → (if p < 0 then f_X6_bid_9 S else if p ≤ 5 then X else f_X6_bid_9 S) = some (1, 0, S) := by
    intro X hp
    rcases hp with hp | hp
    · rw [if_pos hp]; rfl
    · by_cases q : p < 0
      · rw [if_pos q]; rfl
      · rw [if_neg q, if_neg (show ¬ p ≤ 5 from Int32.not_le.mpr (lt_of_le1 (n := 5) (by decide) hp))]; rfl
  unfold f_X6_bid f_X7_bid f_X7_bid_34 f_X7_bid_38
  rcases or3 (n := 6) (by decide) (x := p) with hp | ⟨x, hx, rfl⟩
  · rw [q4 _ hp, show f_X7_isIn p 0 5 = some 0 from e_isInN (hp.imp id (fun h => lt_of_le1 (by decide) h)), b1s, if_pos rfl]
    exact simW_err h rfl rfl
  · rw [show f_X7_isIn (nI x) 0 5 = some 1 from e_isIn (a := 0) (b := 5) (by omega) (by omega) (by decide), b1s, if_neg n10, if_neg (nneg (by omega)), if_pos (show nI x ≤ 5 from nI_le (b := 5) (by omega) (by decide)), a1, a6]
    by_cases h5 : S.1 1 = 1
    · obtain ⟨P, t, hP16, ht, eP, et, ePt, ha, ep, e3, e4, e5, e6, hlb, hHT, hFr⟩ := h.bi h5
      rw [if_pos h5, if_pos h5]
      unfold f_X6_bid_62 f_X7_bid_39
      by_cases x0 : x = 0
      · subst x0
        rw [if_pos (show nI 0 ≤ 0 by decide), if_pos (show nI 0 ≤ 0 by decide), e_fine0, b2s, if_neg n10, if_pos (show nI 0 = 0 from rfl), show (tk_I M 0 0).1 4 = nI t from hE.2.1.trans et, if_neg (inR ht (by decide)), b1s, cl (by omega), et]
        unfold f_X0_enter
        rw [if_pos (show nI 0 = 0 from rfl), b1s, eP, pas_or P hP16 t ht]
        obtain ⟨r1, r2, r3⟩ := pas_f P hP16 t ht ePt
        rw [show (tk_A (tk_I M 0 0) 1 (upd ((tk_I M 0 0).2.2.1 1) t 1)).1 5 = nI (pc P) from ep, nI_1, ← r2]
        refine bid_after (S := tk_I S 10 (nI (P ||| 2 ^ t))) (M := tk_I (tk_A (tk_I M 0 0) 1 (upd ((tk_I M 0 0).2.2.1 1) t 1)) 5 (nI (pc (P ||| 2 ^ t)))) hE hA hF hP hD hK hC hPi hZ h5 rfl r1 ht rfl et (fun p hp => ?_) rfl e3 e4 e5 e6 hlb hHT hFr
        show upd (M.2.2.1 1) t 1 p = _
        rw [updE, r3 p hp]
        by_cases e : p = t
        · rw [if_pos e, if_pos e, if_pos rfl]
        · rw [if_neg e, if_neg e, ha p hp]
      · rw [if_neg (show ¬ nI x ≤ 0 from nI_nle (by omega) (by omega)), if_neg (show ¬ nI x ≤ 0 from nI_nle (by omega) (by omega))]
        by_cases ql : S.1 11 < nI x
        · rw [if_pos ql, if_pos ql, e_fine0, b2s, if_neg n10, if_neg (nI_ne0 (by omega) (by omega))]
          unfold f_X0_enter
          rw [if_neg (nI_ne0 (by omega) (by omega)), b1s, et]
          have hb : (tk_I M 0 0).1 4 = nI t := hE.2.1.trans et
          rw [hb]
          exact bid_after (S := tk_I (tk_I S 11 (nI x)) 12 (nI t)) (M := tk_I (tk_I (tk_I M 0 0) 6 (nI x)) 7 (nI t)) ⟨hE.1, hE.2.1, hE.2.2.1, hE.2.2.2.1, hE.2.2.2.2.1, hE.2.2.2.2.2.1, rfl, rfl, hE.2.2.2.2.2.2.2.2⟩ hA hF hP hD ⟨fun e => absurd e3 e, hK.2⟩ hC hPi hZ h5 rfl hP16 ht eP et ha ep e3 e4 e5 e6 (Or.inr ⟨x, t, by omega, by omega, ht, rfl, rfl⟩) hHT hFr
        · rw [if_neg ql, if_neg ql]
          exact simW_two h rfl rfl
    · rw [if_neg h5, if_neg h5]
      exact simW_two h rfl rfl
