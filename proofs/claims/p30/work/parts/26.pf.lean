/-! bid -/
theorem S_begin {D : Nat} {S : tk_ST} (hF : Fo D S) (hA : An S) (hS : Sd S) {l d : Nat} (l1 : 1 ≤ l) (l5 : l ≤ 5) (d4 : d < 4) (el : S.1 11 = nI l) (ed : S.1 3 = nI d) (hcn : ∀ p, p < 4 → cn (S.2.2.2 0 p) = 12) (hP : Pre D S) : ∃ S', f_X6_beginPlay S = some S' ∧ Inv D S' ∧ S'.1 1 = 5 ∧ (∀ i, i ≠ 1 → i ≠ 2 → S'.1 i = S.1 i) ∧ S'.2.2.2 0 = S.2.2.2 0 ∧ S'.2.2.2 1 0 = S.2.1 0 := by
  obtain ⟨e14, e9, p0, p1, hDj, hTot, ⟨f, f4, ef, e13⟩, hB⟩ := hP
  have h210 : th (S.2.1 0) + th (S.2.1 1) ≤ 210 := by
    unfold Tot at hTot; omega
  unfold f_X6_beginPlay
  rw [e_p0, b1s, e_p1, b1s]
  refine ⟨_, rfl, ⟨hF, hA, hS, ⟨hDj.crd, 0, by omega, e9, h210, fun e => absurd e (by decide)⟩, Or.inr (Or.inr (Or.inr (Or.inr (Or.inr ⟨rfl, l, d, f, 0, 0, fun _ => 0, l1, l5, d4, f4, by decide, by decide, el, ed, e13, e14, e9, ?_, fun p hp => ?_, fun j hj => absurd hj (Nat.not_lt_zero j), hDj, hTot, hB⟩))))⟩, rfl, fun i i1 i2 => ?_, rfl, rfl⟩
  · show S.1 0 = nI ((f + 0) % 4)
    rw [ef, Nat.add_zero, Nat.mod_eq_of_lt f4]
  · show cn (S.2.2.2 0 p) = 12 - 0 - (if (p + 4 - f) % 4 < 0 then 1 else 0)
    rw [if_neg (Nat.not_lt_zero _), hcn p hp]
  · rw [uI1, if_neg i2, uI1, if_neg i1]; rfl
theorem nxt_n : ∀ P, P < 16 → P ≠ 15 → ∀ t, t < 4 → (P.testBit t = true ∨ pc P ≤ 2) → nxt P t ≠ t := by decide +kernel
def BidOut (S S' : tk_ST) (r : Int32) : Prop := r = S'.1 1 ∧ ((r = 1 ∧ S'.1 2 ≠ S.1 2 ∧ S'.1 3 = -1) ∨ (r = 0 ∧ S'.1 11 = 0) ∨ ∃ l d, 1 ≤ l ∧ l ≤ 5 ∧ d < 4 ∧ S'.1 11 = nI l ∧ S'.1 3 = nI d ∧ r = (if l < 4 then 2 else if l = 4 then 3 else 5))
theorem S_after {D : Nat} {S : tk_ST} (hF : Fo D S) (hA : An S) (hPl : Pls S) (h1 : S.1 1 = 1) {P t : Nat} (hP16 : P < 16) (ht : t < 4) (eP : S.1 10 = nI P) (et : S.1 2 = nI t) (e3 : S.1 3 = -1) (e4 : S.1 4 = -1) (e5 : S.1 5 = -1) (e6 : S.1 6 = -1) (hlb : (S.1 11 = 0 ∧ S.1 12 = -1) ∨ ∃ l b, 1 ≤ l ∧ l ≤ 5 ∧ b < 4 ∧ S.1 11 = nI l ∧ S.1 12 = nI b ∧ pc P ≤ 3) (hT : P.testBit t = true ∨ S.1 12 ≠ -1) (hDe : De S) (hPr : Pre D S) : ∃ r S', hbt S = some (0, r, S') ∧ Inv D S' ∧ S'.1 11 = S.1 11 ∧ BidOut S S' r := by
  have p4 := pc4 P hP16
  have hl : ∃ l, l ≤ 5 ∧ S.1 11 = nI l := by
    rcases hlb with ⟨e, -⟩ | ⟨l, b, -, l5, -, e, -⟩
    · exact ⟨0, by omega, e⟩
    · exact ⟨l, l5, e⟩
  unfold hbt f_X0_allPassed
  rw [eP, e_bitc P hP16, b1s]
  by_cases q4 : pc P = 4
  · rw [q4, if_pos (show nI 4 = 4 from rfl), b1s, if_neg n10]
    unfold f_X6_endDeal
    rw [b1s]
    rcases hlb with ⟨el, eb⟩ | ⟨l, b, -, -, -, -, -, q⟩
    · exact ⟨0, _, rfl, ⟨hF, hA, ⟨Or.inl e3, Or.inl e6, Or.inl e4, Or.inl e5, 0, by omega, el, fun e => absurd e3 e, fun e => absurd e4 e⟩, hPl, Or.inl ⟨rfl, rfl, hPr.1, hPr.2.2.2.2.2.2.2.rad⟩⟩, rfl, rfl, Or.inr (Or.inl ⟨rfl, el⟩)⟩
    · omega
  · have h15 : P ≠ 15 := fun e => q4 (p4.1.mpr e)
    have q4' : ¬ nI (pc P) = 4 := fun e => q4 ((nI_eq (b := 4) (by omega) (by decide)).mp e)
    have hn := nxt_f P hP16 h15 t ht
    have nx : (P.testBit t = true ∨ pc P ≤ 2) → ((S.1 11 = 0 ∧ S.1 12 = -1) ∨ ∃ l b, 1 ≤ l ∧ l ≤ 5 ∧ b < 4 ∧ S.1 11 = nI l ∧ S.1 12 = nI b ∧ pc P ≤ 2) → ∃ r S', (tk_b1 (f_X0_nextBehind (S.1 2) S) fun r12 => some ((0 : Int32), (S.1 1), (tk_I S 2 r12))) = some (0, r, S') ∧ Inv D S' ∧ S'.1 11 = S.1 11 ∧ BidOut S S' r := by
      intro hT2 hlb2
      obtain ⟨l, l5, el⟩ := hl
      rw [et, e_next hP16 ht eP, b1s]
      refine ⟨_, _, rfl, ⟨hF, hA, ⟨Or.inl e3, Or.inl e6, Or.inl e4, Or.inl e5, l, l5, el, fun e => absurd e3 e, fun e => absurd e4 e⟩, hPl, Or.inr (Or.inl ⟨h1, P, nxt P t, hP16, hn.1, eP, rfl, hn.2, e3, e4, e5, e6, hlb2, hDe, hPr⟩)⟩, rfl, rfl, Or.inl ⟨h1, ?_, e3⟩⟩
      show nI (nxt P t) ≠ S.1 2
      rw [et]
      exact fun e => nxt_n P hP16 h15 t ht hT2 ((nI_eq (by omega) (by omega)).mp e)
    rw [if_neg q4', b1s, if_pos rfl]
    unfold f_X0_isSettled
    rw [eP, e_bitc P hP16, b1s]
    rcases hlb with ⟨el, eb⟩ | ⟨l, b, l1, l5, b4, el, eb, pl3⟩
    · rw [if_pos eb, b1s, if_pos rfl]
      exact nx (Or.inl (hT.resolve_right (fun e => e eb))) (Or.inl ⟨el, eb⟩)
    · rw [if_neg (show ¬ S.1 12 = -1 by rw [eb]; exact n1I (by omega))]
      by_cases q3 : pc P = 3
      · rw [if_pos (show nI (pc P) = 3 by rw [q3]; rfl), b1s, if_neg n10]
        unfold f_X6_beginGame
        rw [el, eb]
        have hS3 : Sd (tk_I (tk_I S 3 (nI b)) 2 (nI b)) := ⟨Or.inr ⟨b, b4, rfl⟩, Or.inl e6, Or.inl e4, Or.inl e5, l, l5, el, fun _ => l1, fun e => absurd e4 e⟩
        by_cases q5 : l = 5
        · subst q5
          rw [if_pos (show (3 : Int32) < nI 5 by decide), if_pos (show (4 : Int32) < nI 5 by decide)]
          obtain ⟨B, x1, x2, x3, x4, x5, x6⟩ := S_begin (D := D) (S := tk_I (tk_I S 3 (nI b)) 2 (nI b)) hF hA hS3 l1 l5 b4 el rfl hDe.2.1 hPr
          rw [x1, b1s, b1s]
          refine ⟨_, _, rfl, x2, (x4 11 (by decide) (by decide)).trans el, rfl, Or.inr (Or.inr ⟨5, b, l1, l5, b4, (x4 11 (by decide) (by decide)).trans el, x4 3 (by decide) (by decide), ?_⟩)⟩
          rw [x3]; rfl
        · by_cases q44 : l = 4
          · subst q44
            rw [if_pos (show (3 : Int32) < nI 4 by decide), if_neg (show ¬ (4 : Int32) < nI 4 by decide), b1s]
            exact ⟨_, _, rfl, ⟨hF, hA, hS3, hPl, Or.inr (Or.inr (Or.inr (Or.inl ⟨rfl, 4, b, by omega, by omega, b4, el, rfl, hDe, hPr⟩)))⟩, el, rfl, Or.inr (Or.inr ⟨4, b, l1, l5, b4, el, rfl, rfl⟩)⟩
          · rw [if_neg (show ¬ (3 : Int32) < nI l from nI_nlt (b := l) (a := 3) (by omega) (by omega)), b1s]
            refine ⟨_, _, rfl, ⟨hF, hA, hS3, hPl, Or.inr (Or.inr (Or.inl ⟨rfl, l, b, by omega, by omega, b4, el, rfl, hDe, hPr⟩))⟩, el, rfl, Or.inr (Or.inr ⟨l, b, l1, l5, b4, el, rfl, ?_⟩)⟩
            rw [if_pos (show l < 4 by omega)]; rfl
      · rw [if_neg (show ¬ nI (pc P) = 3 from fun e => q3 ((nI_eq (b := 3) (by omega) (by decide)).mp e)), b1s, if_pos rfl]
        exact nx (Or.inr (by omega)) (Or.inr ⟨l, b, l1, l5, b4, el, eb, by omega⟩)
theorem S_bid {D : Nat} {S : tk_ST} (h : Inv D S) (h1 : S.1 1 = 1) {x : Nat} (hx : x < 6) : (0 < x ∧ ¬ S.1 11 < nI x ∧ f_X6_bid (nI x) S = some (2, 0, S)) ∨ ((x = 0 ∨ S.1 11 < nI x) ∧ ∃ r S', f_X6_bid (nI x) S = some (0, r, S') ∧ Inv D S' ∧ S'.1 11 = (if x = 0 then S.1 11 else nI x) ∧ BidOut S S' r) := by
  obtain ⟨hF, hA, hS, hPl, -⟩ := id h
  obtain ⟨P, t, hP16, ht, eP, et, ePt, e3, e4, e5, e6, hlb, hDe, hPr⟩ := h.b h1
  unfold f_X6_bid
  rw [if_neg (nneg (by omega)), if_pos (show nI x ≤ 5 from nI_le (b := 5) (by omega) (by decide)), if_pos h1]
  unfold f_X6_bid_62
  by_cases x0 : x = 0
  · subst x0
    refine Or.inr ⟨Or.inl rfl, ?_⟩
    rw [if_pos (show nI 0 ≤ 0 by decide), et]
    unfold f_X0_enter
    rw [if_pos (show nI 0 = 0 from rfl), b1s, eP, pas_or P hP16 t ht]
    obtain ⟨r1, r2, r3⟩ := pas_f P hP16 t ht ePt
    have r4 := r3 t ht
    rw [if_pos rfl] at r4
    obtain ⟨r, S', a1, a2, a3, a4⟩ := S_after (D := D) (S := tk_I S 10 (nI (P ||| 2 ^ t))) hF hA hPl h1 r1 ht rfl et e3 e4 e5 e6 (by
      rcases hlb with q | ⟨l, b, l1, l5, b4, el, eb, q⟩
      · exact Or.inl q
      · exact Or.inr ⟨l, b, l1, l5, b4, el, eb, by omega⟩) (Or.inl r4) hDe hPr
    exact ⟨r, S', a1, a2, a3, a4⟩
  · rw [if_neg (show ¬ nI x ≤ 0 from nI_nle (by omega) (by omega))]
    by_cases ql : S.1 11 < nI x
    · refine Or.inr ⟨Or.inr ql, ?_⟩
      rw [if_pos ql, et]
      unfold f_X0_enter
      rw [if_neg (nI_ne0 (by omega) (by omega)), b1s, if_neg x0]
      have p3 : pc P ≤ 3 := by
        have := pas_f P hP16 t ht ePt
        have := (pc4 _ this.1).2
        omega
      obtain ⟨r, S', a1, a2, a3, a4⟩ := S_after (D := D) (S := tk_I (tk_I S 11 (nI x)) 12 (nI t)) hF hA hPl h1 hP16 ht eP et e3 e4 e5 e6 (Or.inr ⟨x, t, by omega, by omega, ht, rfl, rfl, p3⟩) (Or.inr (n1I (by omega))) hDe hPr
      exact ⟨r, S', a1, a2, a3, a4⟩
    · refine Or.inl ⟨by omega, ql, ?_⟩
      rw [if_neg ql]
