/-! pagat and king -/
theorem e_pag39 {S : tk_ST} {b0 b1 : Nat} (h0 : b0 < 2) (h1 : b1 < 2) (e : S.1 8 = nI (b0 + 2 * b1)) (x x3 k : Int32) : f_X6_pagatPoints_39 x x3 k S = some (if b0 = 0 then (if x = -1 then 0 else if x3 = k then 25 else -25) else (if x3 = 0 then -50 else if k = 0 then -50 else 50)) := by
  unfold f_X6_pagatPoints_39
  rw [show f_X6_isAnnounced (0 : Int32) S = some (nI b0) from e_ann (j := 0) h0 h1 (by decide) e, b1s]
  rcases (show b0 = 0 ∨ b0 = 1 by omega) with rfl | rfl
  · rw [if_pos (show nI 0 = 0 from rfl), if_pos rfl]
    by_cases q : x = -1
    · rw [if_pos q, if_pos q]
    · rw [if_neg q, if_neg q]
      by_cases q : x3 = k
      · rw [if_pos q, if_pos q]
      · rw [if_neg q, if_neg q]
  · rw [if_neg (show ¬ nI 1 = 0 from n10), if_neg (by decide : ¬ 1 = 0)]
    by_cases q : x3 = 0
    · rw [if_pos q, if_pos q]
    · rw [if_neg q, if_neg q]
      by_cases q : k = 0
      · rw [if_pos q, if_pos q]
      · rw [if_neg q, if_neg q]
theorem e_pag20 {S : tk_ST} {b0 b1 : Nat} (h0 : b0 < 2) (h1 : b1 < 2) (e : S.1 8 = nI (b0 + 2 * b1)) (x k : Int32) : f_X6_pagatPoints_20 x k S = some (if b0 = 0 then (if x = -1 then 0 else if k = (if x = -1 then 0 else if sd x (S.1 3) (S.1 6) = 0 then 1 else 0) then 25 else -25) else (if k = 0 then -50 else if (if x = -1 then (0 : Int32) else if sd x (S.1 3) (S.1 6) = 0 then 1 else 0) = 0 then -50 else 50)) := by
  unfold f_X6_pagatPoints_20 f_X6_pagatPoints_38
  by_cases q : x = -1
  · rw [if_pos q, e_pag39 h0 h1 e, if_pos q]
    simp only [if_pos q]
  · rw [if_neg q, e_side, b1s, if_neg q]
    simp only [if_neg q]
    by_cases r : sd x (S.1 3) (S.1 6) = 0
    · rw [if_pos r, e_pag39 h0 h1 e]; simp only [if_pos r, if_neg q]
    · rw [if_neg r, e_pag39 h0 h1 e]; simp only [if_neg r, if_neg q]
theorem e_pag47 {M : tk_ST} {b0 : Nat} (h0 : b0 < 2) (e : M.2.2.1 2 0 = nI b0) (x s k : Int32) : f_X7_pagatCount_47 x s k M = some (if b0 = 0 then (if x = -1 then 0 else if s = 0 then (if k = 1 then 25 else -25) else (if k = 0 then 25 else -25)) else (if k = 0 then -50 else if s = 0 then 50 else -50)) := by
  unfold f_X7_pagatCount_47 f_X7_pagatCount_92
  rw [if_neg (show ¬ ((0 : Int32) < 0 ∨ 2 ≤ (0 : Int32).toNatClampNeg) by decide), show M.2.2.1 2 (0 : Int32).toNatClampNeg = nI b0 from e]
  rcases (show b0 = 0 ∨ b0 = 1 by omega) with rfl | rfl
  · rw [if_pos (show nI 0 = 0 from rfl), if_pos rfl]
    by_cases q : x = -1
    · rw [if_pos q, if_pos q]
    · rw [if_neg q, if_neg q]
      by_cases q : s = 0
      · rw [if_pos q, if_pos q]
        by_cases q : k = 1
        · rw [if_pos q, if_pos q]
        · rw [if_neg q, if_neg q]
      · rw [if_neg q, if_neg q]
        by_cases q : k = 0
        · rw [if_pos q, if_pos q]
        · rw [if_neg q, if_neg q]
  · rw [if_neg (show ¬ nI 1 = 0 from n10), if_neg (by decide : ¬ 1 = 0)]
    by_cases q : k = 0
    · rw [if_pos q, if_pos q]
    · rw [if_neg q, if_neg q]
      by_cases q : s = 0
      · rw [if_pos q, if_pos q]
      · rw [if_neg q, if_neg q]
theorem sd01 (p d q : Int32) : sd p d q = 0 ∨ sd p d q = 1 := by
  unfold sd
  by_cases h : p = d
  · rw [if_pos h]; exact Or.inl rfl
  · rw [if_neg h]
    by_cases h : p = q
    · rw [if_pos h]; exact Or.inl rfl
    · rw [if_neg h]; exact Or.inr rfl
theorem e_pagat {S M : tk_ST} {kc : Nat → Nat} {L b0 b1 : Nat} (hL : L < 4) (eL : S.1 13 = nI L) (eLM : M.1 16 = nI L) (hk : Trk (S.2.2.1 1) kc) (hkM : Trk (M.2.2.1 3) kc) (e : S.1 14 = nI 4) (eM : M.1 15 = nI 4) (h0 : b0 < 2) (h1 : b1 < 2) (eb : S.1 8 = nI (b0 + 2 * b1)) (em0 : M.2.2.1 2 0 = nI b0) (a8 : M.1 8 = S.1 3) (a10 : M.1 10 = S.1 6) : ∃ v, f_X6_pagatPoints (nI ((L + bst kc) % 4)) S = some v ∧ f_X7_pagatCount M = some v := by
  have hB := bst_lt kc
  have hp : f_X5_playerOf (32 : Int32) S = some (if fnd kc 32 < 4 then nI ((L + fnd kc 32) % 4) else -1) := e_plOf hL eL hk e (by decide)
  have hpM : f_X7_placeOf (32 : Int32) M = some (if fnd kc 32 < 4 then nI (fnd kc 32) else -1) := e_place hkM eM (by decide)
  unfold f_X6_pagatPoints f_X7_pagatCount f_X7_pagatCount_28 f_X7_pagatCount_46
  rw [hp, hpM, b1s, b1s]
  by_cases hP : fnd kc 32 < 4
  · rw [if_pos hP, if_pos hP, if_neg (show ¬ nI (fnd kc 32) = -1 from n1I (by omega)), eLM, nI_add, show (4 : Int32) = nI 4 from rfl, e_rem (by omega) (by decide) (by decide), e_sideM _ S M (n1I (by omega)) a8 a10, b1s, if_neg (show ¬ nI (fnd kc 32) = -1 from n1I (by omega)), e_best hkM eM, b1s]
    have nx : ¬ nI ((L + fnd kc 32) % 4) = -1 := n1I (by omega)
    have nx2 : ¬ nI (fnd kc 32) = -1 := n1I (by omega)
    simp only [e_pag20 h0 h1 eb, e_pag47 h0 em0, if_neg nx, if_neg nx2]
    by_cases q : bst kc = fnd kc 32
    · rw [if_pos (show nI ((L + fnd kc 32) % 4) = nI ((L + bst kc) % 4) by rw [q]), if_pos (show nI (bst kc) = nI (fnd kc 32) by rw [q])]
      refine ⟨_, rfl, ?_⟩
      rcases sd01 (nI ((L + fnd kc 32) % 4)) (S.1 3) (S.1 6) with r | r
      · rw [r]; rfl
      · rw [r]; rfl
    · rw [if_neg (show ¬ nI ((L + fnd kc 32) % 4) = nI ((L + bst kc) % 4) from fun y => q (by have := (nI_eq (by omega) (by omega)).mp y; omega)), if_neg (show ¬ nI (bst kc) = nI (fnd kc 32) from fun y => q ((nI_eq (by omega) (by omega)).mp y))]
      refine ⟨_, rfl, ?_⟩
      rcases sd01 (nI ((L + fnd kc 32) % 4)) (S.1 3) (S.1 6) with r | r
      · rw [r]; rfl
      · rw [r]; rfl
  · rw [if_neg hP, if_neg hP, if_pos rfl, if_pos rfl, e_pag47 h0 em0, if_neg (show ¬ (-1 : Int32) = nI ((L + bst kc) % 4) from fun y => n1I (by omega) y.symm), e_pag20 h0 h1 eb]
    exact ⟨_, rfl, rfl⟩
theorem e_kin46 {S : tk_ST} {b0 b1 : Nat} (h0 : b0 < 2) (h1 : b1 < 2) (e : S.1 8 = nI (b0 + 2 * b1)) (x k : Int32) : f_X6_kingPoints_46 x k S = some (if b1 = 0 then (if x = 0 then 0 else if k = 0 then -10 else 10) else (if k = 0 then -20 else 20)) := by
  unfold f_X6_kingPoints_46
  rw [show f_X6_isAnnounced (1 : Int32) S = some (nI b1) from e_ann (j := 1) h0 h1 (by decide) e, b1s]
  rcases (show b1 = 0 ∨ b1 = 1 by omega) with rfl | rfl
  · rw [if_pos (show nI 0 = 0 from rfl), if_pos rfl]
    by_cases q : x = 0
    · rw [if_pos q, if_pos q]
    · rw [if_neg q, if_neg q]
      by_cases q : k = 0
      · rw [if_pos q, if_pos q]
      · rw [if_neg q, if_neg q]
  · rw [if_neg (show ¬ nI 1 = 0 from n10), if_neg (by decide : ¬ 1 = 0)]
    by_cases q : k = 0
    · rw [if_pos q, if_pos q]
    · rw [if_neg q, if_neg q]
theorem e_kin44 {M : tk_ST} {b1 : Nat} (h1 : b1 < 2) (e : M.2.2.1 2 1 = nI b1) (x k : Int32) : f_X7_kingCount_44 x k M = some (if b1 = 0 then (if x = -1 then 0 else if k = 0 then -10 else 10) else (if x = -1 then -20 else if k = 0 then -20 else 20)) := by
  unfold f_X7_kingCount_44
  rw [if_neg (show ¬ ((1 : Int32) < 0 ∨ 2 ≤ (1 : Int32).toNatClampNeg) by decide), show M.2.2.1 2 (1 : Int32).toNatClampNeg = nI b1 from e]
  rcases (show b1 = 0 ∨ b1 = 1 by omega) with rfl | rfl
  · rw [if_pos (show nI 0 = 0 from rfl), if_pos rfl]
    by_cases q : x = -1
    · rw [if_pos q, if_pos q]
    · rw [if_neg q, if_neg q]
      by_cases q : k = 0
      · rw [if_pos q, if_pos q]
      · rw [if_neg q, if_neg q]
  · rw [if_neg (show ¬ nI 1 = 0 from n10), if_neg (by decide : ¬ 1 = 0)]
    by_cases q : x = -1
    · rw [if_pos q, if_pos q]
    · rw [if_neg q, if_neg q]
      by_cases q : k = 0
      · rw [if_pos q, if_pos q]
      · rw [if_neg q, if_neg q]
theorem e_kingP {S M : tk_ST} {kc : Nat → Nat} {L b0 b1 : Nat} (hL : L < 4) (eL : S.1 13 = nI L) (eLM : M.1 16 = nI L) (hk : Trk (S.2.2.1 1) kc) (hkM : Trk (M.2.2.1 3) kc) (e : S.1 14 = nI 4) (eM : M.1 15 = nI 4) (h0 : b0 < 2) (h1 : b1 < 2) (eb : S.1 8 = nI (b0 + 2 * b1)) (em1 : M.2.2.1 2 1 = nI b1) (a8 : M.1 8 = S.1 3) (a10 : M.1 10 = S.1 6) (a9 : M.1 9 = S.1 4) (hs : S.1 4 = -1 ∨ ∃ s, s < 4 ∧ S.1 4 = nI s) : ∃ v, f_X6_kingPoints (nI ((L + bst kc) % 4)) S = some v ∧ f_X7_kingCount M = some v := by
  have hB := bst_lt kc
  have m20 : ∀ x, f_X7_kingCount_20 x M = some (if b1 = 0 then (if x = -1 then 0 else if (if sd (nI ((L + bst kc) % 4)) (S.1 3) (S.1 6) = 0 then (1 : Int32) else 0) = 0 then -10 else 10) else (if x = -1 then -20 else if (if sd (nI ((L + bst kc) % 4)) (S.1 3) (S.1 6) = 0 then (1 : Int32) else 0) = 0 then -20 else 20)) := by
    intro x
    unfold f_X7_kingCount_20
    rw [e_best hkM eM, b1s, eLM, nI_add, show (4 : Int32) = nI 4 from rfl, e_rem (by omega) (by decide) (by decide), e_sideM _ S M (n1I (by omega)) a8 a10, b1s]
    by_cases r : sd (nI ((L + bst kc) % 4)) (S.1 3) (S.1 6) = 0
    · rw [if_pos r, e_kin44 h1 em1, if_pos r]
    · rw [if_neg r, e_kin44 h1 em1, if_neg r]
  unfold f_X6_kingPoints f_X7_kingCount f_X6_kingPoints_27 f_X6_kingPoints_28 f_X6_kingPoints_45
  rw [a9]
  rcases hs with hs | ⟨s, s4, es⟩
  · rw [if_pos hs, if_pos hs, if_pos rfl, e_kin46 h0 h1 eb, m20]
    exact ⟨_, rfl, rfl⟩
  · have hn : ¬ S.1 4 = -1 := by rw [es]; exact n1I (by omega)
    unfold f_X6_calledKing f_X7_king
    rw [if_neg hn, if_neg hn, a9, es, e_king s4, b1s, b1s, e_plOf hL eL hk e (by omega), b1s, e_place hkM eM (by omega), b1s, m20]
    by_cases hP : fnd kc (8 * s + 7) < 4
    · have nx : ¬ nI ((L + fnd kc (8 * s + 7)) % 4) = -1 := n1I (by omega)
      have nx2 : ¬ nI (fnd kc (8 * s + 7)) = -1 := n1I (by omega)
      rw [if_pos hP, if_pos hP, if_neg nx, if_neg n10, e_side, b1s, if_neg nx2, if_neg nx2]
      rcases sd01 (nI ((L + bst kc) % 4)) (S.1 3) (S.1 6) with r | r
      · rw [r, if_pos rfl, e_kin46 h0 h1 eb]; exact ⟨_, rfl, rfl⟩
      · rw [r, if_neg n10, e_kin46 h0 h1 eb]; exact ⟨_, rfl, rfl⟩
    · rw [if_neg hP, if_neg hP, if_pos rfl, if_pos rfl, e_kin46 h0 h1 eb]
      exact ⟨_, rfl, rfl⟩
