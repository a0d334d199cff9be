/-! bid -/
def nxt (P t : Nat) : Nat := if P.testBit ((t + 1) % 4) = true then (if P.testBit ((t + 2) % 4) = true then (if P.testBit ((t + 3) % 4) = true then t else (t + 3) % 4) else (t + 2) % 4) else (t + 1) % 4
theorem nxt_f : ∀ P, P < 16 → P ≠ 15 → ∀ t, t < 4 → nxt P t < 4 ∧ P.testBit (nxt P t) = false := by decide +kernel
theorem pas_b : ∀ P, P < 16 → ∀ j, j < 4 → (if ((nI P >>> (nI j &&& 31)) &&& (1 : Int32)) = (1 : Int32) then some (1 : Int32) else some (0 : Int32)) = some (if P.testBit j = true then 1 else 0) := by decide +kernel
theorem pas_or : ∀ P, P < 16 → ∀ t, t < 4 → (nI P ||| ((1 : Int32) <<< (nI t &&& 31))) = nI (P ||| 2 ^ t) := by decide +kernel
theorem pas_f : ∀ P, P < 16 → ∀ t, t < 4 → P.testBit t = false → P ||| 2 ^ t < 16 ∧ pc (P ||| 2 ^ t) = pc P + 1 ∧ ∀ j, j < 4 → ((P ||| 2 ^ t).testBit j = if j = t then true else P.testBit j) := by decide +kernel
theorem pc4 : ∀ P, P < 16 → (pc P = 4 ↔ P = 15) ∧ pc P ≤ 4 := by decide +kernel
theorem e_pas {S : tk_ST} {P j : Nat} (hP : P < 16) (hj : j < 4) (e : S.1 10 = nI P) : f_X0_hasPassed (nI j) S = some (if P.testBit j = true then 1 else 0) := by
  unfold f_X0_hasPassed; rw [e, pas_b P hP j hj]
theorem e_next {S : tk_ST} {P t : Nat} (hP : P < 16) (ht : t < 4) (e : S.1 10 = nI P) : f_X0_nextBehind (nI t) S = some (nI (nxt P t)) := by
  unfold f_X0_nextBehind nxt
  rw [e_behind ht, b1s]
  have st : ∀ n x j, j < 4 → x < 4 → f_X0_nextBehind_7 (n + 1) (nI j) (nI x) S = if P.testBit j = true then f_X0_nextBehind_7 n (nI ((j + 1) % 4)) (nI (x + 1)) S else some (nI j) := by
    intro n x j hj hx
    rw [f_X0_nextBehind_7_s, if_neg (show ¬ (4 : Int32) ≤ nI x from nI_ge (b := 4) hx (by decide)), e_pas hP hj e, b1s]
    by_cases q : P.testBit j = true
    · rw [if_pos q, if_neg n10, e_behind hj, b1s, nI_1, if_pos q]
    · rw [if_neg q, if_pos rfl, if_neg q]
  show f_X0_nextBehind_7 (63 + 1) (nI ((t + 1) % 4)) (nI 1) S = _
  rw [st 63 1 _ (by omega) (by omega)]
  by_cases q1 : P.testBit ((t + 1) % 4) = true
  · rw [if_pos q1, if_pos q1, st 62 2 _ (by omega) (by omega), show ((t + 1) % 4 + 1) % 4 = (t + 2) % 4 by omega]
    by_cases q2 : P.testBit ((t + 2) % 4) = true
    · rw [if_pos q2, if_pos q2, st 61 3 _ (by omega) (by omega), show ((t + 2) % 4 + 1) % 4 = (t + 3) % 4 by omega]
      by_cases q3 : P.testBit ((t + 3) % 4) = true
      · rw [if_pos q3, if_pos q3, f_X0_nextBehind_7_s, if_pos (show (4 : Int32) ≤ nI (3 + 1) by decide), show ((t + 3) % 4 + 1) % 4 = t by omega]
      · rw [if_neg q3, if_neg q3]
    · rw [if_neg q2, if_neg q2]
  · rw [if_neg q1, if_neg q1]
theorem L_bidM {S : tk_ST} {P j : Nat} (hj : j < 4) (e : S.1 4 = nI j) (ha : ∀ p, p < 4 → S.2.2.1 1 p = if P.testBit p = true then 1 else 0) (n : Nat) : f_X7_bid_143 (n + 1) S = if P.testBit j = true then f_X7_bid_143 n (tk_I S 4 (nI ((j + 1) % 4))) else some (S.1 1, S) := by
  rw [f_X7_bid_143_s, e, if_neg (inR hj (by decide)), cl (by omega), ha j hj]
  by_cases q : P.testBit j = true
  · rw [if_pos q, if_neg n10, if_pos q, nI_1, show (4 : Int32) = nI 4 from rfl, e_rem (by omega) (by decide) (by decide)]
  · rw [if_neg q, if_pos rfl, if_neg q]
theorem e_nextM {S : tk_ST} {P t : Nat} (hP : P < 16) (h15 : P ≠ 15) (ht : t < 4) (e : S.1 4 = nI t) (ha : ∀ p, p < 4 → S.2.2.1 1 p = if P.testBit p = true then 1 else 0) : ∃ S', f_X7_bid_131 S = some (S.1 1, S') ∧ S'.1 4 = nI (nxt P t) ∧ (∀ i, i ≠ 4 → S'.1 i = S.1 i) ∧ S'.2 = S.2 := by
  have hn := nxt_f P hP h15 t ht
  unfold f_X7_bid_131
  unfold nxt at hn ⊢
  rw [e, nI_1, show (4 : Int32) = nI 4 from rfl, e_rem (by omega) (by decide) (by decide)]
  have g : ∀ (A : tk_ST) v, (∀ i, i ≠ 4 → A.1 i = S.1 i) → ∀ i, i ≠ 4 → (tk_I A 4 v).1 i = S.1 i := fun A v hA i hi => by rw [uI1, if_neg hi]; exact hA i hi
  have g0 := g S (nI ((t + 1) % 4)) (fun _ _ => rfl)
  show ∃ S', f_X7_bid_143 (63 + 1) _ = _ ∧ _
  rw [L_bidM (S := tk_I S 4 (nI ((t + 1) % 4))) (P := P) (j := (t + 1) % 4) (by omega) rfl ha]
  by_cases q1 : P.testBit ((t + 1) % 4) = true
  · rw [if_pos q1, L_bidM (S := tk_I (tk_I S 4 (nI ((t + 1) % 4))) 4 (nI (((t + 1) % 4 + 1) % 4))) (P := P) (j := ((t + 1) % 4 + 1) % 4) (by omega) rfl ha 62, show ((t + 1) % 4 + 1) % 4 = (t + 2) % 4 by omega]
    rw [if_pos q1]
    have g1 := g _ (nI ((t + 2) % 4)) g0
    by_cases q2 : P.testBit ((t + 2) % 4) = true
    · rw [if_pos q2, L_bidM (S := tk_I (tk_I (tk_I S 4 (nI ((t + 1) % 4))) 4 (nI ((t + 2) % 4))) 4 (nI (((t + 2) % 4 + 1) % 4))) (P := P) (j := ((t + 2) % 4 + 1) % 4) (by omega) rfl ha 61, show ((t + 2) % 4 + 1) % 4 = (t + 3) % 4 by omega]
      rw [if_pos q2]
      have g2 := g _ (nI ((t + 3) % 4)) g1
      by_cases q3 : P.testBit ((t + 3) % 4) = true
      · rw [if_pos q3, L_bidM (S := tk_I (tk_I (tk_I (tk_I S 4 (nI ((t + 1) % 4))) 4 (nI ((t + 2) % 4))) 4 (nI ((t + 3) % 4))) 4 (nI (((t + 3) % 4 + 1) % 4))) (P := P) (j := ((t + 3) % 4 + 1) % 4) (by omega) rfl ha 60, show ((t + 3) % 4 + 1) % 4 = t by omega]
        rw [if_pos q3]
        rw [if_pos q1, if_pos q2, if_pos q3] at hn
        rw [if_neg (by rw [hn.2]; decide)]
        exact ⟨_, rfl, rfl, g _ (nI t) g2, rfl⟩
      · rw [if_neg q3, if_neg q3]
        exact ⟨_, rfl, rfl, g2, rfl⟩
    · rw [if_neg q2, if_neg q2]
      exact ⟨_, rfl, rfl, g1, rfl⟩
  · rw [if_neg q1, if_neg q1]
    exact ⟨_, rfl, rfl, g0, rfl⟩
