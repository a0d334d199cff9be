/-! the end of a deal -/
def P5 (v : Int32) : Prop := v = 0 ∨ v = 25 ∨ v = -25 ∨ v = 50 ∨ v = -50
def K5 (v : Int32) : Prop := v = 0 ∨ v = 10 ∨ v = -10 ∨ v = 20 ∨ v = -20
theorem P5_pag (b0 : Nat) (x k z : Int32) : P5 (if b0 = 0 then (if x = -1 then 0 else if k = z then 25 else -25) else (if k = 0 then -50 else if z = 0 then -50 else 50)) := by
  unfold P5
  by_cases h0 : b0 = 0
  · rw [if_pos h0]
    by_cases h1 : x = -1
    · rw [if_pos h1]; exact Or.inl rfl
    · rw [if_neg h1]
      by_cases h2 : k = z
      · rw [if_pos h2]; exact Or.inr (Or.inl rfl)
      · rw [if_neg h2]; exact Or.inr (Or.inr (Or.inl rfl))
  · rw [if_neg h0]
    by_cases h1 : k = 0
    · rw [if_pos h1]; exact Or.inr (Or.inr (Or.inr (Or.inr rfl)))
    · rw [if_neg h1]
      by_cases h2 : z = 0
      · rw [if_pos h2]; exact Or.inr (Or.inr (Or.inr (Or.inr rfl)))
      · rw [if_neg h2]; exact Or.inr (Or.inr (Or.inr (Or.inl rfl)))
theorem K5_kin (b1 : Nat) (x k : Int32) : K5 (if b1 = 0 then (if x = 0 then 0 else if k = 0 then -10 else 10) else (if k = 0 then -20 else 20)) := by
  unfold K5
  by_cases h0 : b1 = 0
  · rw [if_pos h0]
    by_cases h1 : x = 0
    · rw [if_pos h1]; exact Or.inl rfl
    · rw [if_neg h1]
      by_cases h2 : k = 0
      · rw [if_pos h2]; exact Or.inr (Or.inr (Or.inl rfl))
      · rw [if_neg h2]; exact Or.inr (Or.inl rfl)
  · rw [if_neg h0]
    by_cases h1 : k = 0
    · rw [if_pos h1]; exact Or.inr (Or.inr (Or.inr (Or.inr rfl)))
    · rw [if_neg h1]; exact Or.inr (Or.inr (Or.inr (Or.inl rfl)))
theorem S_pagat {S : tk_ST} {kc : Nat → Nat} {L b0 b1 : Nat} (hL : L < 4) (eL : S.1 13 = nI L) (hk : Trk (S.2.2.1 1) kc) (e : S.1 14 = nI 4) (h0 : b0 < 2) (h1 : b1 < 2) (eb : S.1 8 = nI (b0 + 2 * b1)) (w : Int32) : ∃ v, f_X6_pagatPoints w S = some v ∧ P5 v := by
  have hp : f_X5_playerOf (32 : Int32) S = some (if fnd kc 32 < 4 then nI ((L + fnd kc 32) % 4) else -1) := e_plOf hL eL hk e (by decide)
  unfold f_X6_pagatPoints
  rw [hp, b1s]
  generalize (if fnd kc 32 < 4 then nI ((L + fnd kc 32) % 4) else -1) = x
  have key : ∀ k : Int32, ∃ v, f_X6_pagatPoints_20 x k S = some v ∧ P5 v := by
    intro k
    refine ⟨_, e_pag20 h0 h1 eb x k, ?_⟩
    exact P5_pag b0 x k _
  by_cases q : x = w
  · rw [if_pos q]; exact key 1
  · rw [if_neg q]; exact key 0
theorem S_king {S : tk_ST} {kc : Nat → Nat} {L b0 b1 : Nat} (hL : L < 4) (eL : S.1 13 = nI L) (hk : Trk (S.2.2.1 1) kc) (e : S.1 14 = nI 4) (h0 : b0 < 2) (h1 : b1 < 2) (eb : S.1 8 = nI (b0 + 2 * b1)) (hs : S.1 4 = -1 ∨ ∃ s, s < 4 ∧ S.1 4 = nI s) (w : Int32) : ∃ v, f_X6_kingPoints w S = some v ∧ K5 v := by
  have key : ∀ x k : Int32, ∃ v, f_X6_kingPoints_46 x k S = some v ∧ K5 v := by
    intro x k
    refine ⟨_, e_kin46 h0 h1 eb x k, ?_⟩
    exact K5_kin b1 x k
  have k28 : ∀ k : Int32, ∃ v, f_X6_kingPoints_28 w k S = some v ∧ K5 v := by
    intro k
    unfold f_X6_kingPoints_28 f_X6_kingPoints_45
    by_cases q : k = 0
    · rw [if_pos q]; exact key _ _
    · rw [if_neg q, e_side, b1s]
      by_cases r : sd w (S.1 3) (S.1 6) = 0
      · rw [if_pos r]; exact key _ _
      · rw [if_neg r]; exact key _ _
  unfold f_X6_kingPoints f_X6_kingPoints_27
  rcases hs with hs | ⟨s, s4, es⟩
  · rw [if_pos hs]; exact k28 0
  · have hn : ¬ S.1 4 = -1 := by rw [es]; exact n1I (by omega)
    unfold f_X6_calledKing
    rw [if_neg hn, es, e_king s4, b1s, e_plOf hL eL hk e (by omega), b1s]
    generalize (if fnd kc (8 * s + 7) < 4 then nI ((L + fnd kc (8 * s + 7)) % 4) else -1) = x
    by_cases q : x = -1
    · rw [if_pos q]; exact k28 0
    · rw [if_neg q]; exact k28 1
/-- what the game counts, as the law has it -/
def gmL (l t : Nat) : Int32 :=
  if t ≤ 105 then -((if l = 5 then 0 else ((105 : Int32) - nI t) / 3) + (if l = 4 then 50 else if l = 5 then 80 else (10 : Int32) * nI l))
  else (if l = 5 then 0 else (nI t - (105 : Int32)) / 3) + (if l = 4 then 50 else if l = 5 then 80 else (10 : Int32) * nI l)
theorem e_gm : ∀ l, l < 6 → 1 ≤ l → ∀ t, t < 211 → f_X6_gamePoints (nI l) (nI t) = some (gmL l t) := by decide +kernel
def Scd (S : tk_ST) : Prop := ∃ (d t l : Nat) (v1 v2 : Int32), d < 4 ∧ t ≤ 210 ∧ 1 ≤ l ∧ l ≤ 5 ∧ S.1 3 = nI d ∧ S.1 11 = nI l ∧ t = th (S.2.2.2 1 0) ∧ P5 v1 ∧ K5 v2 ∧ S.1 15 = resR (fun j => S.2.2.1 4 (4 + j)) d ((gmL l t + v1) + v2) ∧ (∀ p, p < 4 → S.2.2.1 2 p = S.2.2.1 4 p + (if sd (nI p) (nI d) (S.1 6) = 0 then S.1 15 else 0)) ∧ (∀ p, p < 4 → S.2.2.1 3 p = resA (fun j => S.2.2.1 4 (4 + j)) d t p + (if l ≤ 3 then 0 else 1)) ∧ ∃ n, n < 2 ^ 30 ∧ S.2.2.1 4 (4 + d) = nI n
theorem S_final {S : tk_ST} {d t l : Nat} (hd : d < 4) (ht : t ≤ 210) (l1 : 1 ≤ l) (l5 : l ≤ 5) (ed : S.1 3 = nI d) (hq : S.1 6 = -1 ∨ ∃ q', q' < 4 ∧ S.1 6 = nI q' ∧ S.1 6 ≠ S.1 3) (el : S.1 11 = nI l) (hth : f_X6_thirdsOf (S.2.2.2 1 0) = some (nI t)) {w v1 v2 : Int32} (h1 : f_X6_pagatPoints w S = some v1) (h2 : f_X6_kingPoints w S = some v2) :
    ∃ S', f_X6_enterResult w S = some S' ∧ (∀ i, i ≠ 15 → S'.1 i = S.1 i) ∧ Same S S' 2 3 ∧ S'.1 15 = resR (S.2.2.1 3) d ((gmL l t + v1) + v2) ∧ S'.2.2.1 2 = plus (S.2.2.1 2) (nI d) (S.1 6) (S'.1 15) ∧ ∀ j, j < 4 → S'.2.2.1 3 j = resA (S.2.2.1 3) d t j + (if l ≤ 3 then 0 else 1) := by
  have hg := e_gm l (by omega) l1 t (by omega)
  obtain ⟨Y, y1, y2, y3, y4, y5⟩ := e_enter hd (show t ≤ 702 by omega) (S.1 6) ((gmL l t + v1) + v2) S
  obtain ⟨Z, z1, z2, z3, z4⟩ := e_62 hd (q := S.1 6) (hq.imp id fun ⟨q', a, b, c⟩ => ⟨q', a, b, fun e => c (e.trans ed.symm)⟩) Y
  have hS : f_X6_enterResult w S = (if nI l ≤ 3 then some Z else (tk_b1 (f_X4_giveRadli Z) fun S25 => some S25)) := by
    unfold f_X6_enterResult
    rw [show f_X3_at_p15 (0 : Int32) S = some (S.2.2.2 1 0) from e_at15 (j := 0) (by decide) S, b1s, hth, b1s, el, hg, b1s, h1, b1s, h2, b1s, e_won (show t ≤ 702 by omega), b1s, ed, y1, z1, b1s]
  have hZS : ∀ i, i ≠ 15 → Z.1 i = S.1 i := fun i hi => by rw [z2]; exact y3 i hi
  have z15 : Z.1 15 = resR (S.2.2.1 3) d ((gmL l t + v1) + v2) := by rw [z2]; exact y2
  have zsc : Z.2.2.1 2 = plus (S.2.2.1 2) (nI d) (S.1 6) (Z.1 15) := by
    rw [z4, y4.2.2 2 (by decide) (by decide), z2]
  have zra : Z.2.2.1 3 = resA (S.2.2.1 3) d t := by
    rw [z3.2.2 3 (by decide) (by decide), y5]
  have hSm : Same S Z 2 3 := ⟨z3.1.trans y4.1, z3.2.1.trans y4.2.1, fun j h1 h2 => (z3.2.2 j h1 h1).trans (y4.2.2 j h2 h2)⟩
  by_cases q : l ≤ 3
  · rw [if_pos (show nI l ≤ 3 from nI_le (b := 3) q (by decide))] at hS
    refine ⟨Z, hS, hZS, hSm, z15, zsc, fun j hj => ?_⟩
    rw [zra, if_pos q, Int32.add_zero]
  · rw [if_neg (show ¬ nI l ≤ 3 from nI_ge (a := 3) (by omega) (by omega))] at hS
    obtain ⟨G, g1, g2, g3, g4⟩ := e_give Z
    rw [g1, b1s] at hS
    refine ⟨G, hS, fun i hi => by rw [g2]; exact hZS i hi, ⟨g3.1.trans hSm.1, g3.2.1.trans hSm.2.1, fun j h1 h2 => (g3.2.2 j h2 h2).trans (hSm.2.2 j h1 h2)⟩, by rw [g2]; exact z15, ?_, fun j hj => ?_⟩
    · rw [g3.2.2 2 (by decide) (by decide), g2]; exact zsc
    · rw [g4, zra, if_neg q]
      show _ + (if j < 4 then (1 : Int32) else 0) = _
      rw [if_pos hj]
