theorem upd_same (f : Nat → Int32) (d : Nat) : upd f d (f d - 0) = f := by
  funext j
  rw [updE]
  by_cases e : j = d
  · rw [if_pos e, e, Int32.sub_zero]
  · rw [if_neg e]
def resR (f : Nat → Int32) (d : Nat) (pts : Int32) : Int32 := if f d ≤ 0 then pts else pts * 2
def resA (f : Nat → Int32) (d t : Nat) : Nat → Int32 := if f d ≤ 0 then f else if t ≤ 105 then f else upd f d (f d - 1)
theorem e_enter {d t : Nat} (hd : d < 4) (ht : t ≤ 702) (q pts : Int32) (S : tk_ST) : ∃ X, f_X4_enter (nI d) q pts (if t ≤ 105 then 0 else 1) S = f_X4_enter_62 (nI d) q X ∧ X.1 15 = resR (S.2.2.1 3) d pts ∧ (∀ i, i ≠ 15 → X.1 i = S.1 i) ∧ Same S X 3 3 ∧ X.2.2.1 3 = resA (S.2.2.1 3) d t := by
  unfold f_X4_enter f_X4_enter_16 f_X4_enter_31 resR resA
  rw [e_at11 hd, b1s]
  by_cases r : S.2.2.1 3 d ≤ 0
  · rw [if_pos r, if_pos rfl, if_pos rfl, if_pos r, if_pos r]
    exact ⟨_, rfl, rfl, fun i hi => by rw [uI1, if_neg hi], ⟨rfl, rfl, fun _ _ _ => rfl⟩, rfl⟩
  · rw [if_neg r, if_neg n10, if_neg n10, if_neg r, if_neg r]
    by_cases w : t ≤ 105
    · rw [if_pos w, if_pos rfl, if_pos w]
      exact ⟨_, rfl, Int32.mul_comm _ _, fun i hi => by rw [uI1, if_neg hi], ⟨rfl, rfl, fun _ _ _ => rfl⟩, rfl⟩
    · rw [if_neg w, if_neg n10, if_neg w, e_at11 hd, b1s, e_put11 hd, b1s]
      exact ⟨_, rfl, Int32.mul_comm _ _, fun i hi => by rw [uA1, uI1, if_neg hi], ⟨rfl, rfl, fun j h1 _ => by rw [uA3, if_neg h1]; rfl⟩, by rw [uA3, if_pos rfl]; rfl⟩
theorem e_scores {M : tk_ST} {d t : Nat} (hd : d < 4) (ht : t ≤ 702) (e8 : M.1 8 = nI d) {p g : Int32} (hc : f_X7_counted 0 M = some (nI t)) (hg : f_X7_gameCount (nI t) M = some g) : ∃ X, f_X7_scores p M = f_X7_scores_64 64 0 X ∧ X.1 18 = resR (M.2.2.1 5) d (g + p) ∧ (∀ i, i ≠ 18 → X.1 i = M.1 i) ∧ Same M X 5 5 ∧ X.2.2.1 5 = resA (M.2.2.1 5) d t := by
  unfold f_X7_scores f_X7_scores_60 f_X7_scores_62 resR resA
  rw [hc, b1s, hg, b1s, e8, if_neg (inR hd (by decide)), cl (by omega), if_neg (inR2 hd (by omega))]
  by_cases r : M.2.2.1 5 d ≤ 0
  · rw [if_pos r, if_pos r, if_pos r]
    exact ⟨_, rfl, rfl, fun i hi => by rw [uI1, if_neg hi], ⟨rfl, rfl, fun _ _ _ => rfl⟩, rfl⟩
  · rw [if_neg r, if_neg r, if_neg r]
    by_cases w : t ≤ 105
    · rw [if_pos (show nI t ≤ 105 from nI_le (b := 105) w (by decide)), if_neg (inR2 hd (by omega)), b1s, if_pos w]
      refine ⟨_, rfl, rfl, fun i hi => by rw [uA1, uI1, if_neg hi, uI1, if_neg hi], ⟨rfl, rfl, fun j h1 _ => by rw [uA3, if_neg h1]; rfl⟩, ?_⟩
      rw [uA3, if_pos rfl]
      exact upd_same _ _
    · rw [if_neg (show ¬ nI t ≤ 105 from nI_ge (a := 105) (by omega) (by omega)), if_neg (inR2 hd (by omega)), b1s, if_neg w]
      exact ⟨_, rfl, rfl, fun i hi => by rw [uA1, uI1, if_neg hi, uI1, if_neg hi], ⟨rfl, rfl, fun j h1 _ => by rw [uA3, if_neg h1]; rfl⟩, by rw [uA3, if_pos rfl]; rfl⟩
theorem e_won {t : Nat} (ht : t ≤ 702) : f_X6_isWon (nI t) = some (if t ≤ 105 then 0 else 1) := by
  unfold f_X6_isWon
  by_cases w : t ≤ 105
  · rw [if_pos (show nI t ≤ 105 from nI_le (b := 105) w (by decide)), if_pos w]
  · rw [if_neg (show ¬ nI t ≤ 105 from nI_ge (a := 105) (by omega) (by omega)), if_neg w]
theorem e_final {S M : tk_ST} {d t l : Nat} (hd : d < 4) (ht : t ≤ 702) (l1 : 1 ≤ l) (l5 : l ≤ 5) (ed : S.1 3 = nI d) (hq : S.1 6 = -1 ∨ ∃ q', q' < 4 ∧ S.1 6 = nI q' ∧ S.1 6 ≠ S.1 3) (el : S.1 11 = nI l) (elM : M.1 6 = nI l) (a8 : M.1 8 = S.1 3) (a10 : M.1 10 = S.1 6) (as : M.2.2.1 4 = S.2.2.1 2) (ar : M.2.2.1 5 = S.2.2.1 3) (hth : f_X6_thirdsOf (S.2.2.2 1 0) = some (nI t)) (hc : f_X7_counted 0 M = some (nI t)) {w v1 v2 : Int32} (h1 : f_X6_pagatPoints w S = some v1) (h2 : f_X6_kingPoints w S = some v2) :
    ∃ S' M', f_X6_enterResult w S = some S' ∧ f_X7_scores (v1 + v2) M = some (tk_I (tk_I M' 1 0) 4 (-1)) ∧ M'.1 18 = S'.1 15 ∧ (∀ i, i ≠ 15 → S'.1 i = S.1 i) ∧ (∀ i, i ≠ 18 → M'.1 i = M.1 i) ∧ Same S S' 2 3 ∧ Same M M' 4 5 ∧ M'.2.2.1 4 = S'.2.2.1 2 ∧ M'.2.2.1 5 = S'.2.2.1 3 := by
  obtain ⟨v0, hg1, hg2⟩ := e_game (M := M) ht l1 l5 elM
  obtain ⟨X, x1, x2, x3, x4, x5⟩ := e_scores (p := v1 + v2) hd ht (a8.trans ed) hc hg2
  obtain ⟨Y, y1, y2, y3, y4, y5⟩ := e_enter hd ht (S.1 6) ((v0 + v1) + v2) S
  obtain ⟨Z, z1, z2, z3, z4⟩ := e_62 hd (q := S.1 6) (hq.imp id fun ⟨q', a, b, c⟩ => ⟨q', a, b, fun e => c (e.trans ed.symm)⟩) Y
  obtain ⟨W, w1, w2, w3, w4, w5⟩ := L_scM (S := X) (d := nI d) (q := S.1 6) S ed rfl ((x3 8 (by decide)).trans (a8.trans ed)) ((x3 10 (by decide)).trans a10) 4 (by omega)
  have hr : X.1 18 = Y.1 15 := by rw [x2, y2, ar, Int32.add_assoc]
  have hM : f_X7_scores (v1 + v2) M = some (tk_I (tk_I W 1 0) 4 (-1)) := by
    rw [x1, w1, show 64 - 4 = 59 + 1 from rfl, f_X7_scores_64_s, if_pos (show (4 : Int32) ≤ nI 4 by decide)]
  have hS : ∀ A, f_X6_enterResult w S = (if nI l ≤ 3 then some Z else (tk_b1 (f_X4_giveRadli Z) fun S25 => some S25)) ∨ A := by
    intro A
    refine Or.inl ?_
    unfold f_X6_enterResult
    rw [show f_X3_at_p15 (0 : Int32) S = some (S.2.2.2 1 0) from e_at15 (j := 0) (by decide) S, b1s, hth, b1s, el, hg1, b1s, h1, b1s, h2, b1s, e_won ht, b1s, ed, y1, z1, b1s]
  have hS := (hS False).elim id False.elim
  have x6 : X.1 6 = nI l := (x3 6 (by decide)).trans elM
  have gM : ∀ i, i ≠ 18 → W.1 i = M.1 i := fun i hi => by rw [w2]; exact x3 i hi
  have hSM : Same M W 4 5 := ⟨w3.1.trans x4.1, w3.2.1.trans x4.2.1, fun j h1 h2 => (w3.2.2 j h1 h2).trans (x4.2.2 j h2 h2)⟩
  have hsc : W.2.2.1 4 = Z.2.2.1 2 := by
    rw [w4, z4, x4.2.2 4 (by decide) (by decide), as, hr, y4.2.2 2 (by decide) (by decide)]
    rfl
  have hZS : ∀ i, i ≠ 15 → Z.1 i = S.1 i := fun i hi => by rw [z2]; exact y3 i hi
  by_cases q : nI l ≤ 3
  · rw [if_pos q] at hS
    refine ⟨Z, W, hS, hM, by rw [w2, z2, hr], hZS, gM, ⟨z3.1.trans y4.1, z3.2.1.trans y4.2.1, fun j h1 h2 => (z3.2.2 j h1 h1).trans (y4.2.2 j h2 h2)⟩, hSM, hsc, ?_⟩
    rw [w5, x5, z3.2.2 3 (by decide) (by decide), y5, ar, x6]
    funext j
    by_cases r : j < 4
    · rw [if_pos r, if_pos q, Int32.add_zero]
    · rw [if_neg r, Int32.add_zero]
  · rw [if_neg q] at hS
    obtain ⟨G, g1, g2, g3, g4⟩ := e_give Z
    rw [g1, b1s] at hS
    refine ⟨G, W, hS, hM, by rw [w2, g2, z2, hr], fun i hi => by rw [g2]; exact hZS i hi, gM, ⟨g3.1.trans (z3.1.trans y4.1), g3.2.1.trans (z3.2.1.trans y4.2.1), fun j h1 h2 => (g3.2.2 j h2 h2).trans ((z3.2.2 j h1 h1).trans (y4.2.2 j h2 h2))⟩, hSM, ?_, ?_⟩
    · rw [hsc, g3.2.2 2 (by decide) (by decide)]
    · rw [w5, x5, g4, z3.2.2 3 (by decide) (by decide), y5, ar, x6]
      funext j
      rw [if_neg q]
