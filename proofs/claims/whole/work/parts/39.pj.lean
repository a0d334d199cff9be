/-! the account -/
def Same (S S' : tk_ST) (a b : Nat) : Prop := S'.2.1 = S.2.1 ∧ S'.2.2.2 = S.2.2.2 ∧ ∀ j, j ≠ a → j ≠ b → S'.2.2.1 j = S.2.2.1 j
theorem e_addScore {p : Nat} (hp : p < 4) (S : tk_ST) : f_X4_addScore (nI p) S = some (tk_A S 2 (upd (S.2.2.1 2) p (S.2.2.1 2 p + S.1 15))) := by
  unfold f_X4_addScore
  rw [e_at9 hp, b1s, e_put9 hp, b1s]
def plus (f : Nat → Int32) (d q r : Int32) : Nat → Int32 := fun j => f j + if j < 4 ∧ sd (nI j) d q = 0 then r else 0
theorem e_62 {d : Nat} (hd : d < 4) {q : Int32} (hq : q = -1 ∨ ∃ q', q' < 4 ∧ q = nI q' ∧ q ≠ nI d) (S : tk_ST) : ∃ S', f_X4_enter_62 (nI d) q S = some S' ∧ S'.1 = S.1 ∧ Same S S' 2 2 ∧ S'.2.2.1 2 = plus (S.2.2.1 2) (nI d) q (S.1 15) := by
  unfold f_X4_enter_62
  rw [e_addScore hd, b1s]
  have sdd : sd (nI d) (nI d) q = 0 := by unfold sd; rw [if_pos rfl]
  have sdn : ∀ j, j < 4 → j ≠ d → sd (nI j) (nI d) q = if nI j = q then 0 else 1 := by
    intro j hj e
    unfold sd
    rw [if_neg (fun y => e ((nI_eq (by omega) (by omega)).mp y))]
  rcases hq with rfl | ⟨q', hq', rfl, hne⟩
  · rw [if_pos rfl]
    refine ⟨_, rfl, rfl, ⟨rfl, rfl, fun j h2 _ => by rw [uA3, if_neg h2]⟩, ?_⟩
    rw [uA3, if_pos rfl]
    funext j
    rw [updE]
    unfold plus
    by_cases e : j = d
    · rw [if_pos e, if_pos ⟨by omega, by rw [e]; exact sdd⟩, e]
    · rw [if_neg e, if_neg, Int32.add_zero]
      rintro ⟨j4, y⟩
      rw [sdn j j4 e, if_neg (n1I (by omega))] at y
      exact absurd y (by decide)
  · have hqd : q' ≠ d := fun e => hne (by rw [e])
    rw [if_neg (n1I (by omega)), e_addScore hq', b1s]
    refine ⟨_, rfl, rfl, ⟨rfl, rfl, fun j h2 _ => by rw [uA3, if_neg h2, uA3, if_neg h2]⟩, ?_⟩
    rw [uA3, if_pos rfl]
    funext j
    rw [updE, uA3, if_pos rfl, updE, updE, if_neg hqd]
    unfold plus
    by_cases e : j = q'
    · rw [if_pos e, if_pos ⟨by omega, by rw [e, sdn q' hq' hqd, if_pos rfl]⟩, e]; rfl
    · rw [if_neg e]
      by_cases e' : j = d
      · rw [if_pos e', if_pos ⟨by omega, by rw [e']; exact sdd⟩, e']
      · rw [if_neg e', if_neg, Int32.add_zero]
        rintro ⟨j4, y⟩
        rw [sdn j j4 e', if_neg (fun y => e ((nI_eq (by omega) (by omega)).mp y))] at y
        exact absurd y (by decide)
theorem L_give {S : tk_ST} : ∀ m, m ≤ 4 → ∃ S', f_X4_giveRadli_2 64 0 S = f_X4_giveRadli_2 (64 - m) (nI m) S' ∧ S'.1 = S.1 ∧ Same S S' 3 3 ∧ S'.2.2.1 3 = fun j => S.2.2.1 3 j + if j < m then 1 else 0
  | 0, _ => ⟨S, rfl, rfl, ⟨rfl, rfl, fun _ _ _ => rfl⟩, by funext j; rw [if_neg (Nat.not_lt_zero j), Int32.add_zero]⟩
  | m + 1, h => by
    obtain ⟨A, x1, x2, ⟨x3, x4, x5⟩, x6⟩ := L_give (S := S) m (by omega)
    rw [x1, show 64 - m = (64 - (m + 1)) + 1 by omega, f_X4_giveRadli_2_s, if_neg (show ¬ (4 : Int32) ≤ nI m from nI_ge (b := 4) (by omega) (by decide)), e_at11 (by omega), b1s, e_put11 (by omega), b1s, nI_1]
    refine ⟨_, rfl, x2, ⟨x3, x4, fun j h1 h2 => by rw [uA3, if_neg h1]; exact x5 j h1 h2⟩, ?_⟩
    rw [uA3, if_pos rfl]
    funext j
    rw [updE, x6]
    by_cases e : j = m
    · rw [if_pos e, e]; simp only [if_neg (Nat.lt_irrefl m), if_pos (Nat.lt_succ_self m), Int32.add_zero]
    · rw [if_neg e]
      by_cases q : j < m
      · simp only [if_pos q, if_pos (show j < m + 1 by omega)]
      · simp only [if_neg q, if_neg (show ¬ j < m + 1 by omega)]
theorem e_give (S : tk_ST) : ∃ S', f_X4_giveRadli S = some S' ∧ S'.1 = S.1 ∧ Same S S' 3 3 ∧ S'.2.2.1 3 = fun j => S.2.2.1 3 j + if j < 4 then 1 else 0 := by
  obtain ⟨A, x1, x2, x3, x4⟩ := L_give (S := S) 4 (by omega)
  refine ⟨A, ?_, x2, x3, x4⟩
  unfold f_X4_giveRadli
  rw [x1, show 64 - 4 = 59 + 1 from rfl, f_X4_giveRadli_2_s, if_pos (show (4 : Int32) ≤ nI 4 by decide)]
theorem L_scM {S : tk_ST} {d : Int32} {q : Int32} (T : tk_ST) (hTd : T.1 3 = d) (hTq : T.1 6 = q) (e8 : S.1 8 = d) (e10 : S.1 10 = q) : ∀ m, m ≤ 4 → ∃ S', f_X7_scores_64 64 0 S = f_X7_scores_64 (64 - m) (nI m) S' ∧ S'.1 = S.1 ∧ Same S S' 4 5 ∧ (S'.2.2.1 4 = fun j => S.2.2.1 4 j + if j < m ∧ sd (nI j) d q = 0 then S.1 18 else 0) ∧ S'.2.2.1 5 = fun j => S.2.2.1 5 j + if j < m then (if S.1 6 ≤ 3 then 0 else 1) else 0
  | 0, _ => ⟨S, rfl, rfl, ⟨rfl, rfl, fun _ _ _ => rfl⟩, by funext j; rw [if_neg (fun e => Nat.not_lt_zero j e.1), Int32.add_zero], by funext j; rw [if_neg (Nat.not_lt_zero j), Int32.add_zero]⟩
  | m + 1, h => by
    obtain ⟨A, x1, x2, ⟨x3, x4, x5⟩, x6, x7⟩ := L_scM (S := S) T hTd hTq e8 e10 m (by omega)
    have hm : m < 4 := by omega
    rw [x1, show 64 - m = (64 - (m + 1)) + 1 by omega, f_X7_scores_64_s, if_neg (show ¬ (4 : Int32) ≤ nI m from nI_ge (b := 4) (by omega) (by decide)), if_neg (inR hm (by decide)), cl (by omega), e_sideM (nI m) T A (n1I (by omega)) (by rw [x2, e8, hTd]) (by rw [x2, e10, hTq]), b1s, hTd, hTq]
    have k92 : ∀ v : Int32, f_X7_scores_92 (f_X7_scores_64 (64 - (m + 1))) (nI m) (nI m) (A.2.2.1 4 m) v A = f_X7_scores_64 (64 - (m + 1)) (nI (m + 1)) (tk_A (tk_A A 4 (upd (A.2.2.1 4) m (A.2.2.1 4 m + v))) 5 (upd (A.2.2.1 5) m (A.2.2.1 5 m + if S.1 6 ≤ 3 then 0 else 1))) := by
      intro v
      unfold f_X7_scores_92 f_X7_scores_114
      rw [if_neg (inR hm (by decide)), cl (by omega), b1s, if_neg (inR2 hm (by omega)), nI_1]
      rw [show (tk_A A 4 (upd (A.2.2.1 4) m (A.2.2.1 4 m + v))).1 6 = S.1 6 by rw [uA1, x2]]
      by_cases q : S.1 6 ≤ 3
      · rw [if_pos q, if_neg (inR2 hm (by omega)), b1s, if_pos q]; rfl
      · rw [if_neg q, if_neg (inR2 hm (by omega)), b1s, if_neg q]; rfl
    rw [k92, k92]
    have fin : ∀ v : Int32, v = (if sd (nI m) d q = 0 then S.1 18 else 0) → ∃ S', f_X7_scores_64 (64 - (m + 1)) (nI (m + 1)) (tk_A (tk_A A 4 (upd (A.2.2.1 4) m (A.2.2.1 4 m + v))) 5 (upd (A.2.2.1 5) m (A.2.2.1 5 m + if S.1 6 ≤ 3 then 0 else 1))) = f_X7_scores_64 (64 - (m + 1)) (nI (m + 1)) S' ∧ S'.1 = S.1 ∧ Same S S' 4 5 ∧ (S'.2.2.1 4 = fun j => S.2.2.1 4 j + if j < m + 1 ∧ sd (nI j) d q = 0 then S.1 18 else 0) ∧ S'.2.2.1 5 = fun j => S.2.2.1 5 j + if j < m + 1 then (if S.1 6 ≤ 3 then 0 else 1) else 0 := by
      intro v hv
      refine ⟨_, rfl, x2, ⟨x3, x4, fun j h1 h2 => by rw [uA3, if_neg h2, uA3, if_neg h1]; exact x5 j h1 h2⟩, ?_, ?_⟩
      · rw [uA3, if_neg (by decide), uA3, if_pos rfl]
        funext j
        rw [updE, x6]
        by_cases e : j = m
        · rw [if_pos e, e, hv]
          simp only [if_neg (show ¬ (m < m ∧ sd (nI m) d q = 0) from fun y => Nat.lt_irrefl m y.1), Int32.add_zero]
          by_cases r : sd (nI m) d q = 0
          · rw [if_pos r, if_pos ⟨Nat.lt_succ_self m, r⟩]
          · rw [if_neg r, if_neg (fun y => r y.2)]
        · rw [if_neg e]
          by_cases r : j < m ∧ sd (nI j) d q = 0
          · simp only [if_pos r, if_pos (show j < m + 1 ∧ sd (nI j) d q = 0 from ⟨by omega, r.2⟩)]
          · simp only [if_neg r, if_neg (show ¬ (j < m + 1 ∧ sd (nI j) d q = 0) from fun y => r ⟨by omega, y.2⟩)]
      · rw [uA3, if_pos rfl]
        funext j
        rw [updE, x7]
        by_cases e : j = m
        · rw [if_pos e, e]
          simp only [if_neg (Nat.lt_irrefl m), if_pos (Nat.lt_succ_self m), Int32.add_zero]
        · rw [if_neg e]
          by_cases r : j < m
          · simp only [if_pos r, if_pos (show j < m + 1 by omega)]
          · simp only [if_neg r, if_neg (show ¬ j < m + 1 by omega)]
    by_cases r : sd (nI m) d q = 0
    · rw [if_pos r]
      exact fin _ (by rw [if_pos r, x2])
    · rw [if_neg r]
      exact fin _ (by rw [if_neg r])
