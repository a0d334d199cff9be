/-! the trick is taken -/
theorem orA (x y z : Int64) : (x ||| y) ||| z = x ||| (y ||| z) := tbX fun c => by
  rw [tbO, tbO, tbO, tbO]
  exact ⟨fun e => e.elim (fun e => e.elim Or.inl (fun e => Or.inr (Or.inl e))) (fun e => Or.inr (Or.inr e)), fun e => e.elim (fun e => Or.inl (Or.inl e)) (fun e => e.elim (fun e => Or.inl (Or.inr e)) Or.inr)⟩
theorem L_104 {S : tk_ST} {w : Nat} (hw : w < 4) : ∀ m, m ≤ 4 → ∃ S', f_X7_plays_104 64 (nI w) 0 S = f_X7_plays_104 (64 - m) (nI w) (nI m) S' ∧ S'.1 = S.1 ∧ S'.2.1 = S.2.1 ∧ S'.2.2.1 = S.2.2.1 ∧ S'.2.2.2 0 = S.2.2.2 0 ∧ S'.2.2.2 1 = fun p => if p = w then S.2.2.2 1 w ||| orr (S.2.2.1 3) 0 m else S.2.2.2 1 p
  | 0, _ => ⟨S, rfl, rfl, rfl, rfl, rfl, by
      funext p
      show _ = if p = w then S.2.2.2 1 w ||| 0 else _
      rw [or0]
      by_cases e : p = w
      · rw [if_pos e, e]
      · rw [if_neg e]⟩
  | m + 1, h => by
    obtain ⟨A, x1, x2, x3, x4, x5, x6⟩ := L_104 (S := S) hw m (by omega)
    rw [x1, show 64 - m = (64 - (m + 1)) + 1 by omega, f_X7_plays_104_s, if_neg (show ¬ (4 : Int32) ≤ nI m from nI_ge (b := 4) (by omega) (by decide)), if_neg (inR hw (by decide)), if_neg (inR (show m < 4 by omega) (by decide)), cl (show m < 2 ^ 31 by omega), cl (show w < 2 ^ 31 by omega), show f_X7_bit (A.2.2.1 3 m) = some (jbI (A.2.2.1 3 m)) from rfl, b1s, if_neg (inR2 hw (by omega)), b1s, nI_1]
    refine ⟨_, rfl, x2, x3, x4, x5, ?_⟩
    rw [uB4, if_pos rfl]
    funext p
    rw [updLE, x6, x4]
    by_cases e : p = w
    · rw [if_pos e, if_pos e]
      show (if w = w then S.2.2.2 1 w ||| orr (S.2.2.1 3) 0 m else S.2.2.2 1 w) ||| _ = _
      rw [if_pos rfl, orA]
      show _ = _ ||| (orr _ 0 m ||| jbI (S.2.2.1 3 (0 + m)))
      rw [Nat.zero_add]
    · rw [if_neg e, if_neg e]
      exact if_neg e
theorem tb_plT (w : Nat → Int64) (d q s : Int32) (j c : Nat) : tb (plT w d q s j) c = true ↔ sd (nI j) d q = s ∧ tb (w j) c = true := by
  unfold plT
  by_cases e : sd (nI j) d q = s
  · rw [if_pos e]; exact ⟨fun y => ⟨e, y⟩, fun y => y.2⟩
  · rw [if_neg e]; exact ⟨fun y => absurd y (tbZ c), fun y => absurd y.1 e⟩
theorem tb_pl (b : Int64) (w : Nat → Int64) (d q s : Int32) (c : Nat) : tb (pl b w d q s) c = true ↔ tb b c = true ∨ ∃ j, j < 4 ∧ sd (nI j) d q = s ∧ tb (w j) c = true := by
  unfold pl
  rw [tbO, tbO, tbO, tbO, tb_plT, tb_plT, tb_plT, tb_plT]
  constructor
  · rintro ((((e | e) | e) | e) | e)
    · exact Or.inl e
    · exact Or.inr ⟨0, by omega, e⟩
    · exact Or.inr ⟨1, by omega, e⟩
    · exact Or.inr ⟨2, by omega, e⟩
    · exact Or.inr ⟨3, by omega, e⟩
  · rintro (e | ⟨j, hj, e⟩)
    · exact Or.inl (Or.inl (Or.inl (Or.inl e)))
    · rcases (show j = 0 ∨ j = 1 ∨ j = 2 ∨ j = 3 by omega) with rfl | rfl | rfl | rfl
      · exact Or.inl (Or.inl (Or.inl (Or.inr e)))
      · exact Or.inl (Or.inl (Or.inr e))
      · exact Or.inl (Or.inr e)
      · exact Or.inr e
theorem pl_add (b : Int64) (won : Nat → Int64) (d q s : Int32) {w : Nat} (hw : w < 4) (C : Int64) : pl b (fun p => if p = w then won w ||| C else won p) d q s = if sd (nI w) d q = s then pl b won d q s ||| C else pl b won d q s := by
  by_cases e : sd (nI w) d q = s
  · rw [if_pos e]
    apply tbX; intro c
    rw [tbO, tb_pl, tb_pl]
    constructor
    · rintro (y | ⟨j, j1, j2, j3⟩)
      · exact Or.inl (Or.inl y)
      · by_cases r : j = w
        · rw [if_pos r, tbO] at j3
          rcases j3 with y | y
          · exact Or.inl (Or.inr ⟨w, hw, e, y⟩)
          · exact Or.inr y
        · rw [if_neg r] at j3
          exact Or.inl (Or.inr ⟨j, j1, j2, j3⟩)
    · rintro ((y | ⟨j, j1, j2, j3⟩) | y)
      · exact Or.inl y
      · refine Or.inr ⟨j, j1, j2, ?_⟩
        by_cases r : j = w
        · rw [if_pos r, tbO, ← r]; exact Or.inl j3
        · rw [if_neg r]; exact j3
      · exact Or.inr ⟨w, hw, e, by rw [if_pos rfl, tbO]; exact Or.inr y⟩
  · rw [if_neg e]
    apply tbX; intro c
    rw [tb_pl, tb_pl]
    constructor
    · rintro (y | ⟨j, j1, j2, j3⟩)
      · exact Or.inl y
      · by_cases r : j = w
        · rw [r] at j2; exact absurd j2 e
        · rw [if_neg r] at j3
          exact Or.inr ⟨j, j1, j2, j3⟩
    · rintro (y | ⟨j, j1, j2, j3⟩)
      · exact Or.inl y
      · refine Or.inr ⟨j, j1, j2, ?_⟩
        by_cases r : j = w
        · rw [r] at j2; exact absurd j2 e
        · rw [if_neg r]; exact j3
def sn (s : Int32) : Nat := if s = 0 then 0 else 1
theorem e_endTrick {S : tk_ST} {w T : Nat} (e14 : S.1 14 = nI 4) (e9 : S.1 9 = nI T) : f_X6_endTrick (nI w) S = (fun S15 : tk_ST => if nI (T + 1) = 12 then (tk_b1 (f_X6_enterResult (nI w) (tk_I (tk_I S15 9 (nI (T + 1))) 2 (nI w))) fun S19 => some (tk_I (tk_I (tk_I (tk_I S19 1 0) 2 (-1)) 13 (nI w)) 14 0)) else some (tk_I (tk_I (tk_I (tk_I S15 9 (nI (T + 1))) 2 (nI w)) 13 (nI w)) 14 0)) (tk_B S 1 (vp_updL (S.2.2.2 1) (sn (sd (nI w) (S.1 3) (S.1 6))) (S.2.2.2 1 (sn (sd (nI w) (S.1 3) (S.1 6))) ||| orr (S.2.2.1 1) 0 4))) := by
  have hs : sd (nI w) (S.1 3) (S.1 6) = nI (sn (sd (nI w) (S.1 3) (S.1 6))) := by
    unfold sn
    rcases sd01 (nI w) (S.1 3) (S.1 6) with r | r
    · rw [r]; rfl
    · rw [r]; rfl
  have hs2 : sn (sd (nI w) (S.1 3) (S.1 6)) < 2 := by unfold sn; split <;> omega
  unfold f_X6_endTrick f_X6_endTrick_63 f_X5_begin f_X6_endDeal
  rw [e_side, b1s]
  generalize hg : sn (sd (nI w) (S.1 3) (S.1 6)) = s at hs hs2
  rw [hs, e_at15 hs2, b1s, e_set e14, b1s, e_put15 hs2, b1s, show (tk_B S 1 (vp_updL (S.2.2.2 1) s (S.2.2.2 1 s ||| orr (S.2.2.1 1) 0 4))).1 9 = nI T from e9, nI_1]
  rfl
