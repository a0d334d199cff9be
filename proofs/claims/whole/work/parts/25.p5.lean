/-! announce -/
def SimW (e1 : Int32) (k : Nat) (x : Option (Int32 × Int32 × tk_ST)) (y : Option (Int32 × tk_ST)) : Prop := ∃ kk r S' b M', x = some (kk, r, S') ∧ y = some (b, M') ∧ Rel (k + 1) S' M' ∧ Out e1 kk r b (M'.1 0)
theorem simW_err {e1 : Int32} {k : Nat} {S M : tk_ST} {x : Option (Int32 × Int32 × tk_ST)} {y : Option (Int32 × tk_ST)} (h : Rel k S M) {r b : Int32} (hx : x = some (e1, r, S)) (hy : y = some (b, tk_I M 0 1)) : SimW e1 k x y := ⟨e1, r, S, b, _, hx, hy, (h.t 1).mono (Nat.le_succ k), Or.inr (Or.inl ⟨rfl, rfl⟩)⟩
theorem simW_two {e1 : Int32} {k : Nat} {S M : tk_ST} {x : Option (Int32 × Int32 × tk_ST)} {y : Option (Int32 × tk_ST)} (h : Rel k S M) {r b : Int32} (hx : x = some (2, r, S)) (hy : y = some (b, tk_I M 0 2)) : SimW e1 k x y := ⟨2, r, S, b, _, hx, hy, (h.t 2).mono (Nat.le_succ k), Or.inr (Or.inr ⟨rfl, rfl⟩)⟩
theorem simW_ok {e1 : Int32} {k : Nat} {S' M' : tk_ST} {x : Option (Int32 × Int32 × tk_ST)} {y : Option (Int32 × tk_ST)} {r : Int32} (hx : x = some (0, r, S')) (hy : y = some (r, M')) (h : Rel (k + 1) S' M') (h0 : M'.1 0 = 0) : SimW e1 k x y := ⟨0, r, S', r, M', hx, hy, h, Or.inl ⟨rfl, h0, rfl⟩⟩
theorem Rel.bi {k : Nat} {S M : tk_ST} (h : Rel k S M) (h5 : S.1 1 = 1) : Bid S M := by
  rcases h.2.2.2.2.2.2.2.2.2 with ⟨q, _⟩ | ⟨q, q'⟩ | ⟨q, q'⟩ | ⟨q, q'⟩ | ⟨q, q'⟩ | ⟨q, q'⟩
  all_goals first | exact q' | (rw [q] at h5; exact absurd h5 (by decide))
theorem Rel.cal {k : Nat} {S M : tk_ST} (h : Rel k S M) (h5 : S.1 1 = 2) : Cal S M := by
  rcases h.2.2.2.2.2.2.2.2.2 with ⟨q, _⟩ | ⟨q, q'⟩ | ⟨q, q'⟩ | ⟨q, q'⟩ | ⟨q, q'⟩ | ⟨q, q'⟩
  all_goals first | exact q' | (rw [q] at h5; exact absurd h5 (by decide))
theorem Rel.tak {k : Nat} {S M : tk_ST} (h : Rel k S M) (h5 : S.1 1 = 3) : Tak S M := by
  rcases h.2.2.2.2.2.2.2.2.2 with ⟨q, _⟩ | ⟨q, q'⟩ | ⟨q, q'⟩ | ⟨q, q'⟩ | ⟨q, q'⟩ | ⟨q, q'⟩
  all_goals first | exact q' | (rw [q] at h5; exact absurd h5 (by decide))
theorem Rel.dis {k : Nat} {S M : tk_ST} (h : Rel k S M) (h5 : S.1 1 = 4) : Dis S M := by
  rcases h.2.2.2.2.2.2.2.2.2 with ⟨q, _⟩ | ⟨q, q'⟩ | ⟨q, q'⟩ | ⟨q, q'⟩ | ⟨q, q'⟩ | ⟨q, q'⟩
  all_goals first | exact q' | (rw [q] at h5; exact absurd h5 (by decide))
theorem Rel.ply {k : Nat} {S M : tk_ST} (h : Rel k S M) (h5 : S.1 1 = 5) : Ply S M := by
  rcases h.2.2.2.2.2.2.2.2.2 with ⟨q, _⟩ | ⟨q, q'⟩ | ⟨q, q'⟩ | ⟨q, q'⟩ | ⟨q, q'⟩ | ⟨q, q'⟩
  all_goals first | exact q' | (rw [q] at h5; exact absurd h5 (by decide))
theorem e_bitc : ∀ m, m < 16 → f_J6_bitCount_0f7a4 (nI m) = some (nI (pc m)) := by decide +kernel
theorem e_ann {S : tk_ST} {b0 b1 j : Nat} (h0 : b0 < 2) (h1 : b1 < 2) (hj : j < 2) (e : S.1 8 = nI (b0 + 2 * b1)) : f_X6_isAnnounced (nI j) S = some (nI (if j = 0 then b0 else b1)) := by
  unfold f_X6_isAnnounced; rw [e]
  rcases (show b0 = 0 ∨ b0 = 1 by omega) with rfl | rfl
  all_goals rcases (show b1 = 0 ∨ b1 = 1 by omega) with rfl | rfl
  all_goals rcases (show j = 0 ∨ j = 1 by omega) with rfl | rfl
  all_goals decide
theorem e_ann98 {S : tk_ST} {b0 b1 j : Nat} (h0 : b0 < 2) (h1 : b1 < 2) (hj : j < 2) (e : S.1 8 = nI (b0 + 2 * b1)) : f_X6_announce_98 (nI j) S = some (0, nI ((if j = 0 then 1 else b0) + (if j = 0 then b1 else 1)), tk_I S 8 (nI ((if j = 0 then 1 else b0) + 2 * (if j = 0 then b1 else 1)))) := by
  unfold f_X6_announce_98; rw [e]
  have k1 : (nI (b0 + 2 * b1) ||| ((1 : Int32) <<< (nI j &&& 31))) = nI ((if j = 0 then 1 else b0) + 2 * (if j = 0 then b1 else 1)) := by
    rcases (show b0 = 0 ∨ b0 = 1 by omega) with rfl | rfl
    all_goals rcases (show b1 = 0 ∨ b1 = 1 by omega) with rfl | rfl
    all_goals rcases (show j = 0 ∨ j = 1 by omega) with rfl | rfl
    all_goals decide
  rw [k1, e_bitc _ (by split <;> omega), b1s]
  have k2 : pc ((if j = 0 then 1 else b0) + 2 * (if j = 0 then b1 else 1)) = (if j = 0 then 1 else b0) + (if j = 0 then b1 else 1) := by
    rcases (show b0 = 0 ∨ b0 = 1 by omega) with rfl | rfl
    all_goals rcases (show b1 = 0 ∨ b1 = 1 by omega) with rfl | rfl
    all_goals rcases (show j = 0 ∨ j = 1 by omega) with rfl | rfl
    all_goals decide
  rw [k2]
theorem e_ann78 {M : tk_ST} {b0 b1 j : Nat} (h0 : b0 < 2) (h1 : b1 < 2) (hj : j < 2) (e0 : M.2.2.1 2 0 = nI b0) (e1 : M.2.2.1 2 1 = nI b1) : f_X7_announce_78 (nI j) 0 M = some (nI ((if j = 0 then 1 else b0) + (if j = 0 then b1 else 1)), tk_A (tk_I M 0 0) 2 (upd (M.2.2.1 2) j 1)) := by
  unfold f_X7_announce_78 f_X7_announce_107
  rw [e_fine0, b2s, if_neg n10, if_neg (inR hj (by decide)), b1s, cl (by omega)]
  simp only [show (0 : Int32).toNatClampNeg = 0 from rfl, show (1 : Int32).toNatClampNeg = 1 from rfl]
  rw [if_neg (show ¬ ((0 : Int32) < 0 ∨ 2 ≤ 0) by decide)]
  simp only [show ∀ i, (tk_A (tk_I M 0 0) 2 (upd ((tk_I M 0 0).2.2.1 2) j 1)).2.2.1 2 i = upd (M.2.2.1 2) j 1 i from fun _ => rfl, updE]
  rw [if_neg (show ¬ ((1 : Int32) < 0 ∨ 2 ≤ 1) by decide), e0, e1]
  rcases (show b0 = 0 ∨ b0 = 1 by omega) with rfl | rfl
  all_goals rcases (show b1 = 0 ∨ b1 = 1 by omega) with rfl | rfl
  all_goals rcases (show j = 0 ∨ j = 1 by omega) with rfl | rfl
  all_goals rfl
theorem nI0_iff {n : Nat} (h : n < 2 ^ 31) : nI n = 0 ↔ n = 0 := ⟨fun e => Classical.byContradiction fun q => nI_ne0 (by omega) h e, fun e => by rw [e]; rfl⟩
theorem P_announce {k : Nat} {S M : tk_ST} (h : Rel k S M) (p : Int32) : SimW 3 k (f_X6_announce p S) (f_X7_announce p M) := by
  obtain ⟨hE, ⟨b0, b1, hb0, hb1, eb, em0, em1⟩, hF, hP, hD, hK, hC, hPi, hZ, hPh⟩ := id h
  have a1 : M.1 1 = S.1 1 := hE.1
  have a6 : M.1 6 = S.1 11 := hE.2.2.2.2.2.2.1
  have a17 : M.1 17 = S.1 9 := hE.2.2.2.2.2.2.2.2.1
  have a15 : M.1 15 = S.1 14 := hE.2.2.2.2.2.2.2.2.2.1
  have m58 : ∀ p, f_X7_announce_58 p 1 M = some (0, tk_I M 0 2) := fun _ => rfl
  unfold f_X6_announce f_X7_announce
  rcases or3 (n := 2) (by decide) (x := p) with hp | ⟨j, hj, rfl⟩
  · rw [show f_X7_isIn p 0 1 = some 0 from e_isInN (hp.imp id (fun h => lt_of_le1 (by decide) h)), b1s, if_pos rfl]
    have e9 : (if p < 0 then f_X6_announce_9 S else if p < (2 : Int32) then (if (S.1 1) = (5 : Int32) then (if 0 < (S.1 9) then f_X6_announce_44 S else (if (S.1 14) ≤ 0 then (tk_b1 (f_X6_isAnnounced p S) fun r9 => (if r9 = 0 then (if p = (1 : Int32) then (if (S.1 11) ≤ (3 : Int32) then f_X6_announce_98 p S else some ((2 : Int32), (0 : Int32), S)) else f_X6_announce_98 p S) else some ((2 : Int32), (0 : Int32), S))) else f_X6_announce_44 S)) else f_X6_announce_44 S) else f_X6_announce_9 S) = some (3, 0, S) := by
      rcases hp with hp | hp
      · rw [if_pos hp]; rfl
      · by_cases q : p < 0
        · rw [if_pos q]; rfl
        · rw [if_neg q, if_neg (show ¬ p < 2 from Int32.not_lt.mpr hp)]; rfl
    exact simW_err h e9 rfl
  · rw [show f_X7_isIn (nI j) 0 1 = some 1 from e_isIn (a := 0) (b := 1) (by omega) (by omega) (by decide), b1s, if_neg n10, if_neg (nneg (by omega)), if_pos (show nI j < 2 from nI_lt hj (by decide)), a1]
    by_cases h5 : S.1 1 = 5
    · rw [if_pos h5, if_pos h5]
      obtain ⟨l, d, L, z, T, l1, l5, d4, L4, z4, T12, el, ed, eL, eML, ez, eT, et, ec, e14, etr⟩ := h.ply h5
      rw [eT, a17, eT]
      by_cases qT : T = 0
      · subst qT
        rw [if_neg (show ¬ 0 < nI 0 by decide), if_pos (show nI 0 = 0 from rfl), ez, a15, ez]
        by_cases qz : z = 0
        · subst qz
          rw [if_pos (show nI 0 ≤ 0 by decide), if_pos (show nI 0 = 0 from rfl), e_ann hb0 hb1 hj eb, b1s, if_neg (inR hj (by decide)), cl (by omega)]
          have ej : M.2.2.1 2 j = nI (if j = 0 then b0 else b1) := by
            rcases (show j = 0 ∨ j = 1 by omega) with rfl | rfl
            · exact em0
            · exact em1
          rw [ej]
          have ok : SimW 3 k (f_X6_announce_98 (nI j) S) (f_X7_announce_54 (nI j) 1 M) := by
            refine simW_ok (e_ann98 hb0 hb1 hj eb) (e_ann78 hb0 hb1 hj em0 em1) ?_ rfl
            refine (show Rel k (tk_I S 8 (nI ((if j = 0 then 1 else b0) + 2 * (if j = 0 then b1 else 1)))) (tk_A (tk_I M 0 0) 2 (upd (M.2.2.1 2) j 1)) from ⟨hE, ⟨if j = 0 then 1 else b0, if j = 0 then b1 else 1, by split <;> omega, by split <;> omega, rfl, ?_, ?_⟩, hF, hP, hD, hK, hC, hPi, hZ, hPh⟩).mono (Nat.le_succ k)
            · show upd (M.2.2.1 2) j 1 0 = _
              rw [updE, em0]
              rcases (show j = 0 ∨ j = 1 by omega) with rfl | rfl <;> rfl
            · show upd (M.2.2.1 2) j 1 1 = _
              rw [updE, em1]
              rcases (show j = 0 ∨ j = 1 by omega) with rfl | rfl <;> rfl
          by_cases qb : (if j = 0 then b0 else b1) = 0
          · rw [if_pos (show nI (if j = 0 then b0 else b1) = 0 by rw [qb]; rfl), if_pos (show nI (if j = 0 then b0 else b1) = 0 by rw [qb]; rfl)]
            rcases (show j = 0 ∨ j = 1 by omega) with rfl | rfl
            · rw [if_neg (show ¬ nI 0 = 1 by decide), if_pos (show nI 0 = 0 from rfl)]; exact ok
            · rw [if_pos (show nI 1 = 1 from rfl), if_neg (show ¬ nI 1 = 0 by decide), el, a6, el]
              by_cases ql : l ≤ 3
              · rw [if_pos (show nI l ≤ 3 from nI_le ql (by decide)), if_neg (show ¬ (4 : Int32) ≤ nI l from nI_ge (b := 4) (by omega) (by decide))]; exact ok
              · rw [if_neg (show ¬ nI l ≤ 3 from nI_ge (a := 3) (by omega) (by omega)), if_pos (show (4 : Int32) ≤ nI l from nI_le (a := 4) (by omega) (by omega))]
                exact simW_two h rfl (m58 _)
          · have qb' : ¬ nI (if j = 0 then b0 else b1) = 0 := nI_ne0 (by omega) (by split <;> omega)
            rw [if_neg qb', if_neg qb']
            exact simW_two h rfl (m58 _)
        · rw [if_neg (show ¬ nI z ≤ 0 from nI_nle (by omega) (by omega)), if_neg (nI_ne0 (by omega) (by omega))]
          exact simW_two h rfl (m58 _)
      · rw [if_pos (show (0 : Int32) < nI T from nI_lt (a := 0) (by omega) (by omega)), if_neg (nI_ne0 (by omega) (by omega))]
        exact simW_two h rfl (m58 _)
    · rw [if_neg h5, if_neg h5]
      exact simW_two h rfl (m58 _)
