/-! deal -/
theorem e_p0 (v : Int64) (S : tk_ST) : f_X3_put_p15 (0 : Int32) v S = some (tk_B S 1 (vp_updL (S.2.2.2 1) 0 v)) := e_put15 (j := 0) (by decide) v S
theorem e_p1 (v : Int64) (S : tk_ST) : f_X3_put_p15 (1 : Int32) v S = some (tk_B S 1 (vp_updL (S.2.2.2 1) 1 v)) := e_put15 (j := 1) (by decide) v S
theorem e_clear (S : tk_ST) : ∃ C, f_X6_clearDeal S = some C ∧ C.1 0 = S.1 0 ∧ C.1 1 = S.1 1 ∧ C.1 3 = -1 ∧ C.1 4 = -1 ∧ C.1 5 = -1 ∧ C.1 6 = -1 ∧ C.1 8 = 0 ∧ C.1 9 = 0 ∧ C.1 10 = 0 ∧ C.1 11 = 0 ∧ C.1 12 = -1 ∧ C.1 13 = S.1 0 ∧ C.1 14 = 0 ∧ C.1 15 = S.1 15 ∧ C.2.1 0 = 0 ∧ C.2.2.1 = S.2.2.1 ∧ C.2.2.2 0 = S.2.2.2 0 ∧ C.2.2.2 1 0 = 0 ∧ C.2.2.2 1 1 = 0 := by
  unfold f_X6_clearDeal f_X0_clear f_X5_begin
  rw [b1s, b1s, b1s, e_p0, b1s, e_p1, b1s]
  exact ⟨_, rfl, rfl, rfl, rfl, rfl, rfl, rfl, rfl, rfl, rfl, rfl, rfl, rfl, rfl, rfl, rfl, rfl, rfl, rfl, rfl⟩
theorem P_deal {k : Nat} (hk : k < 1000) {S M : tk_ST} (h : Rel k S M) (p : Int32) : SimW 1 k (f_X6_deal p S) (f_X7_deal p M) := by
  obtain ⟨hE, hA, hF, hP, hD, hK, hC, hPi, hZ, hPh⟩ := id h
  have a1 : M.1 1 = S.1 1 := hE.1
  have q4 : ∀ X : Option (Int32 × Int32 × tk_ST), (p < 0 ∨ nI 65536 ≤ p) → (if p < 0 then f_X6_deal_10 S else if p < 65536 then X else f_X6_deal_10 S) = some (1, 0, S) := by
    intro X hp
    rcases hp with hp | hp
    · rw [if_pos hp]; rfl
    · by_cases q : p < 0
      · rw [if_pos q]; rfl
      · rw [if_neg q, if_neg (show ¬ p < 65536 from Int32.not_lt.mpr hp)]; rfl
  unfold f_X6_deal f_X7_deal f_X7_deal_27
  rcases or3 (n := 65536) (by decide) (x := p) with hp | ⟨X, hX, rfl⟩
  · rw [q4 _ hp, show f_X7_isIn p 0 65535 = some 0 from e_isInN (hp.imp id (fun h => lt_of_le1 (by decide) h)), b1s, if_pos rfl]
    exact simW_err h rfl rfl
  · rw [show f_X7_isIn (nI X) 0 65535 = some 1 from e_isIn (a := 0) (b := 65535) (by omega) (by omega) (by decide), b1s, if_neg n10, if_neg (nneg (by omega)), if_pos (show nI X < 65536 from nI_lt hX (by decide)), a1]
    by_cases h5 : S.1 1 = 0
    · rw [if_pos h5, if_pos h5, e_fine0, b2s, if_neg n10]
      obtain ⟨D, dk, dM, dd⟩ := hF
      have hb : f_X6_behind (S.1 0) = some (nI (D % 4)) := by
        rcases dd with ⟨rfl, d4⟩ | ⟨d0, d4, _⟩
        · rw [d4]; decide
        · rw [d4, e_behind (by omega), show ((D - 1) % 4 + 1) % 4 = D % 4 by omega]
      have hF4 : D % 4 < 4 := Nat.mod_lt _ (by decide)
      rw [hb, b1s]
      obtain ⟨C, c0, c1, c2, c3, c4, c5, c6, c8, c9, c10, c11, c12, c13, c14, c15, cl0, cA, ch, cp0, cp1⟩ := e_clear (tk_I S 0 (nI (D % 4)))
      have c1' : C.1 0 = nI (D % 4) := c1
      have cA' : C.2.2.1 = S.2.2.1 := cA
      have ch' : C.2.2.2 0 = S.2.2.2 0 := ch
      rw [c0, b1s, e_shH hX, b1s, cA']
      have hrow : Row (shf 53 X (ini (S.2.2.1 0) 54)) := row_shf 53 X _ (by omega) (row_ini _)
      generalize hg : shf 53 X (ini (S.2.2.1 0) 54) = g at hrow
      rw [e_handOut hF4 (S := tk_A C 0 g) c1', b1s]
      rw [e_shM hX, show (tk_I M 0 0).2.2.1 0 = S.2.2.1 0 from hE.2.2.2.2.2.2.2.2.2.2.2.2.1, hg, show (tk_I M 0 0).1 2 = nI D from dM, nI_1, show (4 : Int32) = nI 4 from rfl, e_rem (by omega) (by decide) (by decide)]
      obtain ⟨A, x1, x2, x3, x4, x5, x6, x7⟩ := L_142 (S := tk_I (tk_I (tk_A (tk_I M 0 0) 0 g) 3 (nI (D % 4))) 2 (nI (D + 1))) 4 (by omega)
      have xA3 : A.1 3 = nI (D % 4) := by rw [x2]; rfl
      rw [x1, show 64 - 4 = 59 + 1 from rfl, f_X7_deal_142_s, if_pos (show (4 : Int32) ≤ nI 4 by decide)]
      obtain ⟨B, y1, y2, y3, y4, y5, y6⟩ := L_176 (S := A) hF4 xA3 (fun p hp => by rw [x6 p, if_pos hp]) 48 (by omega)
      rw [y1, show 64 - 48 = 15 + 1 from rfl, f_X7_deal_176_s, if_pos (show (48 : Int32) ≤ nI 48 by decide), b1s, b1s]
      rw [if_neg (show ¬ ((0 : Int32) < 0 ∨ 2 ≤ (0 : Int32).toNatClampNeg) by decide), b1s, if_neg (show ¬ ((1 : Int32) < 0 ∨ 2 ≤ (1 : Int32).toNatClampNeg) by decide), b1s]
      have xa0 : A.2.2.1 0 = g := x4 0 (by decide)
      have g1 : ∀ i, i ≠ 0 → i ≠ 2 → i ≠ 3 → B.1 i = M.1 i := fun i i0 i2 i3 => by rw [y2, x2, uI1, if_neg i2, uI1, if_neg i3, uA1, uI1, if_neg i0]
      have gB3 : B.1 3 = nI (D % 4) := by rw [y2]; exact xA3
      have gB2 : B.1 2 = nI (D + 1) := by rw [y2, x2]; rfl
      have gB0 : B.1 0 = 0 := by rw [y2, x2]; rfl
      have gA : ∀ j, j ≠ 0 → j ≠ 1 → B.2.2.1 j = M.2.2.1 j := fun j j0 j1 => by rw [y4, x4 j j1]; show (tk_A _ 0 g).2.2.1 j = _; rw [uA3, if_neg j0]; rfl
      have hh : B.2.2.2 0 = hH g (D % 4) (S.2.2.2 0) 4 := by
        funext p
        rw [y6 p, hH_at g hF4 _ p 4 (by omega), xa0]
        by_cases q : p < 4
        · have hr : rr (D % 4) p < 4 := Nat.mod_lt _ (by decide)
          rw [if_pos q, if_pos ⟨q, hr⟩, show min 12 (48 - rr (D % 4) p * 12) = 12 by omega]
        · rw [if_neg q, if_neg (fun y => q y.1), x6 p, if_neg q]
          exact congrFun hE.2.2.2.2.2.2.2.2.2.2.2.2.2.2.2.2 p
      have hHp : ∀ p, p < 4 → hH g (D % 4) (S.2.2.2 0) 4 p = orr g (rr (D % 4) p * 12) 12 := fun p hp => by
        rw [hH_at g hF4 _ p 4 (by omega), if_pos ⟨hp, Nat.mod_lt _ (by decide)⟩]
      obtain ⟨v, hv, hi⟩ := id hrow
      have hr : ∀ p, p < 4 → rr (D % 4) p < 4 := fun p _ => Nat.mod_lt _ (by decide)
      refine ⟨0, _, _, _, _, rfl, rfl, Rel.mono (k := k + 1) ⟨⟨rfl, ?_, c3.symm, c4.symm, c5.symm, c6.symm, c11.symm, c12.symm, c9.symm, c14.symm, (g1 18 (by decide) (by decide) (by decide)).trans (hE.2.2.2.2.2.2.2.2.2.2.1.trans c15.symm), cl0.symm, ?_, ?_, ?_, ?_, ?_⟩, ⟨0, 0, by decide, by decide, c8, ?_, ?_⟩, ⟨D + 1, by omega, gB2, Or.inr ⟨by omega, c1', gB3⟩⟩, Or.inl c6, Or.inl c3, ⟨fun e => absurd c3 e, Or.inl c5, Or.inl c4, fun s o hs ho es eo => absurd (es.symm.trans c4) (n1I (by omega))⟩, ?_, Or.inl ⟨rfl, cp0, cp1, ?_⟩, ⟨0, by decide, c14⟩, ?_⟩ (Nat.le_refl _), Or.inl ⟨rfl, gB0, (c1'.trans gB3.symm : C.1 0 = B.1 3)⟩⟩
      · show B.1 3 = C.1 0
        rw [gB3, c1']
      · show B.2.2.1 0 = g
        rw [y4]; exact xa0
      · show B.2.2.1 3 = C.2.2.1 1
        rw [gA 3 (by decide) (by decide), cA']; exact hE.2.2.2.2.2.2.2.2.2.2.2.2.2.1
      · show B.2.2.1 4 = C.2.2.1 2
        rw [gA 4 (by decide) (by decide), cA']; exact hE.2.2.2.2.2.2.2.2.2.2.2.2.2.2.1
      · show B.2.2.1 5 = C.2.2.1 3
        rw [gA 5 (by decide) (by decide), cA']; exact hE.2.2.2.2.2.2.2.2.2.2.2.2.2.2.2.1
      · show B.2.2.2 0 = hH g (D % 4) (C.2.2.2 0) 4
        rw [hh, ch']
      · rfl
      · rfl
      · show Crd (hH g (D % 4) (C.2.2.2 0) 4)
        rw [ch']
        refine ⟨fun p hp c hc => ?_, fun p q hp hq hpq c hc => ?_⟩
        · rw [hHp p hp, tb_orr hv 12 (by have := hr p hp; omega)] at hc
          obtain ⟨i, i1, i2⟩ := hc
          rw [← i2]; exact (hv _ (by have := hr p hp; omega)).1
        · have r1 := hr p hp
          have r2 := hr q hq
          rw [hHp p hp, hHp q hq, tb_orr hv 12 (by omega), tb_orr hv 12 (by omega)] at hc
          obtain ⟨⟨i, i1, i2⟩, j, j1, j2⟩ := hc
          have := hi _ _ (by omega) (by omega) (i2.trans j2.symm)
          have e2 : rr (D % 4) p ≠ rr (D % 4) q := by unfold rr; omega
          omega
      · intro p hp
        show B.2.2.2 1 p = 0
        rw [y5]; exact x7 p hp
      · refine Or.inr (Or.inl ⟨rfl, 0, D % 4, by decide, hF4, c10, c1', Nat.zero_testBit _, fun p hp => ?_, rfl, c3, c4, c5, c6, Or.inl ⟨c11, c12⟩, ⟨hrow, fun p hp => ?_, rfl, fun p hp c hc => ?_, rfl⟩, rfl, rfl, c13.trans c1.symm, c14, c9, D % 4, hF4, c1', gB3⟩)
        · show B.2.2.1 1 p = _
          rw [y4, x5 p hp, Nat.zero_testBit]; rfl
        · show cn (hH g (D % 4) (C.2.2.2 0) 4 p) = 12
          rw [ch', hHp p hp]
          exact cn_orr hv hi 12 (by have := hr p hp; omega)
        · have hc' : tb (hH g (D % 4) (C.2.2.2 0) 4 p) c = true ∧ tb (orr g 48 6) c = true := hc
          have r1 := hr p hp
          rw [ch', hHp p hp, tb_orr hv 12 (by omega), tb_orr hv 6 (by omega)] at hc'
          obtain ⟨⟨i, i1, i2⟩, j, j1, j2⟩ := hc'
          have := hi _ _ (by omega) (by omega) (i2.trans j2.symm)
          omega
    · rw [if_neg h5, if_neg h5]
      exact simW_two h rfl rfl
