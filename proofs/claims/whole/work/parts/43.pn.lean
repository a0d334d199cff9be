theorem S_play {k : Nat} {S M : tk_ST} (h : Rel k S M) (h5 : S.1 1 = 5) {c t : Nat} (hc : c < 54) (ht : t < 4) (et : S.1 2 = nI t) (hh : tb (S.2.2.2 0 t) c = true) : ∃ r S' M', f_X6_addToTrick (nI c) S = some (r, S') ∧ f_X7_plays (nI c) M = some (r, M') ∧ Rel k S' M' ∧ M'.1 0 = M.1 0 := by
  obtain ⟨hE, ⟨b0, b1, hb0, hb1, eb, em0, em1⟩, hF, hP, hD, hK, hC, hPi, hZ, hPh⟩ := id h
  obtain ⟨l, d, L, z, T, l1, l5, d4, L4, z4, T12, el, ed, eL, eML, ez, eT, et', ec, e14, etr⟩ := h.ply h5
  have a1 : M.1 1 = S.1 1 := hE.1
  have a4 : M.1 4 = S.1 2 := hE.2.1
  have a8 : M.1 8 = S.1 3 := hE.2.2.1
  have a9 : M.1 9 = S.1 4 := hE.2.2.2.1
  have a10 : M.1 10 = S.1 6 := hE.2.2.2.2.2.1
  have a6 : M.1 6 = S.1 11 := hE.2.2.2.2.2.2.1
  have a17 : M.1 17 = S.1 9 := hE.2.2.2.2.2.2.2.2.1
  have a15 : M.1 15 = S.1 14 := hE.2.2.2.2.2.2.2.2.2.1
  have aL : M.2.1 0 = S.2.1 0 := hE.2.2.2.2.2.2.2.2.2.2.2.1
  have aA := hE.2.2.2.2.2.2.2.2.2.2.2.2
  have at3 : M.2.2.1 3 = S.2.2.1 1 := aA.2.1
  have ah : M.2.2.2 0 = S.2.2.2 0 := aA.2.2.2.2
  have htz : t = (L + z) % 4 := (nI_eq (by omega) (by omega)).mp (et.symm.trans et')
  have hPil : S.2.2.2 1 0 = pl (M.2.1 0) (M.2.2.2 1) (S.1 3) (S.1 6) 0 ∧ S.2.2.2 1 1 = pl (M.2.1 1) (M.2.2.2 1) (S.1 3) (S.1 6) 1 := by
    rcases hPi with ⟨y, _⟩ | ⟨_, y⟩
    · rw [e14] at y; exact absurd y (by decide)
    · exact y
  have hkn := kn_play hK hC a9 hc ht hh
  have hcn := cn_play (c := c) L4 z4 T12 hc htz hh ec
  have hcr := less_crd hC (d := t) (show c < 64 by omega)
  have ho := outN01 M c
  rw [e_first ht z4 et ez, e_firstM hc ht z4 (a4.trans et) (a15.trans ez) (by rw [ah]; exact hh), ah, at3]
  unfold f_X7_plays_65
  rw [if_pos ho]
  by_cases hz3 : z + 1 < 4
  · rw [show (tk_I (tk_A (tk_B M 0 (less (S.2.2.2 0) t c)) 3 (upd (S.2.2.1 1) z (nI c))) 15 (nI (z + 1))).1 15 = nI (z + 1) from rfl]
    show ∃ r S' M', (if (4 : Int32) ≤ nI (z + 1) then _ else _) = _ ∧ _
    rw [if_neg (show ¬ (4 : Int32) ≤ nI (z + 1) from nI_ge (b := 4) hz3 (by decide)), if_neg (show ¬ (4 : Int32) ≤ nI (z + 1) from nI_ge (b := 4) hz3 (by decide))]
    have e4 : tk_rem ((tk_I (tk_A (tk_B M 0 (less (S.2.2.2 0) t c)) 3 (upd (S.2.2.1 1) z (nI c))) 15 (nI (z + 1))).1 4 + 1) 4 = nI ((t + 1) % 4) := by
      rw [show (tk_I (tk_A (tk_B M 0 (less (S.2.2.2 0) t c)) 3 (upd (S.2.2.1 1) z (nI c))) 15 (nI (z + 1))).1 4 = nI t from a4.trans et, nI_1, show (4 : Int32) = nI 4 from rfl, e_rem (by omega) (by decide) (by decide)]
    rw [e4]
    refine ⟨_, _, _, rfl, rfl, ⟨⟨a1, rfl, a8, a9, hE.2.2.2.2.1, a10, a6, hE.2.2.2.2.2.2.2.1, a17, rfl, hE.2.2.2.2.2.2.2.2.2.2.1, aL, aA.1, rfl, aA.2.2.1, aA.2.2.2.1, rfl⟩, ⟨b0, b1, hb0, hb1, eb, em0, em1⟩, hF, hP, hD, ⟨hK.1, hK.2.1, hK.2.2.1, hkn⟩, hcr, hPi, ⟨z + 1, hz3, rfl⟩, Or.inr (Or.inr (Or.inr (Or.inr (Or.inr ⟨h5, l, d, L, z + 1, T, l1, l5, d4, L4, hz3, T12, el, ed, eL, eML, rfl, eT, ?_, hcn, e14, fun k hk => ?_⟩))))⟩, rfl⟩
    · show nI ((t + 1) % 4) = nI ((L + (z + 1)) % 4)
      rw [htz, show ((L + z) % 4 + 1) % 4 = (L + (z + 1)) % 4 by omega]
    · show ∃ c', c' < 54 ∧ upd (S.2.2.1 1) z (nI c) k = nI c'
      rw [updE]
      by_cases e : k = z
      · rw [if_pos e]; exact ⟨c, hc, rfl⟩
      · rw [if_neg e]; exact etr k (by omega)
  · have hz : z = 3 := by omega
    subst hz
    obtain ⟨c0, hc0, ec0⟩ := etr 0 (by omega)
    obtain ⟨c1, hc1, ec1⟩ := etr 1 (by omega)
    obtain ⟨c2, hc2, ec2⟩ := etr 2 (by omega)
    have hkT : Trk (upd (S.2.2.1 1) 3 (nI c)) (fun i => if i = 0 then c0 else if i = 1 then c1 else if i = 2 then c2 else c) := by
      intro i hi
      rcases (show i = 0 ∨ i = 1 ∨ i = 2 ∨ i = 3 by omega) with rfl | rfl | rfl | rfl
      · exact ⟨hc0, ec0⟩
      · exact ⟨hc1, ec1⟩
      · exact ⟨hc2, ec2⟩
      · exact ⟨hc, rfl⟩
    generalize (fun i => if i = 0 then c0 else if i = 1 then c1 else if i = 2 then c2 else c) = kc at hkT
    generalize hf : upd (S.2.2.1 1) 3 (nI c) = f at hkT
    generalize hg : less (S.2.2.2 0) t c = hs at hkn hcn hcr
    have hB := bst_lt kc
    have w4 : (L + bst kc) % 4 < 4 := Nat.mod_lt _ (by decide)
    show ∃ r S' M', (if (4 : Int32) ≤ nI (3 + 1) then _ else _) = _ ∧ _
    rw [if_pos (show (4 : Int32) ≤ nI (3 + 1) by decide)]
    rw [show (tk_I (tk_A (tk_B M 0 hs) 3 f) 15 (nI (3 + 1))).1 15 = nI (3 + 1) from rfl, if_pos (show (4 : Int32) ≤ nI (3 + 1) by decide)]
    rw [e_win (S := tk_I (tk_A (tk_B S 0 hs) 1 f) 14 (nI (3 + 1))) L4 eL hkT rfl, b1s, e_endTrick (S := tk_I (tk_A (tk_B S 0 hs) 1 f) 14 (nI (3 + 1))) (T := T) rfl eT]
    rw [e_best (S := tk_I (tk_I (tk_A (tk_B M 0 hs) 3 f) 15 (nI (3 + 1))) 12 (outN M c)) hkT rfl, b1s, show (tk_I (tk_A (tk_B M 0 hs) 3 f) 15 (nI (3 + 1))).1 16 = nI L from eML, nI_add, show (4 : Int32) = nI 4 from rfl, e_rem (by omega) (by decide) (by decide)]
    generalize hw : (L + bst kc) % 4 = w at w4
    obtain ⟨A, x1, x2, x3, x4, x5, x6⟩ := L_104 (S := tk_I (tk_I (tk_A (tk_B M 0 hs) 3 f) 15 (nI (3 + 1))) 12 (outN M c)) w4 4 (by omega)
    have g : ∀ i, i ≠ 12 → i ≠ 15 → A.1 i = M.1 i := fun i i1 i2 => by rw [x2, uI1, if_neg i1, uI1, if_neg i2]; rfl
    have g12 : A.1 12 = outN M c := by rw [x2]; rfl
    have g15 : A.1 15 = nI 4 := by rw [x2]; rfl
    have ga3 : A.2.2.1 3 = f := by rw [x4]; rfl
    have ga : ∀ j, j ≠ 3 → A.2.2.1 j = M.2.2.1 j := fun j hj => by rw [x4]; show (tk_A _ 3 f).2.2.1 j = _; rw [uA3, if_neg hj]; rfl
    have gh : A.2.2.2 0 = hs := by rw [x5]; rfl
    have x6' : A.2.2.2 1 = fun p => if p = w then M.2.2.2 1 w ||| orr f 0 4 else M.2.2.2 1 p := x6
    have x3' : A.2.1 = M.2.1 := x3
    show ∃ r S' M', (tk_b1 (if nI (T + 1) = 12 then _ else _) _) = _ ∧ _
    -- the hall's state with the trick in the pile
    generalize hY : tk_B (tk_I (tk_A (tk_B S 0 hs) 1 f) 14 (nI (3 + 1))) 1 (vp_updL ((tk_I (tk_A (tk_B S 0 hs) 1 f) 14 (nI (3 + 1))).2.2.2 1) (sn (sd (nI w) ((tk_I (tk_A (tk_B S 0 hs) 1 f) 14 (nI (3 + 1))).1 3) ((tk_I (tk_A (tk_B S 0 hs) 1 f) 14 (nI (3 + 1))).1 6))) ((tk_I (tk_A (tk_B S 0 hs) 1 f) 14 (nI (3 + 1))).2.2.2 1 (sn (sd (nI w) ((tk_I (tk_A (tk_B S 0 hs) 1 f) 14 (nI (3 + 1))).1 3) ((tk_I (tk_A (tk_B S 0 hs) 1 f) 14 (nI (3 + 1))).1 6))) ||| orr ((tk_I (tk_A (tk_B S 0 hs) 1 f) 14 (nI (3 + 1))).2.2.1 1) 0 4)) = Y
    have y1 : ∀ i, i ≠ 14 → Y.1 i = S.1 i := fun i i1 => by rw [← hY, uB1, uI1, if_neg i1]; rfl
    have y14 : Y.1 14 = nI 4 := by rw [← hY]; rfl
    have y2 : Y.2.1 = S.2.1 := by rw [← hY]; rfl
    have ya1 : Y.2.2.1 1 = f := by rw [← hY]; rfl
    have ya : ∀ j, j ≠ 1 → Y.2.2.1 j = S.2.2.1 j := fun j hj => by rw [← hY]; show (tk_A _ 1 f).2.2.1 j = _; rw [uA3, if_neg hj]; rfl
    have yh : Y.2.2.2 0 = hs := by rw [← hY]; rfl
    have yp : ∀ s, Y.2.2.2 1 s = if s = sn (sd (nI w) (S.1 3) (S.1 6)) then S.2.2.2 1 s ||| orr f 0 4 else S.2.2.2 1 s := fun s => by
      rw [← hY]
      show vp_updL (S.2.2.2 1) (sn (sd (nI w) (S.1 3) (S.1 6))) (S.2.2.2 1 (sn (sd (nI w) (S.1 3) (S.1 6))) ||| orr f 0 4) s = _
      rw [updLE]
      by_cases e : s = sn (sd (nI w) (S.1 3) (S.1 6))
      · rw [if_pos e, if_pos e, ← e]
      · rw [if_neg e, if_neg e]
    clear hY
    have hp0 : Y.2.2.2 1 0 = pl (A.2.1 0) (A.2.2.2 1) (S.1 3) (S.1 6) 0 := by
      rw [yp, x3', x6', pl_add _ _ _ _ _ w4, ← hPil.1]
      rcases sd01 (nI w) (S.1 3) (S.1 6) with r | r
      · rw [r]; rfl
      · rw [r]; rfl
    have hp1 : Y.2.2.2 1 1 = pl (A.2.1 1) (A.2.2.2 1) (S.1 3) (S.1 6) 1 := by
      rw [yp, x3', x6', pl_add _ _ _ _ _ w4, ← hPil.2]
      rcases sd01 (nI w) (S.1 3) (S.1 6) with r | r
      · rw [r]; rfl
      · rw [r]; rfl
    rw [x1, show 64 - 4 = 59 + 1 from rfl, f_X7_plays_104_s, if_pos (show (4 : Int32) ≤ nI 4 by decide), show A.1 17 = nI T from (g 17 (by decide) (by decide)).trans (a17.trans eT), nI_1]
    have q8 : (tk_I A 17 (nI (T + 1))).1 8 = (tk_I (tk_I Y 9 (nI (T + 1))) 2 (nI w)).1 3 := (g 8 (by decide) (by decide)).trans (a8.trans (y1 3 (by decide)).symm)
    have q10 : (tk_I A 17 (nI (T + 1))).1 10 = (tk_I (tk_I Y 9 (nI (T + 1))) 2 (nI w)).1 6 := (g 10 (by decide) (by decide)).trans (a10.trans (y1 6 (by decide)).symm)
    have q9 : (tk_I A 17 (nI (T + 1))).1 9 = (tk_I (tk_I Y 9 (nI (T + 1))) 2 (nI w)).1 4 := (g 9 (by decide) (by decide)).trans (a9.trans (y1 4 (by decide)).symm)
    have qL : (tk_I (tk_I Y 9 (nI (T + 1))) 2 (nI w)).1 13 = nI L := (y1 13 (by decide)).trans eL
    have qLM : (tk_I A 17 (nI (T + 1))).1 16 = nI L := (g 16 (by decide) (by decide)).trans eML
    have hkS : Trk ((tk_I (tk_I Y 9 (nI (T + 1))) 2 (nI w)).2.2.1 1) kc := by
      show Trk (Y.2.2.1 1) kc
      rw [ya1]; exact hkT
    have hkM : Trk ((tk_I A 17 (nI (T + 1))).2.2.1 3) kc := by
      show Trk (A.2.2.1 3) kc
      rw [ga3]; exact hkT
    have qb : (tk_I (tk_I Y 9 (nI (T + 1))) 2 (nI w)).1 8 = nI (b0 + 2 * b1) := (y1 8 (by decide)).trans eb
    have qm0 : (tk_I A 17 (nI (T + 1))).2.2.1 2 0 = nI b0 := by
      show A.2.2.1 2 0 = _
      rw [ga 2 (by decide)]; exact em0
    have qm1 : (tk_I A 17 (nI (T + 1))).2.2.1 2 1 = nI b1 := by
      show A.2.2.1 2 1 = _
      rw [ga 2 (by decide)]; exact em1
    obtain ⟨v1, p1, p2⟩ := e_pagat L4 qL qLM hkS hkM y14 g15 hb0 hb1 qb qm0 q8 q10
    obtain ⟨v2, k1, k2⟩ := e_kingP L4 qL qLM hkS hkM y14 g15 hb0 hb1 qb qm1 q8 q10 q9 (by
      show Y.1 4 = -1 ∨ ∃ s, s < 4 ∧ Y.1 4 = nI s
      rw [y1 4 (by decide)]; exact hK.2.2.1)
    rw [hw] at p1 k1
    rw [p2, b1s, k2, b1s]
    have hFY : ∃ D : Nat, D ≤ k ∧ A.1 2 = nI D ∧ ((D = 0 ∧ Y.1 0 = -1) ∨ (0 < D ∧ Y.1 0 = nI ((D - 1) % 4) ∧ A.1 3 = nI ((D - 1) % 4))) := by
      obtain ⟨D, d1, d2, d3⟩ := hF
      rw [g 2 (by decide) (by decide), g 3 (by decide) (by decide), y1 0 (by decide)]
      exact ⟨D, d1, d2, d3⟩
    have hPY : Y.1 6 = -1 ∨ ∃ q, q < 4 ∧ Y.1 6 = nI q ∧ Y.1 6 ≠ Y.1 3 := by
      rw [y1 6 (by decide), y1 3 (by decide)]; exact hP
    have hDY : Y.1 3 = -1 ∨ ∃ d, d < 4 ∧ Y.1 3 = nI d := by
      rw [y1 3 (by decide)]; exact hD
    have hKY : (Y.1 3 ≠ -1 → (Y.1 4 = -1 ↔ 3 < Y.1 11)) ∧ (Y.1 5 = -1 ∨ ∃ o, o < 4 ∧ Y.1 5 = nI o) ∧ (Y.1 4 = -1 ∨ ∃ s, s < 4 ∧ Y.1 4 = nI s) ∧ ∀ s o, s < 4 → o < 4 → Y.1 4 = nI s → Y.1 5 = nI o → A.1 12 = if tb (Y.2.2.2 0 o) (8 * s + 7) = true then 0 else 1 := by
      rw [y1 3 (by decide), y1 4 (by decide), y1 11 (by decide), y1 5 (by decide), yh, g12]
      exact ⟨fun e => hK.1 e (by rw [h5]; decide), hK.2.1, hK.2.2.1, hkn⟩
    have hCY : Crd (Y.2.2.2 0) := by rw [yh]; exact hcr
    by_cases hT : T + 1 = 12
    · rw [if_pos (show nI (T + 1) = 12 by rw [hT]; rfl), if_pos (show nI (T + 1) = 12 by rw [hT]; rfl)]
      obtain ⟨n, hn, hth⟩ := thirds_b (Y.2.2.2 1 0)
      have hcd : f_X7_cardsOf (nI 0) (tk_I (tk_I (tk_I (tk_I A 17 (nI (T + 1))) 15 0) 16 (nI w)) 4 (nI w)) = some (Y.2.2.2 1 0) := by
        rw [e_cards (tk_I (tk_I Y 9 (nI (T + 1))) 2 (nI w)) (tk_I (tk_I (tk_I (tk_I A 17 (nI (T + 1))) 15 0) 16 (nI w)) 4 (nI w)) q8 q10 0 (by decide), if_neg (show ¬ (tk_I (tk_I (tk_I (tk_I A 17 (nI (T + 1))) 15 0) 16 (nI w)) 4 (nI w)).1 14 = 0 by
          show ¬ A.1 14 = 0
          rw [g 14 (by decide) (by decide), e14]; exact n10), if_pos rfl]
        show some (pl (A.2.1 0) (A.2.2.2 1) (Y.1 3) (Y.1 6) 0) = _
        rw [y1 3 (by decide), y1 6 (by decide), hp0]
      have hct : f_X7_counted 0 (tk_I (tk_I (tk_I (tk_I A 17 (nI (T + 1))) 15 0) 16 (nI w)) 4 (nI w)) = some (nI n) := (L_thirds hcd 64 0 0 (by omega)).symm.trans hth
      obtain ⟨U, V, u1, u2, u3, u4, u5, ⟨u6, u7, u8⟩, ⟨u9, u10, u11⟩, u12, u13⟩ := e_final (S := tk_I (tk_I Y 9 (nI (T + 1))) 2 (nI w)) (M := tk_I (tk_I (tk_I (tk_I A 17 (nI (T + 1))) 15 0) 16 (nI w)) 4 (nI w)) d4 hn l1 l5 ((y1 3 (by decide)).trans ed) hPY ((y1 11 (by decide)).trans el) ((g 6 (by decide) (by decide)).trans (a6.trans el)) q8 q10 (by
          show A.2.2.1 4 = Y.2.2.1 2
          rw [ga 4 (by decide), ya 2 (by decide)]; exact aA.2.2.1) (by
          show A.2.2.1 5 = Y.2.2.1 3
          rw [ga 5 (by decide), ya 3 (by decide)]; exact aA.2.2.2.1) hth hct p1 k1
      rw [u1, b1s, b1s, u2, b1s]
      have u2' : U.2.1 = Y.2.1 := u6
      have v2' : V.2.1 = A.2.1 := u9
      have u7' : U.2.2.2 = Y.2.2.2 := u7
      have v7' : V.2.2.2 = A.2.2.2 := u10
      have gu : ∀ i, i ≠ 15 → i ≠ 9 → i ≠ 2 → U.1 i = Y.1 i := fun i i1 i2 i3 => by rw [u4 i i1, uI1, if_neg i3, uI1, if_neg i2]
      have gv : ∀ i, i ≠ 18 → i ≠ 17 → i ≠ 15 → i ≠ 16 → i ≠ 4 → V.1 i = A.1 i := fun i i1 i2 i3 i4 i5 => by rw [u5 i i1, uI1, if_neg i5, uI1, if_neg i4, uI1, if_neg i3, uI1, if_neg i2]
      have cc : ∀ i j, i ≠ 18 → i ≠ 17 → i ≠ 15 → i ≠ 16 → i ≠ 4 → i ≠ 12 → j ≠ 15 → j ≠ 9 → j ≠ 2 → j ≠ 14 → M.1 i = S.1 j → V.1 i = U.1 j := fun i j i1 i2 i3 i4 i5 i6 j1 j2 j3 j4 e => by rw [gv i i1 i2 i3 i4 i5, g i i6 i3, gu j j1 j2 j3, y1 j j4, e]
      refine ⟨_, _, _, rfl, rfl, ⟨⟨rfl, rfl, cc 8 3 (by decide) (by decide) (by decide) (by decide) (by decide) (by decide) (by decide) (by decide) (by decide) (by decide) a8, cc 9 4 (by decide) (by decide) (by decide) (by decide) (by decide) (by decide) (by decide) (by decide) (by decide) (by decide) a9, cc 11 5 (by decide) (by decide) (by decide) (by decide) (by decide) (by decide) (by decide) (by decide) (by decide) (by decide) hE.2.2.2.2.1, cc 10 6 (by decide) (by decide) (by decide) (by decide) (by decide) (by decide) (by decide) (by decide) (by decide) (by decide) a10, cc 6 11 (by decide) (by decide) (by decide) (by decide) (by decide) (by decide) (by decide) (by decide) (by decide) (by decide) a6, cc 7 12 (by decide) (by decide) (by decide) (by decide) (by decide) (by decide) (by decide) (by decide) (by decide) (by decide) hE.2.2.2.2.2.2.2.1, (u5 17 (by decide)).trans (u4 9 (by decide)).symm, u5 15 (by decide), u3, ?_, ?_, ?_, u12, u13, ?_⟩, ⟨b0, b1, hb0, hb1, (u4 8 (by decide)).trans qb, ?_, ?_⟩, ?_, ?_, ?_, ?_, ?_, Or.inr ⟨(gv 14 (by decide) (by decide) (by decide) (by decide) (by decide)).trans ((g 14 (by decide) (by decide)).trans e14), ?_, ?_⟩, ⟨0, by decide, rfl⟩, Or.inl ⟨rfl, rfl⟩⟩, ?_⟩
      · show V.2.1 0 = U.2.1 0
        rw [v2', u2', x3', y2]; exact aL
      · show V.2.2.1 0 = U.2.2.1 0
        rw [u11 0 (by decide) (by decide), u8 0 (by decide) (by decide)]
        show A.2.2.1 0 = Y.2.2.1 0
        rw [ga 0 (by decide), ya 0 (by decide)]; exact aA.1
      · show V.2.2.1 3 = U.2.2.1 1
        rw [u11 3 (by decide) (by decide), u8 1 (by decide) (by decide)]
        show A.2.2.1 3 = Y.2.2.1 1
        rw [ga3, ya1]
      · show V.2.2.2 0 = U.2.2.2 0
        rw [v7', u7', gh, yh]
      · show V.2.2.1 2 0 = _
        rw [u11 2 (by decide) (by decide)]; exact qm0
      · show V.2.2.1 2 1 = _
        rw [u11 2 (by decide) (by decide)]; exact qm1
      · show ∃ D : Nat, D ≤ k ∧ V.1 2 = nI D ∧ ((D = 0 ∧ U.1 0 = -1) ∨ (0 < D ∧ U.1 0 = nI ((D - 1) % 4) ∧ V.1 3 = nI ((D - 1) % 4)))
        rw [gv 2 (by decide) (by decide) (by decide) (by decide) (by decide), gv 3 (by decide) (by decide) (by decide) (by decide) (by decide), gu 0 (by decide) (by decide) (by decide)]
        exact hFY
      · show U.1 6 = -1 ∨ ∃ q, q < 4 ∧ U.1 6 = nI q ∧ U.1 6 ≠ U.1 3
        rw [gu 6 (by decide) (by decide) (by decide), gu 3 (by decide) (by decide) (by decide)]; exact hPY
      · show U.1 3 = -1 ∨ ∃ d, d < 4 ∧ U.1 3 = nI d
        rw [gu 3 (by decide) (by decide) (by decide)]; exact hDY
      · show (U.1 3 ≠ -1 → (0 : Int32) ≠ 2 → (U.1 4 = -1 ↔ 3 < U.1 11)) ∧ (U.1 5 = -1 ∨ ∃ o, o < 4 ∧ U.1 5 = nI o) ∧ (U.1 4 = -1 ∨ ∃ s, s < 4 ∧ U.1 4 = nI s) ∧ ∀ s o, s < 4 → o < 4 → U.1 4 = nI s → U.1 5 = nI o → V.1 12 = if tb (U.2.2.2 0 o) (8 * s + 7) = true then 0 else 1
        rw [gu 3 (by decide) (by decide) (by decide), gu 4 (by decide) (by decide) (by decide), gu 5 (by decide) (by decide) (by decide), gu 11 (by decide) (by decide) (by decide), u7', gv 12 (by decide) (by decide) (by decide) (by decide) (by decide)]
        exact ⟨fun e _ => hKY.1 e, hKY.2⟩
      · show Crd (U.2.2.2 0)
        rw [u7']; exact hCY
      · show U.2.2.2 1 0 = pl (V.2.1 0) (V.2.2.2 1) (U.1 3) (U.1 6) 0
        rw [u7', v2', v7', gu 3 (by decide) (by decide) (by decide), gu 6 (by decide) (by decide) (by decide), y1 3 (by decide), y1 6 (by decide)]; exact hp0
      · show U.2.2.2 1 1 = pl (V.2.1 1) (V.2.2.2 1) (U.1 3) (U.1 6) 1
        rw [u7', v2', v7', gu 3 (by decide) (by decide) (by decide), gu 6 (by decide) (by decide) (by decide), y1 3 (by decide), y1 6 (by decide)]; exact hp1
      · show V.1 0 = M.1 0
        rw [gv 0 (by decide) (by decide) (by decide) (by decide) (by decide), g 0 (by decide) (by decide)]
    · have hT' : ¬ nI (T + 1) = 12 := fun e => hT ((nI_eq (b := 12) (by omega) (by decide)).mp e)
      rw [if_neg hT', if_neg hT', b1s]
      have cc : ∀ i j, i ≠ 15 → i ≠ 12 → j ≠ 14 → M.1 i = S.1 j → A.1 i = Y.1 j := fun i j i3 i6 j4 e => by rw [g i i6 i3, y1 j j4, e]
      refine ⟨_, _, _, rfl, rfl, ⟨⟨cc 1 1 (by decide) (by decide) (by decide) a1, rfl, cc 8 3 (by decide) (by decide) (by decide) a8, cc 9 4 (by decide) (by decide) (by decide) a9, cc 11 5 (by decide) (by decide) (by decide) hE.2.2.2.2.1, cc 10 6 (by decide) (by decide) (by decide) a10, cc 6 11 (by decide) (by decide) (by decide) a6, cc 7 12 (by decide) (by decide) (by decide) hE.2.2.2.2.2.2.2.1, rfl, rfl, cc 18 15 (by decide) (by decide) (by decide) hE.2.2.2.2.2.2.2.2.2.2.1, ?_, ?_, ?_, ?_, ?_, ?_⟩, ⟨b0, b1, hb0, hb1, qb, qm0, qm1⟩, hFY, hPY, hDY, ⟨fun e _ => hKY.1 e, hKY.2⟩, hCY, Or.inr ⟨(g 14 (by decide) (by decide)).trans e14, ?_, ?_⟩, ⟨0, by decide, rfl⟩, Or.inr (Or.inr (Or.inr (Or.inr (Or.inr ⟨(y1 1 (by decide)).trans h5, l, d, w, 0, T + 1, l1, l5, d4, w4, by decide, by omega, (y1 11 (by decide)).trans el, (y1 3 (by decide)).trans ed, rfl, rfl, rfl, rfl, ?_, fun p hp => ?_, (g 14 (by decide) (by decide)).trans e14, fun k hk => absurd hk (Nat.not_lt_zero k)⟩))))⟩, ?_⟩
      · show A.2.1 0 = Y.2.1 0
        rw [x3', y2]; exact aL
      · show A.2.2.1 0 = Y.2.2.1 0
        rw [ga 0 (by decide), ya 0 (by decide)]; exact aA.1
      · show A.2.2.1 3 = Y.2.2.1 1
        rw [ga3, ya1]
      · show A.2.2.1 4 = Y.2.2.1 2
        rw [ga 4 (by decide), ya 2 (by decide)]; exact aA.2.2.1
      · show A.2.2.1 5 = Y.2.2.1 3
        rw [ga 5 (by decide), ya 3 (by decide)]; exact aA.2.2.2.1
      · show A.2.2.2 0 = Y.2.2.2 0
        rw [gh, yh]
      · show Y.2.2.2 1 0 = pl (A.2.1 0) (A.2.2.2 1) (Y.1 3) (Y.1 6) 0
        rw [y1 3 (by decide), y1 6 (by decide)]; exact hp0
      · show Y.2.2.2 1 1 = pl (A.2.1 1) (A.2.2.2 1) (Y.1 3) (Y.1 6) 1
        rw [y1 3 (by decide), y1 6 (by decide)]; exact hp1
      · show nI w = nI ((w + 0) % 4)
        rw [Nat.add_zero, Nat.mod_eq_of_lt w4]
      · show cn (Y.2.2.2 0 p) = 12 - (T + 1) - (if (p + 4 - w) % 4 < 0 then 1 else 0)
        rw [yh, hcn p hp, if_pos (show (p + 4 - L) % 4 < 3 + 1 from Nat.mod_lt _ (by decide)), if_neg (Nat.not_lt_zero _)]
        omega
      · show A.1 0 = M.1 0
        rw [g 0 (by decide) (by decide)]
