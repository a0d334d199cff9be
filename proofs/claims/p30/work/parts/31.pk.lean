/-! a card is played: the whole of it -/
def Car (D l d L z T : Nat) (kc : Nat → Nat) (c : Nat) (S S' : tk_ST) (r : Int32) : Prop :=
  Inv D S' ∧ S'.2.2.2 0 = less (S.2.2.2 0) ((L + z) % 4) c ∧
  (z < 3 → r = -1 ∧ S'.1 14 = nI (z + 1) ∧ S'.2.2.1 1 z = nI c ∧ S'.1 2 = nI ((L + z + 1) % 4)) ∧
  (z = 3 → r = nI ((L + bst (kz kc 3 c)) % 4) ∧ S'.1 9 = nI (T + 1) ∧ S'.1 14 = 0 ∧ S'.1 2 = (if T = 11 then -1 else r) ∧ th (S'.2.2.2 1 0) + th (S'.2.2.2 1 1) = th (S.2.2.2 1 0) + th (S.2.2.2 1 1) + trS (kz kc 3 c) 4) ∧
  ((S'.1 1 = 5 ∧ ∃ (L' z' T' : Nat) (kc' : Nat → Nat), PlX D l d L' z' T' kc' S' ∧ 48 - 4 * T' - z' + 1 = 48 - 4 * T - z) ∨ (S'.1 1 = 0 ∧ 48 - 4 * T - z = 1 ∧ Scd S'))
theorem S_card {D : Nat} {S : tk_ST} (h : Inv D S) (hD : D < 2 ^ 29) (h5 : S.1 1 = 5) {l d L z T : Nat} {kc : Nat → Nat} (hP : PlX D l d L z T kc S) {c : Nat} (hc : c < 54) (hh : tb (S.2.2.2 0 ((L + z) % 4)) c = true) : ∃ r S', f_X6_addToTrick (nI c) S = some (r, S') ∧ Car D l d L z T kc c S S' r := by
  obtain ⟨hF, hA, hS, hPl, -⟩ := id h
  obtain ⟨l1, l5, d4, L4, z4, T12, el, ed, eL, ez, eT, et, hcn, hkc, hDj, hTot, hB⟩ := id hP
  have ht : (L + z) % 4 < 4 := Nat.mod_lt _ (by decide)
  have hcn' := cn_play L4 z4 T12 hc rfl hh hcn
  have hDj' := card_dj hDj ht hh
  have hth := less_th ht hc hh
  have hkc' : ∀ j, j < z + 1 → upd (S.2.2.1 1) z (nI c) j = nI (kz kc z c j) := by
    intro j hj
    unfold kz
    rw [updE]
    by_cases e : j = z
    · rw [if_pos e, if_pos e]
    · rw [if_neg e, if_neg e]; exact hkc j (by omega)
  have htr : trS (kz kc z c) (z + 1) = trS kc z + w3 c := by
    show trS (kz kc z c) z + w3 (kz kc z c z) = _
    rw [trS_congr z (fun i hi => show kz kc z c i = kc i from if_neg (by omega))]
    unfold kz
    rw [if_pos rfl]
  have hTot' : Tot (less (S.2.2.2 0) ((L + z) % 4) c) (S.2.2.2 1 0) (S.2.2.2 1 1) (z + 1) (kz kc z c) := by
    unfold Tot at hTot ⊢
    omega
  rw [e_first ht z4 et ez]
  by_cases qz : z < 3
  · show ∃ r S', (if (4 : Int32) ≤ nI (z + 1) then _ else _) = some (r, S') ∧ _
    rw [if_neg (show ¬ (4 : Int32) ≤ nI (z + 1) from nI_ge (b := 4) (by omega) (by decide))]
    have e2 : ((L + z) % 4 + 1) % 4 = (L + z + 1) % 4 := by omega
    have hX : PlX D l d L (z + 1) T (kz kc z c) (tk_I (tk_I (tk_A (tk_B S 0 (less (S.2.2.2 0) ((L + z) % 4) c)) 1 (upd (S.2.2.1 1) z (nI c))) 14 (nI (z + 1))) 2 (nI (((L + z) % 4 + 1) % 4))) := by
      refine ⟨l1, l5, d4, L4, by omega, T12, el, ed, eL, rfl, eT, ?_, hcn', hkc', hDj', hTot', hB⟩
      show nI (((L + z) % 4 + 1) % 4) = nI ((L + (z + 1)) % 4)
      rw [e2]; rfl
    refine ⟨-1, _, rfl, ⟨hF, hA, hS, ⟨hDj'.crd, hPl.2⟩, Or.inr (Or.inr (Or.inr (Or.inr (Or.inr ⟨h5, l, d, L, z + 1, T, _, hX⟩))))⟩, rfl, fun _ => ⟨rfl, rfl, ?_, ?_⟩, fun e => absurd e (by omega), Or.inl ⟨h5, L, z + 1, T, _, hX, by omega⟩⟩
    · show upd (S.2.2.1 1) z (nI c) z = nI c
      rw [updE, if_pos rfl]
    · show nI (((L + z) % 4 + 1) % 4) = _
      rw [e2]
  · obtain rfl : z = 3 := by omega
    have hk54 : ∀ i, i < 4 → kz kc 3 c i < 54 := by
      obtain ⟨loc, -, -, -, k4⟩ := id hDj'
      exact fun i hi => (k4 i hi).1
    have hinj : ∀ i j, i < 4 → j < 4 → kz kc 3 c i = kz kc 3 c j → i = j := by
      obtain ⟨loc, -, -, -, k4⟩ := id hDj'
      intro i j hi hj e
      have a := (k4 i hi).2
      have b := (k4 j hj).2
      rw [e] at a
      omega
    generalize hkk : kz kc 3 c = kk at hkc' htr hTot' hDj' hk54 hinj
    generalize hf : upd (S.2.2.1 1) 3 (nI c) = f at hkc'
    have hkT : Trk f kk := fun i hi => ⟨hk54 i hi, hkc' i hi⟩
    generalize hg : less (S.2.2.2 0) ((L + 3) % 4) c = hs at hcn' hDj' hTot'
    have hB4 := bst_lt kk
    have w4 : (L + bst kk) % 4 < 4 := Nat.mod_lt _ (by decide)
    show ∃ r S', (if (4 : Int32) ≤ nI (3 + 1) then _ else _) = some (r, S') ∧ _
    rw [if_pos (show (4 : Int32) ≤ nI (3 + 1) by decide)]
    rw [e_win (S := tk_I (tk_A (tk_B S 0 hs) 1 f) 14 (nI (3 + 1))) L4 eL hkT rfl, b1s, e_endTrick (S := tk_I (tk_A (tk_B S 0 hs) 1 f) 14 (nI (3 + 1))) (T := T) rfl eT]
    generalize hw : (L + bst kk) % 4 = w at w4
    show ∃ r S', (tk_b1 (if nI (T + 1) = 12 then _ else _) _) = some (r, S') ∧ _
    generalize hY : tk_B (tk_I (tk_A (tk_B S 0 hs) 1 f) 14 (nI (3 + 1))) 1 (vp_updL ((tk_I (tk_A (tk_B S 0 hs) 1 f) 14 (nI (3 + 1))).2.2.2 1) (sn (sd (nI w) ((tk_I (tk_A (tk_B S 0 hs) 1 f) 14 (nI (3 + 1))).1 3) ((tk_I (tk_A (tk_B S 0 hs) 1 f) 14 (nI (3 + 1))).1 6))) ((tk_I (tk_A (tk_B S 0 hs) 1 f) 14 (nI (3 + 1))).2.2.2 1 (sn (sd (nI w) ((tk_I (tk_A (tk_B S 0 hs) 1 f) 14 (nI (3 + 1))).1 3) ((tk_I (tk_A (tk_B S 0 hs) 1 f) 14 (nI (3 + 1))).1 6))) ||| orr ((tk_I (tk_A (tk_B S 0 hs) 1 f) 14 (nI (3 + 1))).2.2.1 1) 0 4)) = Y
    have y1 : ∀ i, i ≠ 14 → Y.1 i = S.1 i := fun i i1 => by rw [← hY, uB1, uI1, if_neg i1]; rfl
    have y14 : Y.1 14 = nI 4 := by rw [← hY]; rfl
    have ya1 : Y.2.2.1 1 = f := by rw [← hY]; rfl
    have ya : ∀ j, j ≠ 1 → Y.2.2.1 j = S.2.2.1 j := fun j hj => by rw [← hY]; show (tk_A _ 1 f).2.2.1 j = _; rw [uA3, if_neg hj]; rfl
    have yh : Y.2.2.2 0 = hs := by rw [← hY]; rfl
    have s2 : sn (sd (nI w) (S.1 3) (S.1 6)) < 2 := by unfold sn; split <;> omega
    have yp : ∀ s, Y.2.2.2 1 s = if s = sn (sd (nI w) (S.1 3) (S.1 6)) then S.2.2.2 1 s ||| orr f 0 4 else S.2.2.2 1 s := fun s => by
      rw [← hY]
      show vp_updL (S.2.2.2 1) (sn (sd (nI w) (S.1 3) (S.1 6))) (S.2.2.2 1 (sn (sd (nI w) (S.1 3) (S.1 6))) ||| orr f 0 4) s = _
      rw [updLE]
      by_cases e : s = sn (sd (nI w) (S.1 3) (S.1 6))
      · rw [if_pos e, if_pos e, ← e]
      · rw [if_neg e, if_neg e]
    clear hY
    have htb := tb_orT (f := f) (kc := kk) 4 (fun i hi => hkT i hi)
    have hDY : Dj (Y.2.2.2 0) (Y.2.2.2 1 0) (Y.2.2.2 1 1) 0 (fun _ => 0) := by
      rw [yh]
      exact pile_dj (w := S.2.2.2 1) (v := Y.2.2.2 1) hDj' htb s2 yp (fun _ => 0)
    have hsum : th (Y.2.2.2 1 0) + th (Y.2.2.2 1 1) = th (S.2.2.2 1 0) + th (S.2.2.2 1 1) + trS kk 4 := by
      rw [pile_th (w := S.2.2.2 1) (v := Y.2.2.2 1) hDj' htb s2 yp, th_orT 4 (fun i hi => hkT i hi) hinj]
    have hTY : Tot (Y.2.2.2 0) (Y.2.2.2 1 0) (Y.2.2.2 1 1) 0 (fun _ => 0) := by
      unfold Tot at hTot' ⊢
      rw [show trS kk (3 + 1) = trS kk 4 from rfl] at hTot'
      rw [yh]
      show _ + 0 = 210
      omega
    have h210 : th (Y.2.2.2 1 0) + th (Y.2.2.2 1 1) ≤ 210 := by
      unfold Tot at hTY
      omega
    have hnil : ∀ p, p < 4 → cn (Y.2.2.2 0 p) = 12 - (T + 1) := fun p hp => by
      rw [yh, hcn' p hp, if_pos (show (p + 4 - L) % 4 < 3 + 1 from Nat.mod_lt _ (by decide))]
      omega
    have hBY : ∀ p, p < 4 → S.2.2.1 4 p = S.2.2.1 2 p ∧ S.2.2.1 4 (4 + p) = S.2.2.1 3 p ∧ ∃ n, n + 1 ≤ D ∧ S.2.2.1 3 p = nI n := hB
    by_cases hT : T + 1 = 12
    · rw [if_pos (show nI (T + 1) = 12 by rw [hT]; rfl)]
      have hq6 : Y.1 6 = -1 ∨ ∃ q', q' < 4 ∧ Y.1 6 = nI q' ∧ Y.1 6 ≠ Y.1 3 := by
        rw [y1 6 (by decide), y1 3 (by decide)]
        exact hS.2.1.imp id (fun ⟨q, a, b, c, _⟩ => ⟨q, a, b, c⟩)
      obtain ⟨b0, b1, hb0, hb1, eb⟩ := id hA
      have eb' : Y.1 8 = nI (b0 + 2 * b1) := (y1 8 (by decide)).trans eb
      have eL' : Y.1 13 = nI L := (y1 13 (by decide)).trans eL
      have hkY : Trk (Y.2.2.1 1) kk := by rw [ya1]; exact hkT
      obtain ⟨v1, p1, p2⟩ := S_pagat (S := tk_I (tk_I Y 9 (nI (T + 1))) 2 (nI w)) L4 eL' hkY y14 hb0 hb1 eb' (nI w)
      obtain ⟨v2, k1, k2⟩ := S_king (S := tk_I (tk_I Y 9 (nI (T + 1))) 2 (nI w)) L4 eL' hkY y14 hb0 hb1 eb' (by
        show Y.1 4 = -1 ∨ ∃ s, s < 4 ∧ Y.1 4 = nI s
        rw [y1 4 (by decide)]; exact hS.2.2.1) (nI w)
      obtain ⟨U, u1, u2, ⟨u3, u4, u5⟩, u6, u7, u8⟩ := S_final (S := tk_I (tk_I Y 9 (nI (T + 1))) 2 (nI w)) (t := th (Y.2.2.2 1 0)) d4 (by omega) l1 l5 ((y1 3 (by decide)).trans ed) hq6 ((y1 11 (by decide)).trans el) (e_th _) p1 k1
      rw [u1, b1s, b1s]
      have gu : ∀ i, i ≠ 15 → i ≠ 9 → i ≠ 2 → i ≠ 14 → U.1 i = S.1 i := fun i i1 i2 i3 i4 => by rw [u2 i i1, uI1, if_neg i3, uI1, if_neg i2, y1 i i4]
      have u4' : U.2.2.2 = Y.2.2.2 := u4
      have u54 : U.2.2.1 4 = S.2.2.1 4 := (u5 4 (by decide) (by decide)).trans (ya 4 (by decide))
      have u7' : U.2.2.1 2 = plus (S.2.2.1 2) (nI d) (S.1 6) (U.1 15) := by
        rw [u7]
        show plus (Y.2.2.1 2) (nI d) (Y.1 6) (U.1 15) = _
        rw [ya 2 (by decide), y1 6 (by decide)]
      have u6' : U.1 15 = resR (S.2.2.1 3) d ((gmL l (th (Y.2.2.2 1 0)) + v1) + v2) := by
        rw [u6]
        show resR (Y.2.2.1 3) d _ = _
        rw [ya 3 (by decide)]
      have u8' : ∀ j, j < 4 → U.2.2.1 3 j = resA (S.2.2.1 3) d (th (Y.2.2.2 1 0)) j + (if l ≤ 3 then 0 else 1) := by
        intro j hj
        rw [u8 j hj]
        show resA (Y.2.2.1 3) d _ j + _ = _
        rw [ya 3 (by decide)]
      obtain ⟨-, bd2, nd, nd1, nd2⟩ := hBY d d4
      have hRad : ∀ p, p < 4 → ∃ n, n ≤ D ∧ U.2.2.1 3 p = nI n := by
        intro p hp
        obtain ⟨-, -, n, n1, n2⟩ := hBY p hp
        obtain ⟨k, k1, k2⟩ := resA_n (t := th (Y.2.2.2 1 0)) nd2 n2 (by omega)
        rw [u8' p hp, k2]
        by_cases q : l ≤ 3
        · rw [if_pos q, Int32.add_zero]; exact ⟨k, by omega, rfl⟩
        · rw [if_neg q, nI_1]; exact ⟨k + 1, by omega, rfl⟩
      have hsum' : th (U.2.2.2 1 0) + th (U.2.2.2 1 1) = th (S.2.2.2 1 0) + th (S.2.2.2 1 1) + trS kk 4 := by rw [u4']; exact hsum
      refine ⟨_, _, rfl, ⟨hF.eq (gu 0 (by decide) (by decide) (by decide) (by decide)), hA.eq (gu 8 (by decide) (by decide) (by decide) (by decide)), hS.eq (gu 3 (by decide) (by decide) (by decide) (by decide)) (gu 4 (by decide) (by decide) (by decide) (by decide)) (gu 5 (by decide) (by decide) (by decide) (by decide)) (gu 6 (by decide) (by decide) (by decide) (by decide)) (gu 11 (by decide) (by decide) (by decide) (by decide)), ⟨?_, 12, by omega, ?_, ?_, fun _ => ?_⟩, Or.inl ⟨rfl, rfl, rfl, hRad⟩⟩, ?_, fun e => absurd e (by decide), fun _ => ⟨?_, u2 9 (by decide), rfl, ?_, ?_⟩, Or.inr ⟨rfl, by omega, ?_⟩⟩
      · show Crd (U.2.2.2 0)
        rw [u4']; exact hDY.crd
      · show U.1 9 = nI 12
        rw [u2 9 (by decide)]
        show nI (T + 1) = nI 12
        rw [hT]
      · show th (U.2.2.2 1 0) + th (U.2.2.2 1 1) ≤ 210
        rw [u4']; exact h210
      · show th (U.2.2.2 1 0) + th (U.2.2.2 1 1) = 210
        rw [u4']
        unfold Tot at hTY
        have q0 := th_cn0 (x := Y.2.2.2 0 0) (by rw [hnil 0 (by omega)]; omega)
        have q1 := th_cn0 (x := Y.2.2.2 0 1) (by rw [hnil 1 (by omega)]; omega)
        have q2 := th_cn0 (x := Y.2.2.2 0 2) (by rw [hnil 2 (by omega)]; omega)
        have q3 := th_cn0 (x := Y.2.2.2 0 3) (by rw [hnil 3 (by omega)]; omega)
        have q4 : trS (fun _ => 0) 0 = 0 := rfl
        omega
      · show U.2.2.2 0 = _
        rw [u4', yh, hg]
      · rw [hkk, hw]
      · rw [if_pos (show T = 11 by omega)]; rfl
      · rw [hkk]; exact hsum'
      · refine ⟨d, th (Y.2.2.2 1 0), l, v1, v2, d4, by omega, l1, l5, (gu 3 (by decide) (by decide) (by decide) (by decide)).trans ed, (gu 11 (by decide) (by decide) (by decide) (by decide)).trans el, ?_, p2, k2, ?_, fun p hp => ?_, fun p hp => ?_, nd, by omega, ?_⟩
        · show _ = th (U.2.2.2 1 0)
          rw [u4']
        · show U.1 15 = resR (fun j => U.2.2.1 4 (4 + j)) d _
          rw [u6', u54]
          exact resR_c bd2.symm _
        · show U.2.2.1 2 p = U.2.2.1 4 p + (if sd (nI p) (nI d) (U.1 6) = 0 then U.1 15 else 0)
          rw [u7', u54, (hBY p hp).1, gu 6 (by decide) (by decide) (by decide) (by decide)]
          show S.2.2.1 2 p + (if p < 4 ∧ sd (nI p) (nI d) (S.1 6) = 0 then U.1 15 else 0) = _
          by_cases e : sd (nI p) (nI d) (S.1 6) = 0
          · rw [if_pos ⟨hp, e⟩, if_pos e]
          · rw [if_neg (fun y => e y.2), if_neg e]
        · show U.2.2.1 3 p = resA (fun j => U.2.2.1 4 (4 + j)) d _ p + _
          rw [u8' p hp, u54]
          exact congrArg (· + (if l ≤ 3 then (0 : Int32) else 1)) (resA_c bd2.symm (hBY p hp).2.1.symm)
        · show U.2.2.1 4 (4 + d) = nI nd
          rw [u54, bd2]; exact nd2
    · have hT' : ¬ nI (T + 1) = 12 := fun e => hT ((nI_eq (b := 12) (by omega) (by decide)).mp e)
      rw [if_neg hT', b1s]
      have hX : PlX D l d w 0 (T + 1) (fun _ => 0) (tk_I (tk_I (tk_I (tk_I Y 9 (nI (T + 1))) 2 (nI w)) 13 (nI w)) 14 0) := by
        refine ⟨l1, l5, d4, w4, by omega, by omega, (y1 11 (by decide)).trans el, (y1 3 (by decide)).trans ed, rfl, rfl, rfl, ?_, fun p hp => ?_, fun j hj => absurd hj (Nat.not_lt_zero j), hDY, hTY, fun p hp => ?_⟩
        · show nI w = nI ((w + 0) % 4)
          rw [Nat.add_zero, Nat.mod_eq_of_lt w4]
        · show cn (Y.2.2.2 0 p) = _
          rw [hnil p hp, if_neg (Nat.not_lt_zero _)]
          omega
        · show Y.2.2.1 4 p = Y.2.2.1 2 p ∧ Y.2.2.1 4 (4 + p) = Y.2.2.1 3 p ∧ ∃ n, n + 1 ≤ D ∧ Y.2.2.1 3 p = nI n
          rw [ya 4 (by decide), ya 2 (by decide), ya 3 (by decide)]
          exact hBY p hp
      have e1 : (tk_I (tk_I (tk_I (tk_I Y 9 (nI (T + 1))) 2 (nI w)) 13 (nI w)) 14 0).1 1 = 5 := (y1 1 (by decide)).trans h5
      refine ⟨_, _, rfl, ⟨hF.eq (y1 0 (by decide)), hA.eq (y1 8 (by decide)), hS.eq (y1 3 (by decide)) (y1 4 (by decide)) (y1 5 (by decide)) (y1 6 (by decide)) (y1 11 (by decide)), ⟨hDY.crd, T + 1, by omega, rfl, h210, fun e => absurd e hT⟩, Or.inr (Or.inr (Or.inr (Or.inr (Or.inr ⟨e1, l, d, w, 0, T + 1, _, hX⟩))))⟩, ?_, fun e => absurd e (by decide), fun _ => ⟨?_, rfl, rfl, ?_, ?_⟩, Or.inl ⟨e1, w, 0, T + 1, _, hX, by omega⟩⟩
      · show Y.2.2.2 0 = _
        rw [yh, hg]
      · rw [hkk, hw]
      · rw [if_neg (show ¬ T = 11 by omega)]; rfl
      · rw [hkk]; exact hsum
