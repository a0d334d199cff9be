theorem e_grH {l : Nat} (l1 : 1 ≤ l) (l4 : l ≤ 4) : f_X6_groupsAt (nI l) = some (nI (grl l)) := by
  rcases (show l = 1 ∨ l = 2 ∨ l = 3 ∨ l = 4 by omega) with rfl | rfl | rfl | rfl <;> decide
theorem e_szH {l : Nat} (l1 : 1 ≤ l) (l4 : l ≤ 4) : f_X6_groupSize (nI l) = some (nI (szl l)) := by
  rcases (show l = 1 ∨ l = 2 ∨ l = 3 ∨ l = 4 by omega) with rfl | rfl | rfl | rfl <;> decide
theorem e_szM {l : Nat} (l1 : 1 ≤ l) (l4 : l ≤ 4) : (if (3 : Int32) ≤ nI l then (1 : Int32) else 4 - nI l) = nI (szl l) := by
  rcases (show l = 1 ∨ l = 2 ∨ l = 3 ∨ l = 4 by omega) with rfl | rfl | rfl | rfl <;> decide
theorem e_gz {l : Nat} (l1 : 1 ≤ l) (l4 : l ≤ 4) : ((6 : Int32) / nI (szl l)) - 1 = nI (grl l - 1) := by
  rcases (show l = 1 ∨ l = 2 ∨ l = 3 ∨ l = 4 by omega) with rfl | rfl | rfl | rfl <;> decide
theorem e_sz {l : Nat} (l1 : 1 ≤ l) (l4 : l ≤ 4) : 0 < szl l ∧ szl l < 4 ∧ grl l * szl l = 6 ∧ 0 < grl l ∧ grl l ≤ 6 := by
  rcases (show l = 1 ∨ l = 2 ∨ l = 3 ∨ l = 4 by omega) with rfl | rfl | rfl | rfl <;> decide
theorem gz_le {l p : Nat} (l1 : 1 ≤ l) (l4 : l ≤ 4) (hp : p < grl l) : p * szl l + szl l ≤ 6 := by
  have : (p + 1) * szl l ≤ grl l * szl l := Nat.mul_le_mul_right _ (by omega)
  rw [(e_sz l1 l4).2.2.1, Nat.add_mul] at this
  omega
theorem P_take {k : Nat} {S M : tk_ST} (h : Rel k S M) (p : Int32) : SimW 3 k (f_X6_take p S) (f_X7_take p M) := by
  obtain ⟨hE, hA, hF, hP, hD, hK, hC, hPi, hZ, hPh⟩ := id h
  have a1 : M.1 1 = S.1 1 := hE.1
  have a6 : M.1 6 = S.1 11 := hE.2.2.2.2.2.2.1
  unfold f_X6_take f_X7_take f_X6_groupsNow f_X7_take_25
  rw [a1]
  by_cases h5 : S.1 1 = 3
  · obtain ⟨l, d, l1, l4, d4, el, ed, ⟨⟨v, hv, hi⟩, t2, t3, t4, t5⟩, hFr⟩ := h.tak h5
    obtain ⟨z0, z4, zg, g0, g6⟩ := e_sz l1 l4
    have hM : (if (3 : Int32) ≤ M.1 6 then f_X7_take_26 p 1 M else f_X7_take_26 p (4 - M.1 6) M) = f_X7_take_26 p (nI (szl l)) M := by
      rw [a6, el, ← e_szM l1 l4]
      by_cases q : (3 : Int32) ≤ nI l
      · rw [if_pos q, if_pos q]
      · rw [if_neg q, if_neg q]
    rw [if_pos h5, if_pos h5, if_pos h5, hM, el, e_grH l1 l4, b1s, b1s]
    unfold f_X7_take_26
    rw [if_neg (nI_ne0 z0 (by omega)), e_gz l1 l4, a1, if_pos h5]
    rcases or3 (n := grl l) (by omega) (x := p) with hp | ⟨j, hj, rfl⟩
    · have q4 : ∀ X : Option (Int32 × Int32 × tk_ST), (if p < 0 then f_X6_take_12 S else if p < nI (grl l) then X else f_X6_take_12 S) = some (3, 0, S) := by
        intro X
        rcases hp with hp | hp
        · rw [if_pos hp]; rfl
        · by_cases q : p < 0
          · rw [if_pos q]; rfl
          · rw [if_neg q, if_neg (show ¬ p < nI (grl l) from Int32.not_lt.mpr hp)]; rfl
      rw [q4, show f_X7_isIn p 0 (nI (grl l - 1)) = some 0 from e_isInN (hp.imp id (fun h => lt_of_le1 (by omega) (by rw [show grl l - 1 + 1 = grl l by omega]; exact h))), b1s, if_pos rfl]
      exact simW_err h rfl rfl
    · have hz := gz_le l1 l4 hj
      rw [show f_X7_isIn (nI j) 0 (nI (grl l - 1)) = some 1 from e_isIn (a := 0) (by omega) (by omega) (by omega), b1s, if_neg n10, if_neg (nneg (by omega)), if_pos (nI_lt hj (by omega)), e_szH l1 l4, b1s, mul6 j (by omega) _ z4, show (48 : Int32) + nI (j * szl l) = nI (48 + j * szl l) from nI_add 48 _, e_from (by omega), b1s, ed, e_at13 d4, b1s, e_put13 d4, b1s]
      unfold f_X7_take_59
      rw [e_fine0, b2s, if_neg n10]
      have a8 : M.1 8 = S.1 3 := hE.2.2.1
      have ad : M.2.2.1 0 = S.2.2.1 0 := hE.2.2.2.2.2.2.2.2.2.2.2.2.1
      have ah : M.2.2.2 0 = S.2.2.2 0 := hE.2.2.2.2.2.2.2.2.2.2.2.2.2.2.2.2
      obtain ⟨B, x1, x2, x3, x4, x5, x6, x7⟩ := L_take (S0 := tk_I M 0 0) (d := d) (p := j) (sz := szl l) d4 (by rw [uI1, if_neg (by decide), a8, ed]) z0 z4 (by omega) 6 (by omega)
      have x6' : B.2.1 1 = gR (S.2.2.1 0) j (szl l) 6 := by rw [x6 t5, uI3, ad]
      have x7' : ∀ q, B.2.2.2 0 q = if q = d then gA (S.2.2.1 0) (S.2.2.2 0 d) j (szl l) 6 else S.2.2.2 0 q := by
        intro q; rw [x7 q, uI3, uI4, ad, ah]
      rw [gR_eq hv hi z0 z4 hz, ← t3] at x6'
      rw [gA_eq hv z0 z4 hz] at x7'
      have g : ∀ i, i ≠ 0 → B.1 i = M.1 i := fun i hi => by rw [x2, uI1, if_neg hi]
      have g3 : B.2.2.1 = M.2.2.1 := x3
      have hTb : ∀ c, tb (orr (S.2.2.1 0) (48 + j * szl l) (szl l)) c = true → c < 54 ∧ tb (S.2.1 1) c = true := by
        intro c hc
        obtain ⟨i, i1, i2⟩ := (tb_orr hv _ (by omega) c).mp hc
        refine ⟨by rw [← i2]; exact (hv _ (by omega)).1, ?_⟩
        rw [t3, tb_orr hv 6 (by omega)]
        exact ⟨j * szl l + i, by omega, by rw [← Nat.add_assoc]; exact i2⟩
      have hdis : ∀ p, p < 4 → ∀ c, ¬ (tb (S.2.2.2 0 p) c = true ∧ tb (orr (S.2.2.1 0) (48 + j * szl l) (szl l)) c = true) := fun p hp c ⟨e1, e2⟩ => t4 p hp c ⟨e1, (hTb c e2).2⟩
      have eX : f_X7_take_69 64 (nI j) (nI (szl l)) 0 (tk_I M 0 0) = some (nI (szl l), tk_I (tk_I B 13 (nI (szl l))) 1 4) := by
        rw [x1, show 64 - 6 = 57 + 1 from rfl, f_X7_take_69_s, if_pos (show (6 : Int32) ≤ nI 6 by decide)]
      refine simW_ok rfl eX ?_ (show B.1 0 = 0 by rw [x2]; rfl)
      have hh : B.2.2.2 0 = vp_updL (S.2.2.2 0) d (S.2.2.2 0 d ||| orr (S.2.2.1 0) (48 + j * szl l) (szl l)) := by
        funext q; rw [x7', updLE]
      obtain ⟨f1, f2, f3, f4, f5, f6⟩ := hFr
      refine Rel.mono (k := k) ⟨⟨rfl, (g 4 (by decide)).trans hE.2.1, (g 8 (by decide)).trans hE.2.2.1, (g 9 (by decide)).trans hE.2.2.2.1, (g 11 (by decide)).trans hE.2.2.2.2.1, (g 10 (by decide)).trans hE.2.2.2.2.2.1, (g 6 (by decide)).trans hE.2.2.2.2.2.2.1, (g 7 (by decide)).trans hE.2.2.2.2.2.2.2.1, (g 17 (by decide)).trans hE.2.2.2.2.2.2.2.2.1, (g 15 (by decide)).trans hE.2.2.2.2.2.2.2.2.2.1, (g 18 (by decide)).trans hE.2.2.2.2.2.2.2.2.2.2.1, x4.trans hE.2.2.2.2.2.2.2.2.2.2.2.1, ?_⟩, ?_, ?_, hP, hD, ?_, ?_, ?_, hZ, ?_⟩ (Nat.le_succ k)
      · show B.2.2.1 0 = S.2.2.1 0 ∧ B.2.2.1 3 = S.2.2.1 1 ∧ B.2.2.1 4 = S.2.2.1 2 ∧ B.2.2.1 5 = S.2.2.1 3 ∧ B.2.2.2 0 = _
        rw [g3]
        exact ⟨hE.2.2.2.2.2.2.2.2.2.2.2.2.1, hE.2.2.2.2.2.2.2.2.2.2.2.2.2.1, hE.2.2.2.2.2.2.2.2.2.2.2.2.2.2.1, hE.2.2.2.2.2.2.2.2.2.2.2.2.2.2.2.1, hh⟩
      · show ∃ b0 b1 : Nat, b0 < 2 ∧ b1 < 2 ∧ S.1 8 = nI (b0 + 2 * b1) ∧ B.2.2.1 2 0 = nI b0 ∧ B.2.2.1 2 1 = nI b1
        rw [g3]; exact hA
      · obtain ⟨D, d1, d2, d3⟩ := hF
        exact ⟨D, d1, (g 2 (by decide)).trans d2, d3.imp id fun ⟨x, y, z⟩ => ⟨x, y, (g 3 (by decide)).trans z⟩⟩
      · obtain ⟨k1, k2, k3, k4⟩ := hK
        refine ⟨fun e _ => k1 e (by rw [h5]; decide), k2, k3, fun s o hs ho es eo => ?_⟩
        have := k4 s o hs ho es eo
        show B.1 12 = if tb (vp_updL (S.2.2.2 0) d _ o) (8 * s + 7) = true then 0 else 1
        rw [g 12 (by decide)]
        by_cases q : tb (S.2.2.2 0 o) (8 * s + 7) = true
        · rw [f2, if_pos]
          rw [updLE]
          by_cases e : o = d
          · subst e; rw [if_pos rfl, tbO]; exact Or.inl q
          · rw [if_neg e]; exact q
        · rw [if_neg q, f2] at this
          exact absurd this (by decide)
      · refine ⟨fun q hq c => ?_, fun q r hq hr hqr c => ?_⟩
        · show tb (vp_updL (S.2.2.2 0) d _ q) c = true → _
          rw [updLE]
          by_cases e : q = d
          · rw [if_pos e, tbO]
            exact fun y => y.elim (hC.1 d d4 c) (fun y => (hTb c y).1)
          · rw [if_neg e]; exact hC.1 q hq c
        · show ¬ (tb (vp_updL (S.2.2.2 0) d _ q) c = true ∧ tb (vp_updL (S.2.2.2 0) d _ r) c = true)
          rw [updLE, updLE]
          by_cases e : q = d
          · subst e
            rw [if_pos rfl, if_neg (fun e => hqr e.symm), tbO]
            rintro ⟨y | y, w⟩
            · exact hC.2 q r hq hr hqr c ⟨y, w⟩
            · exact hdis r hr c ⟨w, y⟩
          · rw [if_neg e]
            by_cases e' : r = d
            · subst e'
              rw [if_pos rfl, tbO]
              rintro ⟨w, y | y⟩
              · exact hC.2 q r hq hr hqr c ⟨w, y⟩
              · exact hdis q hq c ⟨w, y⟩
            · rw [if_neg e']; exact hC.2 q r hq hr hqr c
      · rcases hPi with ⟨y1, y2, y3, y4⟩ | ⟨y1, _⟩
        · refine Or.inl ⟨(g 14 (by decide)).trans y1, y2, y3, fun p hp => ?_⟩
          show B.2.2.2 1 p = 0
          rw [x5]; exact y4 p hp
        · rw [f1] at y1; exact absurd y1 (by decide)
      · refine Or.inr (Or.inr (Or.inr (Or.inr (Or.inl ⟨rfl, l, d, szl l, l1, l4, d4, el, ed, z0, by omega, rfl, rfl, ?_, fun q hq hqd => ?_, ?_, ?_⟩))))
        · show cn (vp_updL (S.2.2.2 0) d _ d) = _
          rw [updLE, if_pos rfl, cn_or (hdis d d4), t2 d d4, cn_orr hv hi _ (by omega)]
        · show cn (vp_updL (S.2.2.2 0) d _ q) = _
          rw [updLE, if_neg hqd]; exact t2 q hq
        · exact x6'
        · obtain ⟨f, y1, y2, y3⟩ := f6
          exact ⟨(g 14 (by decide)).trans f1, (g 12 (by decide)).trans f2, f3, f4, f5, f, y1, y2, (g 3 (by decide)).trans y3⟩
  · rw [if_neg h5, if_neg h5, if_neg h5, b1s]
    unfold f_X7_take_26
    rw [if_neg n10, show ((6 : Int32) / 1) - 1 = nI 5 from by decide, a1, if_neg h5]
    rcases or3 (n := 6) (by omega) (x := p) with hp | ⟨j, hj, rfl⟩
    · have q4 : ∀ X : Option (Int32 × Int32 × tk_ST), (if p < 0 then f_X6_take_12 S else if p < 6 then X else f_X6_take_12 S) = some (3, 0, S) := by
        intro X
        rcases hp with hp | hp
        · rw [if_pos hp]; rfl
        · by_cases q : p < 0
          · rw [if_pos q]; rfl
          · rw [if_neg q, if_neg (show ¬ p < 6 from Int32.not_lt.mpr hp)]; rfl
      rw [q4, show f_X7_isIn p 0 (nI 5) = some 0 from e_isInN (hp.imp id (fun h => lt_of_le1 (by decide) h)), b1s, if_pos rfl]
      exact simW_err h rfl rfl
    · rw [show f_X7_isIn (nI j) 0 (nI 5) = some 1 from e_isIn (a := 0) (by omega) (by omega) (by omega), b1s, if_neg n10, if_neg (nneg (by omega)), if_pos (show nI j < 6 from nI_lt hj (by decide))]
      exact simW_two h rfl rfl
