/-! call and take -/
theorem own_of {h : Nat → Int64} (hC : Crd h) {p c : Nat} (hp : p < 4) (ht : tb (h p) c = true) : own h c = nI p := by
  have n : ∀ q, q < 4 → q ≠ p → ¬ tb (h q) c = true := fun q hq e e1 => hC.2 q p hq hp e c ⟨e1, ht⟩
  unfold own
  rcases (show p = 0 ∨ p = 1 ∨ p = 2 ∨ p = 3 by omega) with rfl | rfl | rfl | rfl
  · rw [if_pos ht]
  · rw [if_neg (n 0 (by omega) (by omega)), if_pos ht]
  · rw [if_neg (n 0 (by omega) (by omega)), if_neg (n 1 (by omega) (by omega)), if_pos ht]
  · rw [if_neg (n 0 (by omega) (by omega)), if_neg (n 1 (by omega) (by omega)), if_neg (n 2 (by omega) (by omega)), if_pos ht]
theorem S_call {D : Nat} {S : tk_ST} (h : Inv D S) (h1 : S.1 1 = 2) {s : Nat} (hs : s < 4) : ∃ S', f0_X6_call (nI s) S = some (3, S') ∧ Inv D S' ∧ S'.1 4 = nI s ∧ (S'.1 6 = -1 ∨ ∃ q, q < 4 ∧ S'.1 6 = nI q ∧ tb (S'.2.2.2 0 q) (8 * s + 7) = true) ∧ ∀ p, p < 4 → tb (S'.2.2.2 0 p) (8 * s + 7) = true → nI p = S'.1 3 ∨ nI p = S'.1 6 := by
  obtain ⟨hF, hA, hS, hPl, -⟩ := id h
  obtain ⟨l, d, l1, l3, d4, el, ed, hDe, hPr⟩ := h.c h1
  have hC := hPl.1
  have hoo := own_or (S.2.2.2 0) (8 * s + 7)
  have hof : ∀ p, p < 4 → tb (S.2.2.2 0 p) (8 * s + 7) = true → own (S.2.2.2 0) (8 * s + 7) = nI p := fun p hp ht => own_of hC hp ht
  unfold f0_X6_call f_X6_call f_X6_calledKing f_X6_call_74
  rw [if_neg (nneg (by omega)), if_pos (show nI s < 4 from nI_lt hs (by decide)), if_pos h1, b1s, show (tk_I S 4 (nI s)).1 4 = nI s from rfl, e_king hs, e_owner (by omega), b1s, show (tk_I S 4 (nI s)).2.2.2 0 = S.2.2.2 0 from rfl]
  generalize own (S.2.2.2 0) (8 * s + 7) = o at hoo hof
  have ho5 : o = -1 ∨ ∃ q, q < 4 ∧ o = nI q := hoo.imp id fun ⟨q, q1, q2, _⟩ => ⟨q, q1, q2⟩
  by_cases q : o = S.1 3
  · rw [if_pos q, b3s, if_pos rfl]
    refine ⟨_, rfl, ⟨hF, hA, ⟨Or.inr ⟨d, d4, ed⟩, Or.inl rfl, Or.inr ⟨s, hs, rfl⟩, ho5, l, by omega, el, fun _ => l1, fun _ => by omega⟩, hPl, Or.inr (Or.inr (Or.inr (Or.inl ⟨rfl, l, d, l1, by omega, d4, el, ed, hDe, hPr⟩)))⟩, rfl, Or.inl rfl, fun p hp ht => Or.inl ?_⟩
    exact (hof p hp ht).symm.trans q
  · rw [if_neg q, b3s, if_pos rfl]
    refine ⟨_, rfl, ⟨hF, hA, ⟨Or.inr ⟨d, d4, ed⟩, hoo.imp id (fun ⟨x, x1, x2, _⟩ => ⟨x, x1, x2, q, n1I (by omega)⟩), Or.inr ⟨s, hs, rfl⟩, ho5, l, by omega, el, fun _ => l1, fun _ => by omega⟩, hPl, Or.inr (Or.inr (Or.inr (Or.inl ⟨rfl, l, d, l1, by omega, d4, el, ed, hDe, hPr⟩)))⟩, rfl, hoo, fun p hp ht => Or.inr ?_⟩
    exact (hof p hp ht).symm
theorem sum4 {f : Int64 → Nat} {h : Nat → Int64} {d : Nat} (hd : d < 4) (X : Int64) : f (vp_updL h d X 0) + f (vp_updL h d X 1) + f (vp_updL h d X 2) + f (vp_updL h d X 3) + f (h d) = f (h 0) + f (h 1) + f (h 2) + f (h 3) + f X := by
  rcases (show d = 0 ∨ d = 1 ∨ d = 2 ∨ d = 3 by omega) with rfl | rfl | rfl | rfl
  · show f X + f (h 1) + f (h 2) + f (h 3) + f (h 0) = _; omega
  · show f (h 0) + f X + f (h 2) + f (h 3) + f (h 1) = _; omega
  · show f (h 0) + f (h 1) + f X + f (h 3) + f (h 2) = _; omega
  · show f (h 0) + f (h 1) + f (h 2) + f X + f (h 3) = _; omega
theorem S_take {D : Nat} {S : tk_ST} (h : Inv D S) (h5 : S.1 1 = 3) {l d j : Nat} (l1 : 1 ≤ l) (l4 : l ≤ 4) (d4 : d < 4) (el : S.1 11 = nI l) (ed : S.1 3 = nI d) (hj : j < grl l) (hDe : De S) (hPr : Pre D S) : ∃ S', f0_X6_take (nI j) S = some (nI (szl l), S') ∧ Inv D S' ∧ S'.1 3 = nI d ∧ cn (S'.2.2.2 0 d) = 12 + szl l ∧ ¬ S'.1 0 = -1 ∧ ∃ c, c < 54 ∧ S'.2.2.1 0 (48 + j * szl l) = nI c ∧ tb (S'.2.2.2 0 d) c = true := by
  obtain ⟨hF, hA, hS, hPl, -⟩ := id h
  obtain ⟨z0, z4, zg, g0, g6⟩ := e_sz l1 l4
  have hz := gz_le l1 l4 hj
  obtain ⟨⟨v, hv, hi⟩, hcn, hrest⟩ := id hDe
  obtain ⟨e14, e9, p0, p1, hDj, hTot, ⟨f, f4, ef, e13⟩, hB⟩ := hPr
  unfold f0_X6_take f_X6_take f_X6_groupsNow
  rw [if_neg (nneg (by omega)), if_pos h5, el, e_grH l1 l4, b1s, b1s, if_pos (nI_lt hj (by omega)), if_pos h5, e_szH l1 l4, b1s, mul6 j (by omega) _ z4, show (48 : Int32) + nI (j * szl l) = nI (48 + j * szl l) from nI_add 48 _, e_from (by omega), b1s, ed, e_at13 d4, b1s, e_put13 d4, b1s, b3s, if_pos rfl]
  have hTb : ∀ c, tb (orr (S.2.2.1 0) (48 + j * szl l) (szl l)) c = true → c < 54 ∧ tb (S.2.1 1) c = true := by
    intro c hc
    obtain ⟨i, i1, i2⟩ := (tb_orr hv _ (by omega) c).mp hc
    refine ⟨by rw [← i2]; exact (hv _ (by omega)).1, ?_⟩
    rw [hrest, tb_orr hv 6 (by omega)]
    exact ⟨j * szl l + i, by omega, by rw [← Nat.add_assoc]; exact i2⟩
  have hTc : tb (orr (S.2.2.1 0) (48 + j * szl l) (szl l)) (v (48 + j * szl l)) = true := (tb_orr hv _ (by omega) _).mpr ⟨0, z0, rfl⟩
  have hcT : cn (orr (S.2.2.1 0) (48 + j * szl l) (szl l)) = szl l := cn_orr hv hi _ (by omega)
  have hv0 := hv (48 + j * szl l) (by omega)
  generalize orr (S.2.2.1 0) (48 + j * szl l) (szl l) = T at hTb hTc hcT
  obtain ⟨loc, k1, k2, k3, k4⟩ := id hDj
  have hdis : ∀ p, p < 4 → ∀ c, ¬ (tb (S.2.2.2 0 p) c = true ∧ tb T c = true) := fun p hp c ⟨a, b⟩ => by
    have x := (k1 p hp c a).2
    have y := (k3 c (hTb c b).2).2
    omega
  have hDj' : Dj (vp_updL (S.2.2.2 0) d (S.2.2.2 0 d ||| T)) (S.2.1 0) (S.2.1 1 &&& (T ^^^ (-1))) 0 (fun _ => 0) := by
    refine ⟨fun c => if tb T c = true then d else loc c, fun p hp c hc => ?_, fun c hc => ?_, fun c hc => ?_, fun j hj => absurd hj (Nat.not_lt_zero j)⟩
    · rw [updLE] at hc
      by_cases e : p = d
      · subst e
        rw [if_pos rfl, tbO] at hc
        by_cases t : tb T c = true
        · exact ⟨(hTb c t).1, by simp only [if_pos t]⟩
        · have := k1 p hp c (hc.resolve_right t)
          exact ⟨this.1, by simp only [if_neg t]; exact this.2⟩
      · rw [if_neg e] at hc
        have := k1 p hp c hc
        exact ⟨this.1, by simp only [if_neg (fun t => hdis p hp c ⟨hc, t⟩)]; exact this.2⟩
    · have := k2 c hc
      have nt : ¬ tb T c = true := fun t => by
        have y := (k3 c (hTb c t).2).2
        omega
      exact ⟨this.1, by simp only [if_neg nt]; exact this.2⟩
    · rw [tbN] at hc
      have := k3 c hc.1
      exact ⟨this.1, by simp only [if_neg hc.2]; exact this.2⟩
  have hTot' : Tot (vp_updL (S.2.2.2 0) d (S.2.2.2 0 d ||| T)) (S.2.1 0) (S.2.1 1 &&& (T ^^^ (-1))) 0 (fun _ => 0) := by
    unfold Tot at hTot ⊢
    have a1 := sum4 (f := th) (h := S.2.2.2 0) d4 (S.2.2.2 0 d ||| T)
    have a2 := th_or (hdis d d4)
    have a3 := th_sub (x := S.2.1 1) (y := T) (fun c hc => (hTb c hc).2)
    omega
  have hcd : cn (vp_updL (S.2.2.2 0) d (S.2.2.2 0 d ||| T) d) = 12 + szl l := by
    rw [updLE, if_pos rfl, cn_or (hdis d d4), hcn d d4, hcT]
  refine ⟨_, rfl, ⟨hF, hA, hS, ⟨hDj'.crd, hPl.2⟩, Or.inr (Or.inr (Or.inr (Or.inr (Or.inl ⟨rfl, l, d, szl l, l1, l4, d4, el, ed, z0, by omega, rfl, hcd, fun p hp e => ?_, e14, e9, p0, p1, hDj', hTot', ⟨f, f4, ef, e13⟩, hB⟩))))⟩, ed, hcd, ?_, v (48 + j * szl l), hv0.1, hv0.2, ?_⟩
  · show cn (vp_updL (S.2.2.2 0) d _ p) = 12
    rw [updLE, if_neg e]; exact hcn p hp
  · show ¬ S.1 0 = -1
    rw [ef]; exact n1I (by omega)
  · show tb (vp_updL (S.2.2.2 0) d _ d) _ = true
    rw [updLE, if_pos rfl, tbO]; exact Or.inr hTc
