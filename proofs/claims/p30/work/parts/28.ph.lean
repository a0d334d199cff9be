/-! discard and announce -/
theorem less_dj {h : Nat → Int64} {a b : Int64} {z : Nat} {kc : Nat → Nat} (H : Dj h a b z kc) {d c : Nat} (hd : d < 4) (hc : tb (h d) c = true) : Dj (less h d c) (a ||| jb c) b z kc := by
  obtain ⟨loc, k1, k2, k3, k4⟩ := H
  have hc54 := (k1 d hd c hc).1
  have hlc := (k1 d hd c hc).2
  refine ⟨fun x => if x = c then 4 else loc x, fun p hp x hx => ?_, fun x hx => ?_, fun x hx => ?_, fun j hj => ?_⟩
  · obtain ⟨y1, y2⟩ := (less_tb (by omega) p x).mp hx
    have := k1 p hp x y1
    have ne : ¬ x = c := fun e => by
      subst e
      exact y2 ⟨this.2.symm.trans hlc, rfl⟩
    exact ⟨this.1, by simp only [if_neg ne]; exact this.2⟩
  · rw [tbO, tbJ (by omega)] at hx
    by_cases e : x = c
    · subst e; exact ⟨hc54, if_pos rfl⟩
    · have := k2 x (hx.resolve_right (fun q => e q.symm))
      exact ⟨this.1, by simp only [if_neg e]; exact this.2⟩
  · have := k3 x hx
    have ne : ¬ x = c := fun e => by subst e; omega
    exact ⟨this.1, by simp only [if_neg ne]; exact this.2⟩
  · have := k4 j hj
    have ne : ¬ kc j = c := fun e => by rw [e] at this; omega
    exact ⟨this.1, by simp only [if_neg ne]; exact this.2⟩
theorem less_th {h : Nat → Int64} {d c : Nat} (hd : d < 4) (hc : c < 54) (ht : tb (h d) c = true) : th (less h d c 0) + th (less h d c 1) + th (less h d c 2) + th (less h d c 3) + w3 c = th (h 0) + th (h 1) + th (h 2) + th (h 3) := by
  have a1 := sum4 (f := th) (h := h) hd (h d &&& (jb c ^^^ (-1)))
  have a2 := th_rem hc ht
  unfold less
  omega
theorem S_discard {D : Nat} {S : tk_ST} (h : Inv D S) (h5 : S.1 1 = 4) {d c : Nat} (d4 : d < 4) (ed : S.1 3 = nI d) (hc : c < 54) (hh : tb (S.2.2.2 0 d) c = true) : (wo c = 5 ∧ f_X6_discard (nI c) S = some (2, 0, S)) ∨ (¬ wo c = 5 ∧ ∃ t S', f_X6_discard (nI c) S = some (0, nI t, S') ∧ cn (S.2.2.2 0 d) = t + 13 ∧ t < 3 ∧ Inv D S' ∧ S'.1 3 = nI d ∧ S'.2.2.2 0 d = S.2.2.2 0 d &&& (jb c ^^^ (-1)) ∧ (0 < t → S'.1 1 = 4) ∧ (t = 0 → S'.1 1 = 5 ∧ 1 ≤ th (S'.2.2.2 1 0))) := by
  obtain ⟨hF, hA, hS, hPl, -⟩ := id h
  obtain ⟨l, d', t, l1, l4, d5, el, ed', t1, t3, et, cd, co, hPr⟩ := h.d h5
  have hdd : d' = d := (nI_eq (by omega) (by omega)).mp (ed'.symm.trans ed)
  subst hdd
  unfold f_X6_discard f_X6_discard_62
  rw [e_isCard hc, b1s, if_neg n10, if_pos h5, ed, e_at13 d4, b1s, e_holds (by omega), b1s, if_pos hh, if_neg n10]
  have w5 := wo_lt c
  rcases e_layT c hc with ⟨y1, y2⟩ | ⟨y1, y2⟩
  · refine Or.inr ⟨by omega, ?_⟩
    rw [y1, b1s, if_neg n10, show f_X6_only (nI c) = some (jb c) from rfl, b1s, e_put13 d4, b1s, b1s]
    obtain ⟨t', rfl⟩ : ∃ t', t = t' + 1 := ⟨t - 1, by omega⟩
    rw [show (tk_B S 0 (vp_updL (S.2.2.2 0) d' (S.2.2.2 0 d' &&& (jb c ^^^ -1)))).1 7 = nI (t' + 1) from et, nI_pred]
    show ∃ t S', (if nI t' = 0 then (tk_b1 (f_X6_beginPlay (tk_I (tk_L (tk_B S 0 (less (S.2.2.2 0) d' c)) 0 (S.2.1 0 ||| jb c)) 7 (nI t'))) fun S29 => some (0, S29.1 7, S29)) else some (0, nI t', tk_I (tk_L (tk_B S 0 (less (S.2.2.2 0) d' c)) 0 (S.2.1 0 ||| jb c)) 7 (nI t'))) = some (0, nI t, S') ∧ _
    obtain ⟨e14, e9, p0, p1, hDj, hTot, hf, hB⟩ := hPr
    have hcn := less_cn (h := S.2.2.2 0) (d := d') hc hh
    have hDj' := less_dj hDj d4 hh
    have hdisj : ∀ x, ¬ (tb (S.2.1 0) x = true ∧ tb (jb c) x = true) := by
      obtain ⟨loc, k1, k2, -, -⟩ := id hDj
      intro x ⟨a, b⟩
      have e := (tbJ (by omega) x).mp b
      subst e
      have q1 := (k1 d' d4 c hh).2
      have q2 := (k2 c a).2
      omega
    have hTot' : Tot (less (S.2.2.2 0) d' c) (S.2.1 0 ||| jb c) (S.2.1 1) 0 (fun _ => 0) := by
      unfold Tot at hTot ⊢
      have a1 := less_th d4 hc hh
      have a2 := th_or hdisj
      rw [th_jb hc] at a2
      omega
    have hPre' : Pre D (tk_I (tk_L (tk_B S 0 (less (S.2.2.2 0) d' c)) 0 (S.2.1 0 ||| jb c)) 7 (nI t')) := ⟨e14, e9, p0, p1, hDj', hTot', hf, hB⟩
    by_cases q0 : t' = 0
    · subst q0
      rw [if_pos (show nI 0 = 0 from rfl)]
      obtain ⟨B, x1, x2, x3, x4, x5, x6⟩ := S_begin (D := D) (S := tk_I (tk_L (tk_B S 0 (less (S.2.2.2 0) d' c)) 0 (S.2.1 0 ||| jb c)) 7 (nI 0)) hF hA hS l1 (by omega) d4 el ed (fun p hp => by
        show cn (less (S.2.2.2 0) d' c p) = 12
        by_cases e : p = d'
        · subst e; omega
        · rw [less_ne e, co p hp e]) hPre'
      rw [x1, b1s]
      refine ⟨0, B, ?_, by omega, by omega, x2, (x4 3 (by decide) (by decide)).trans ed, ?_, fun e => absurd e (Nat.lt_irrefl 0), fun _ => ⟨x3, ?_⟩⟩
      · rw [x4 7 (by decide) (by decide)]; rfl
      · rw [x5]
        show less (S.2.2.2 0) d' c d' = _
        unfold less
        rw [updLE, if_pos rfl]
      · rw [x6]
        show 1 ≤ th (S.2.1 0 ||| jb c)
        exact th_pos hc (by rw [tbO]; exact Or.inr ((tbJ (by omega) c).mpr rfl))
    · rw [if_neg (nI_ne0 (by omega) (by omega))]
      refine ⟨t', _, rfl, by omega, by omega, ⟨hF, hA, hS, ⟨hDj'.crd, hPl.2⟩, Or.inr (Or.inr (Or.inr (Or.inr (Or.inl ⟨h5, l, d', t', l1, l4, d4, el, ed, by omega, by omega, rfl, ?_, fun p hp e => ?_, hPre'⟩))))⟩, ed, ?_, fun _ => h5, fun e => absurd e q0⟩
      · show cn (less (S.2.2.2 0) d' c d') = _
        omega
      · show cn (less (S.2.2.2 0) d' c p) = _
        rw [less_ne e, co p hp e]
      · show less (S.2.2.2 0) d' c d' = _
        unfold less
        rw [updLE, if_pos rfl]
  · refine Or.inl ⟨by omega, ?_⟩
    rw [y1, b1s, if_pos rfl]
theorem b2_t (b0 b1 j : Nat) (h0 : b0 < 2) (h1 : b1 < 2) (hj : j < 2) (q : (if j = 0 then b0 else b1) = 0) : (if j = 0 then 1 else b0) + (if j = 0 then b1 else 1) ≤ 2 := by
  split <;> omega
theorem S_announce {D : Nat} {S : tk_ST} (h : Inv D S) (h5 : S.1 1 = 5) {j : Nat} (hj : j < 2) : f_X6_announce (nI j) S = some (2, 0, S) ∨ ∃ r S', f_X6_announce (nI j) S = some (0, nI r, S') ∧ r ≤ 2 ∧ Inv D S' ∧ S.1 9 = 0 ∧ S.1 14 = 0 ∧ (j = 1 → ¬ (4 : Int32) ≤ S.1 11) ∧ f_X6_announce (nI j) S' = some (2, 0, S') ∧ S'.1 1 = 5 := by
  obtain ⟨hF, ⟨b0, b1, hb0, hb1, eb⟩, hS, hPl, hPh⟩ := id h
  obtain ⟨l, d, L, z, T, kc, hP⟩ := h.p h5
  obtain ⟨l1, l5, d4, L4, z4, T12, el, ed, eL, ez, eT, et, -⟩ := id hP
  by_cases qq : T = 0 ∧ z = 0 ∧ (if j = 0 then b0 else b1) = 0 ∧ (j = 1 → l ≤ 3)
  · obtain ⟨qT, qz, qb, ql⟩ := qq
    subst qT; subst qz
    refine Or.inr ⟨(if j = 0 then 1 else b0) + (if j = 0 then b1 else 1), tk_I S 8 (nI ((if j = 0 then 1 else b0) + 2 * (if j = 0 then b1 else 1))), ?_, b2_t b0 b1 j hb0 hb1 hj qb, ⟨hF, ⟨if j = 0 then 1 else b0, if j = 0 then b1 else 1, by split <;> omega, by split <;> omega, rfl⟩, hS, hPl, hPh⟩, eT, ez, fun e => ?_, ?_, h5⟩
    · unfold f_X6_announce
      rw [if_neg (nneg (by omega)), if_pos (show nI j < 2 from nI_lt hj (by decide)), if_pos h5, eT, if_neg (show ¬ 0 < nI 0 by decide), ez, if_pos (show nI 0 ≤ 0 by decide), e_ann hb0 hb1 hj eb, b1s, if_pos (show nI (if j = 0 then b0 else b1) = 0 by rw [qb]; rfl)]
      by_cases j1 : j = 1
      · rw [if_pos (show nI j = 1 by rw [j1]; rfl), el, if_pos (show nI l ≤ 3 from nI_le (ql j1) (by decide))]
        exact e_ann98 hb0 hb1 hj eb
      · rw [if_neg (show ¬ nI j = 1 from fun e => j1 ((nI_eq (b := 1) (by omega) (by decide)).mp e))]
        exact e_ann98 hb0 hb1 hj eb
    · rw [el]; exact nI_ge (b := 4) (by have := ql e; omega) (by decide)
    · have e8 : (tk_I S 8 (nI ((if j = 0 then 1 else b0) + 2 * (if j = 0 then b1 else 1)))).1 8 = nI ((if j = 0 then 1 else b0) + 2 * (if j = 0 then b1 else 1)) := rfl
      have ea := e_ann (j := j) (show (if j = 0 then 1 else b0) < 2 by split <;> omega) (show (if j = 0 then b1 else 1) < 2 by split <;> omega) hj e8
      unfold f_X6_announce
      rw [if_neg (nneg (by omega)), if_pos (show nI j < 2 from nI_lt hj (by decide)), if_pos (show (tk_I S 8 (nI ((if j = 0 then 1 else b0) + 2 * (if j = 0 then b1 else 1)))).1 1 = 5 from h5), show (tk_I S 8 (nI ((if j = 0 then 1 else b0) + 2 * (if j = 0 then b1 else 1)))).1 9 = nI 0 from eT, if_neg (show ¬ 0 < nI 0 by decide), show (tk_I S 8 (nI ((if j = 0 then 1 else b0) + 2 * (if j = 0 then b1 else 1)))).1 14 = nI 0 from ez, if_pos (show nI 0 ≤ 0 by decide), ea, b1s, if_neg ?_]
      rcases (show j = 0 ∨ j = 1 by omega) with rfl | rfl
      · exact n10
      · exact n10
  · refine Or.inl ?_
    unfold f_X6_announce f_X6_announce_44
    rw [if_neg (nneg (by omega)), if_pos (show nI j < 2 from nI_lt hj (by decide)), if_pos h5, eT]
    by_cases qT : T = 0
    · subst qT
      rw [if_neg (show ¬ 0 < nI 0 by decide), ez]
      by_cases qz : z = 0
      · subst qz
        rw [if_pos (show nI 0 ≤ 0 by decide), e_ann hb0 hb1 hj eb, b1s]
        by_cases qb : (if j = 0 then b0 else b1) = 0
        · rw [if_pos (show nI (if j = 0 then b0 else b1) = 0 by rw [qb]; rfl)]
          have ql : ¬ (j = 1 → l ≤ 3) := fun e => qq ⟨rfl, rfl, qb, e⟩
          have j1 : j = 1 := Classical.byContradiction fun e => ql (fun e' => absurd e' e)
          have l3 : ¬ l ≤ 3 := fun e => ql (fun _ => e)
          rw [if_pos (show nI j = 1 by rw [j1]; rfl), el, if_neg (show ¬ nI l ≤ 3 from nI_ge (a := 3) (by omega) (by omega))]
        · rw [if_neg (nI_ne0 (by omega) (by split <;> omega))]
      · rw [if_neg (show ¬ nI z ≤ 0 from nI_nle (by omega) (by omega))]
    · rw [if_pos (show (0 : Int32) < nI T from nI_lt (a := 0) (by omega) (by omega))]
