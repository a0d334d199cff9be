/-! call -/
def own (h : Nat → Int64) (c : Nat) : Int32 := if tb (h 0) c = true then nI 0 else if tb (h 1) c = true then nI 1 else if tb (h 2) c = true then nI 2 else if tb (h 3) c = true then nI 3 else -1
def ownL (h : Nat → Int64) (c : Nat) : Int32 := if tb (h 3) c = true then nI 3 else if tb (h 2) c = true then nI 2 else if tb (h 1) c = true then nI 1 else if tb (h 0) c = true then nI 0 else -1
theorem own_eq {h : Nat → Int64} (hC : Crd h) (c : Nat) : ownL h c = own h c := by
  have d : ∀ p q, p < 4 → q < 4 → p ≠ q → tb (h p) c = true → ¬ tb (h q) c = true := fun p q a b e f g => hC.2 p q a b e c ⟨f, g⟩
  unfold own ownL
  by_cases q0 : tb (h 0) c = true
  · rw [if_neg (d 0 3 (by omega) (by omega) (by omega) q0), if_neg (d 0 2 (by omega) (by omega) (by omega) q0), if_neg (d 0 1 (by omega) (by omega) (by omega) q0), if_pos q0, if_pos q0]
  · by_cases q1 : tb (h 1) c = true
    · rw [if_neg (d 1 3 (by omega) (by omega) (by omega) q1), if_neg (d 1 2 (by omega) (by omega) (by omega) q1), if_pos q1, if_neg q0, if_pos q1]
    · by_cases q2 : tb (h 2) c = true
      · rw [if_neg (d 2 3 (by omega) (by omega) (by omega) q2), if_pos q2, if_neg q0, if_neg q1, if_pos q2]
      · rw [if_neg q0, if_neg q1, if_neg q2, if_neg q2, if_neg q1, if_neg q0]
theorem own_or (h : Nat → Int64) (c : Nat) : own h c = -1 ∨ ∃ o, o < 4 ∧ own h c = nI o ∧ tb (h o) c = true := by
  unfold own
  by_cases q0 : tb (h 0) c = true
  · exact Or.inr ⟨0, by omega, by rw [if_pos q0], q0⟩
  · rw [if_neg q0]
    by_cases q1 : tb (h 1) c = true
    · exact Or.inr ⟨1, by omega, by rw [if_pos q1], q1⟩
    · rw [if_neg q1]
      by_cases q2 : tb (h 2) c = true
      · exact Or.inr ⟨2, by omega, by rw [if_pos q2], q2⟩
      · rw [if_neg q2]
        by_cases q3 : tb (h 3) c = true
        · exact Or.inr ⟨3, by omega, by rw [if_pos q3], q3⟩
        · rw [if_neg q3]; exact Or.inl rfl
theorem L_owner {c : Nat} (hc : c < 54) (S : tk_ST) (n j : Nat) (hj : j < 4) : f_X6_ownerOf_2 (n + 1) (nI c) (nI j) S = if tb (S.2.2.2 0 j) c = true then some (nI j) else f_X6_ownerOf_2 n (nI c) (nI (j + 1)) S := by
  rw [f_X6_ownerOf_2_s, if_neg (nge hj (by decide)), e_at13 hj, b1s, e_holds (by omega), b1s, nI_1]
  by_cases q : tb (S.2.2.2 0 j) c = true
  · rw [if_pos q, if_pos q, if_neg n10]
  · rw [if_neg q, if_neg q, if_pos rfl]
theorem e_owner {c : Nat} (hc : c < 54) (S : tk_ST) : f_X6_ownerOf (nI c) S = some (own (S.2.2.2 0) c) := by
  unfold f_X6_ownerOf own
  show f_X6_ownerOf_2 (63 + 1) (nI c) (nI 0) S = _
  rw [L_owner hc S 63 0 (by decide)]
  by_cases q0 : tb (S.2.2.2 0 0) c = true
  · rw [if_pos q0, if_pos q0]
  · rw [if_neg q0, if_neg q0, L_owner hc S 62 1 (by decide)]
    by_cases q1 : tb (S.2.2.2 0 1) c = true
    · rw [if_pos q1, if_pos q1]
    · rw [if_neg q1, if_neg q1, L_owner hc S 61 2 (by decide)]
      by_cases q2 : tb (S.2.2.2 0 2) c = true
      · rw [if_pos q2, if_pos q2]
      · rw [if_neg q2, if_neg q2, L_owner hc S 60 3 (by decide)]
        by_cases q3 : tb (S.2.2.2 0 3) c = true
        · rw [if_pos q3, if_pos q3]
        · rw [if_neg q3, if_neg q3]; rfl
theorem e_king {s : Nat} (h : s < 4) : ((8 : Int32) * nI s) + 7 = nI (8 * s + 7) := by
  rcases (show s = 0 ∨ s = 1 ∨ s = 2 ∨ s = 3 by omega) with rfl | rfl | rfl | rfl <;> decide
theorem L_callM {s : Nat} (hs : s < 4) (S : tk_ST) (n j : Nat) (hj : j < 4) (e : S.1 9 = nI s) : f_X7_call_42 (n + 1) (nI j) S = f_X7_call_42 n (nI (j + 1)) (tk_I S 11 (if tb (S.2.2.2 0 j) (8 * s + 7) = true then nI j else S.1 11)) := by
  rw [f_X7_call_42_s, if_neg (nge hj (by decide)), if_neg (inR hj (by decide)), cl (by omega)]
  unfold f_X7_king
  rw [e, e_king hs, b1s, e_has (by omega), b1s]
  unfold f_X7_call_72
  rw [nI_1]
  by_cases q : tb (S.2.2.2 0 j) (8 * s + 7) = true
  · rw [if_pos q, if_neg n10, if_pos q]
  · rw [if_neg q, if_pos rfl, if_neg q]
theorem L_callM1 {s : Nat} (hs : s < 4) (S : tk_ST) (n j : Nat) (hj : j < 4) (e : S.1 9 = nI s) : ∃ S', f_X7_call_42 (n + 1) (nI j) S = f_X7_call_42 n (nI (j + 1)) S' ∧ S'.1 11 = (if tb (S.2.2.2 0 j) (8 * s + 7) = true then nI j else S.1 11) ∧ (∀ i, i ≠ 11 → S'.1 i = S.1 i) ∧ S'.2 = S.2 := ⟨_, L_callM hs S n j hj e, rfl, fun i hi => by rw [uI1, if_neg hi], rfl⟩
theorem e_callM {s : Nat} (hs : s < 4) (S : tk_ST) (e : S.1 9 = nI s) (e11 : S.1 11 = -1) : ∃ S', f_X7_call_42 64 0 S = f_X7_call_101 (if ownL (S.2.2.2 0) (8 * s + 7) = S.1 8 then -1 else ownL (S.2.2.2 0) (8 * s + 7)) S' ∧ S'.1 11 = ownL (S.2.2.2 0) (8 * s + 7) ∧ (∀ i, i ≠ 11 → S'.1 i = S.1 i) ∧ S'.2 = S.2 := by
  obtain ⟨A, x1, x2, x3, x4⟩ := L_callM1 hs S 63 0 (by decide) e
  obtain ⟨B, y1, y2, y3, y4⟩ := L_callM1 hs A 62 1 (by decide) ((x3 9 (by decide)).trans e)
  obtain ⟨C, z1, z2, z3, z4⟩ := L_callM1 hs B 61 2 (by decide) ((y3 9 (by decide)).trans ((x3 9 (by decide)).trans e))
  obtain ⟨D, w1, w2, w3, w4⟩ := L_callM1 hs C 60 3 (by decide) ((z3 9 (by decide)).trans ((y3 9 (by decide)).trans ((x3 9 (by decide)).trans e)))
  have k : D.1 11 = ownL (S.2.2.2 0) (8 * s + 7) := by
    rw [w2, z4, y4, x4, z2, y4, x4, y2, x4, x2, e11]; rfl
  have g : ∀ i, i ≠ 11 → D.1 i = S.1 i := fun i hi => by rw [w3 i hi, z3 i hi, y3 i hi, x3 i hi]
  refine ⟨D, ?_, k, g, by rw [w4, z4, y4, x4]⟩
  show f_X7_call_42 (63 + 1) (nI 0) S = _
  rw [x1, y1, z1, w1, f_X7_call_42_s, if_pos (show (4 : Int32) ≤ nI (3 + 1) by decide), k, g 8 (by decide)]
  by_cases q : ownL (S.2.2.2 0) (8 * s + 7) = S.1 8
  · rw [if_pos q, if_pos q]
  · rw [if_neg q, if_neg q]
theorem n1I {j : Nat} (h : j < 2 ^ 31) : ¬ nI j = -1 := fun e => nneg h (by rw [e]; decide)
theorem P_call {k : Nat} {S M : tk_ST} (h : Rel k S M) (p : Int32) : SimW 3 k (f_X6_call p S) (f_X7_call p M) := by
  obtain ⟨hE, hA, hF, hP, hD, hK, hC, hPi, hZ, hPh⟩ := id h
  have a1 : M.1 1 = S.1 1 := hE.1
  unfold f_X6_call f_X7_call
  rcases or3 (n := 4) (by decide) (x := p) with hp | ⟨s, hs, rfl⟩
  · rw [show f_X7_isIn p 0 3 = some 0 from e_isInN (hp.imp id (fun h => lt_of_le1 (by decide) h)), b1s, if_pos rfl]
    have q4 : ∀ X : Option (Int32 × Int32 × tk_ST), (if p < 0 then f_X6_call_9 S else if p < (4 : Int32) then X else f_X6_call_9 S) = some (3, 0, S) := by
      intro X
      rcases hp with hp | hp
      · rw [if_pos hp]; rfl
      · by_cases q : p < 0
        · rw [if_pos q]; rfl
        · rw [if_neg q, if_neg (show ¬ p < 4 from Int32.not_lt.mpr hp)]; rfl
    rw [q4]
    exact simW_err h rfl rfl
  · rw [show f_X7_isIn (nI s) 0 3 = some 1 from e_isIn (a := 0) (b := 3) (by omega) (by omega) (by decide), b1s, if_neg n10, if_neg (nneg (by omega)), if_pos (show nI s < 4 from nI_lt hs (by decide)), a1]
    by_cases h5 : S.1 1 = 2
    · rw [if_pos h5, if_pos h5]
      obtain ⟨l, d, l1, l3, d4, el, ed, e4, e5, e6, hHT, hFr⟩ := h.cal h5
      unfold f_X6_calledKing f_X7_call_27
      rw [show (tk_I S 4 (nI s)).1 4 = nI s from rfl, e_king hs, b1s, e_owner (by omega), b1s, e_fine0, b2s, if_neg n10]
      obtain ⟨M', m1, m4, m2, m3⟩ := e_callM hs (tk_I (tk_I M 0 0) 9 (nI s)) rfl (show M.1 11 = -1 by rw [hE.2.2.2.2.1, e5])
      rw [m1]
      have ah : M.2.2.2 0 = S.2.2.2 0 := hE.2.2.2.2.2.2.2.2.2.2.2.2.2.2.2.2
      have a8 : M.1 8 = S.1 3 := hE.2.2.1
      rw [show (tk_I (tk_I M 0 0) 9 (nI s)).2.2.2 0 = S.2.2.2 0 from ah, show (tk_I (tk_I M 0 0) 9 (nI s)).1 8 = S.1 3 from a8, own_eq hC, show (tk_I S 4 (nI s)).2.2.2 0 = S.2.2.2 0 from rfl]
      rw [show (tk_I (tk_I M 0 0) 9 (nI s)).2.2.2 0 = S.2.2.2 0 from ah, own_eq hC] at m4
      have g : ∀ i, i ≠ 11 → i ≠ 9 → i ≠ 0 → M'.1 i = M.1 i := by
        intro i i1 i2 i3
        rw [m2 i i1, uI1, if_neg i2, uI1, if_neg i3]
      have g9 : M'.1 9 = nI s := m2 9 (by decide)
      have g0 : M'.1 0 = 0 := m2 0 (by decide)
      have hl3 : ¬ 3 < S.1 11 := by rw [el]; exact nI_nlt (b := l) (a := 3) (by omega) (by omega)
      have key : ∀ q : Int32, (q = -1 ∨ ∃ o, o < 4 ∧ q = nI o ∧ q ≠ S.1 3) → Rel (k + 1) (tk_I (tk_I (tk_I (tk_I S 4 (nI s)) 5 (own (S.2.2.2 0) (8 * s + 7))) 6 q) 1 3) (tk_I (tk_I M' 10 q) 1 3) := by
        intro q hq
        obtain ⟨f1, f2, f3, f4, f5, f6⟩ := hFr
        refine Rel.mono (k := k) ⟨⟨rfl, (g 4 (by decide) (by decide) (by decide)).trans hE.2.1, (g 8 (by decide) (by decide) (by decide)).trans hE.2.2.1, g9, m4, rfl, (g 6 (by decide) (by decide) (by decide)).trans hE.2.2.2.2.2.2.1, (g 7 (by decide) (by decide) (by decide)).trans hE.2.2.2.2.2.2.2.1, (g 17 (by decide) (by decide) (by decide)).trans hE.2.2.2.2.2.2.2.2.1, (g 15 (by decide) (by decide) (by decide)).trans hE.2.2.2.2.2.2.2.2.2.1, (g 18 (by decide) (by decide) (by decide)).trans hE.2.2.2.2.2.2.2.2.2.2.1, ?_⟩, ?_, ?_, hq, hD, ?_, hC, ?_, hZ, ?_⟩ (Nat.le_succ k)
        · show M'.2.1 0 = S.2.1 0 ∧ M'.2.2.1 0 = S.2.2.1 0 ∧ M'.2.2.1 3 = S.2.2.1 1 ∧ M'.2.2.1 4 = S.2.2.1 2 ∧ M'.2.2.1 5 = S.2.2.1 3 ∧ M'.2.2.2 0 = S.2.2.2 0
          rw [m3]; exact hE.2.2.2.2.2.2.2.2.2.2.2
        · show ∃ b0 b1 : Nat, b0 < 2 ∧ b1 < 2 ∧ S.1 8 = nI (b0 + 2 * b1) ∧ M'.2.2.1 2 0 = nI b0 ∧ M'.2.2.1 2 1 = nI b1
          rw [m3]; exact hA
        · obtain ⟨D, d1, d2, d3⟩ := hF
          exact ⟨D, d1, (g 2 (by decide) (by decide) (by decide)).trans d2, d3.imp id fun ⟨x, y, z⟩ => ⟨x, y, (g 3 (by decide) (by decide) (by decide)).trans z⟩⟩
        · refine ⟨fun _ _ => ⟨fun e => absurd e (n1I (j := s) (by omega)), fun e => absurd e hl3⟩, ?_, Or.inr ⟨s, hs, rfl⟩, fun s' o hs' ho es eo => ?_⟩
          · exact (own_or (S.2.2.2 0) (8 * s + 7)).imp id fun ⟨o, o1, o2, _⟩ => ⟨o, o1, o2⟩
          · have es' : nI s = nI s' := es
            have : s = s' := (nI_eq (by omega) (by omega)).mp es'
            subst this
            have eo' : own (S.2.2.2 0) (8 * s + 7) = nI o := eo
            show M'.1 12 = if tb (S.2.2.2 0 o) (8 * s + 7) = true then 0 else 1
            rcases own_or (S.2.2.2 0) (8 * s + 7) with x | ⟨o', o1, o2, o3⟩
            · rw [x] at eo'; exact absurd eo'.symm (n1I (by omega))
            · rw [o2] at eo'
              have : o' = o := (nI_eq (by omega) (by omega)).mp eo'
              subst this
              rw [if_pos o3, g 12 (by decide) (by decide) (by decide), f2]
        · rcases hPi with ⟨x1, x2, x3, x4⟩ | ⟨x1, _⟩
          · refine Or.inl ⟨(g 14 (by decide) (by decide) (by decide)).trans x1, x2, x3, fun p hp => ?_⟩
            show M'.2.2.2 1 p = 0
            rw [m3]; exact x4 p hp
          · rw [f1] at x1; exact absurd x1 (by decide)
        · refine Or.inr (Or.inr (Or.inr (Or.inl ⟨rfl, l, d, l1, by omega, d4, el, ed, ?_, ?_⟩)))
          · obtain ⟨t1, t2, t3, t4, t5⟩ := hHT
            refine ⟨t1, t2, t3, t4, ?_⟩
            show M'.2.1 1 = 0
            rw [m3]; exact t5
          · obtain ⟨f, y1, y2, y3⟩ := f6
            exact ⟨(g 14 (by decide) (by decide) (by decide)).trans f1, (g 12 (by decide) (by decide) (by decide)).trans f2, f3, f4, f5, f, y1, y2, (g 3 (by decide) (by decide) (by decide)).trans y3⟩
      by_cases q : own (S.2.2.2 0) (8 * s + 7) = S.1 3
      · rw [if_pos (show own (S.2.2.2 0) (8 * s + 7) = S.1 3 from q), if_pos q]
        exact simW_ok rfl rfl (key (-1) (Or.inl rfl)) g0
      · rw [if_neg (show ¬ own (S.2.2.2 0) (8 * s + 7) = S.1 3 from q), if_neg q]
        refine simW_ok rfl rfl (key _ ?_) g0
        exact (own_or (S.2.2.2 0) (8 * s + 7)).imp id fun ⟨o, o1, o2, _⟩ => ⟨o, o1, o2, q⟩
    · rw [if_neg h5, if_neg h5]
      exact simW_two h rfl rfl
