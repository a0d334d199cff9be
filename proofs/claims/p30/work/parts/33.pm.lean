/-! the law's look at the scores -/
theorem L_sc {S : tk_ST} {d : Nat} {R : Int32} (hd : d < 4) (ed : S.1 3 = nI d) (hsc : ∀ p, p < 4 → S.2.2.1 2 p = S.2.2.1 4 p + (if sd (nI p) (nI d) (S.1 6) = 0 then R else 0)) (n : Nat) {p : Nat} (hp : p < 4) : f_L_isScored_10 (n + 1) R 1 (nI p) S = f_L_isScored_10 n R 1 (nI (p + 1)) S := by
  have h := hsc p hp
  rw [f_L_isScored_10_s, if_neg (nge hp (by decide))]
  have key : ∀ k : Int32, S.2.2.1 2 p = S.2.2.1 4 p + k → f_L_isScored_39 (f_L_isScored_10 n) R 1 (nI p) k S = f_L_isScored_10 n R 1 (nI (p + 1)) S := by
    intro k hk
    unfold f_L_isScored_39 f_L_isScored_66
    rw [if_neg n10, r_score hp, b1s, if_neg (inR (show p < 8 by omega) (by decide)), cl (by omega), if_pos hk, nI_1]
  unfold f_L_isScored_34 f_X6_declarer f_X6_partner
  rw [b1s, ed]
  unfold sd at h
  by_cases q : nI p = nI d
  · rw [if_pos q]
    rw [if_pos q, if_pos rfl] at h
    exact key R h
  · rw [if_neg q, b1s]
    rw [if_neg q] at h
    by_cases r : nI p = S.1 6
    · rw [if_pos r]
      rw [if_pos r, if_pos rfl] at h
      exact key R h
    · rw [if_neg r]
      rw [if_neg r, if_neg n10] at h
      exact key 0 h
theorem L_ra {S : tk_ST} {d t l : Nat} (hd : d < 4) (ed : S.1 3 = nI d) (el : S.1 11 = nI l) (l5 : l ≤ 5) (hra : ∀ p, p < 4 → S.2.2.1 3 p = resA (fun j => S.2.2.1 4 (4 + j)) d t p + (if l ≤ 3 then 0 else 1)) (n : Nat) {p : Nat} (hp : p < 4) : f_L_isScored_253 (n + 1) 1 (if t ≤ 105 then 0 else 1) (S.2.2.1 4 (4 + d)) (nI p) S = f_L_isScored_253 n 1 (if t ≤ 105 then 0 else 1) (S.2.2.1 4 (4 + d)) (nI (p + 1)) S := by
  have h := hra p hp
  rw [f_L_isScored_253_s, if_neg (nge hp (by decide))]
  have key : ∀ k : Int32, resA (fun j => S.2.2.1 4 (4 + j)) d t p = S.2.2.1 4 (4 + p) - k → f_L_isScored_283 (f_L_isScored_253 n) 1 (if t ≤ 105 then 0 else 1) (S.2.2.1 4 (4 + d)) (nI p) k S = f_L_isScored_253 n 1 (if t ≤ 105 then 0 else 1) (S.2.2.1 4 (4 + d)) (nI (p + 1)) S := by
    intro k hk
    rw [hk] at h
    unfold f_L_isScored_283 f_L_isScored_317 f_L_isScored_326 f_X6_level
    rw [if_neg n10, r_radli hp, b1s, show (4 : Int32) + nI p = nI (4 + p) from nI_add 4 p, if_neg (inR (show 4 + p < 8 by omega) (by decide)), cl (by omega), b1s, el, nI_1]
    by_cases q : l ≤ 3
    · rw [if_pos (show nI l ≤ 3 from nI_le (b := 3) q (by decide))]
      rw [if_pos q] at h
      rw [if_pos h]
    · rw [if_neg (show ¬ nI l ≤ 3 from nI_ge (a := 3) (by omega) (by omega))]
      rw [if_neg q] at h
      rw [if_pos h]
  unfold f_L_isScored_282 f_X6_declarer
  rw [b1s, ed]
  unfold resA at key
  by_cases q : nI p = nI d
  · have e : p = d := (nI_eq (by omega) (by omega)).mp q
    subst e
    rw [if_pos rfl]
    by_cases a : S.2.2.1 4 (4 + p) ≤ 0
    · rw [if_pos a]
      exact key 0 (by rw [if_pos a, Int32.sub_zero])
    · rw [if_neg a]
      by_cases b : t ≤ 105
      · simp only [if_pos b]
        have := key 0 (by rw [if_neg a, if_pos b, Int32.sub_zero])
        simp only [if_pos b] at this
        rw [if_pos trivial]
        exact this
      · simp only [if_neg b]
        have := key 1 (by rw [if_neg a, if_neg b, updE, if_pos rfl])
        simp only [if_neg b] at this
        rw [if_neg n10]
        exact this
  · rw [if_neg q]
    refine key 0 ?_
    rw [Int32.sub_zero]
    by_cases a : S.2.2.1 4 (4 + d) ≤ 0
    · rw [if_pos a]
    · rw [if_neg a]
      by_cases b : t ≤ 105
      · rw [if_pos b]
      · rw [if_neg b, updE, if_neg (fun e => q (by rw [e]))]
theorem gm_w : ∀ l, l < 6 → 1 ≤ l → ∀ t, t < 211 → (gmL l t + 150).toNatClampNeg < 300 ∧ gmL l t = nI ((gmL l t + 150).toNatClampNeg) + -150 := by decide +kernel
theorem vv_w {v1 v2 : Int32} (h1 : P5 v1) (h2 : K5 v2) : (v1 + v2 + 70).toNatClampNeg < 150 ∧ v1 + v2 = nI ((v1 + v2 + 70).toNatClampNeg) + -70 := by
  rcases h1 with rfl | rfl | rfl | rfl | rfl <;> rcases h2 with rfl | rfl | rfl | rfl | rfl <;> decide
theorem vv_b {v1 v2 : Int32} (h1 : P5 v1) (h2 : K5 v2) : ¬ (v1 + v2 < -70) ∧ ¬ (70 < v1 + v2) ∧ tk_rem (v1 + v2) 5 = 0 := by
  rcases h1 with rfl | rfl | rfl | rfl | rfl <;> rcases h2 with rfl | rfl | rfl | rfl | rfl <;> decide
theorem half_w : ∀ m, m < 450 → ((nI m + -220) * 2) / 2 = nI m + -220 ∧ tk_rem ((nI m + -220) * 2) 2 = 0 := by decide +kernel
theorem add4 (x y p q : Int32) : (x + p) + (y + q) = (x + y) + (p + q) := by
  rw [Int32.add_assoc, ← Int32.add_assoc p y q, Int32.add_comm p y, Int32.add_assoc y p q, ← Int32.add_assoc x y (p + q)]
theorem half_ok {l t : Nat} (l1 : 1 ≤ l) (l5 : l ≤ 5) (ht : t ≤ 210) {v1 v2 : Int32} (h1 : P5 v1) (h2 : K5 v2) : (((gmL l t + v1) + v2) * 2) / 2 = (gmL l t + v1) + v2 ∧ tk_rem (((gmL l t + v1) + v2) * 2) 2 = 0 := by
  obtain ⟨a1, a2⟩ := gm_w l (by omega) l1 t (by omega)
  obtain ⟨b1, b2⟩ := vv_w h1 h2
  have e : (gmL l t + v1) + v2 = nI ((gmL l t + 150).toNatClampNeg + (v1 + v2 + 70).toNatClampNeg) + -220 := by
    rw [Int32.add_assoc, ← nI_add]
    have : (-220 : Int32) = -150 + -70 := by decide
    rw [this, ← add4, ← a2, ← b2]
  rw [e]
  exact half_w _ (by omega)
theorem e_179 {S : tk_ST} {l t : Nat} (el : S.1 11 = nI l) (l1 : 1 ≤ l) (l5 : l ≤ 5) (R : Int32) : f_L_isScored_92 R 1 (nI t) (if t ≤ 105 then 0 else 1) S = f_L_isScored_179 R 1 (if t ≤ 105 then 0 else 1) (gmL l t) S := by
  have k163 : ∀ m b : Int32, m = (if l = 5 then 0 else if t ≤ 105 then ((105 : Int32) - nI t) / 3 else (nI t - (105 : Int32)) / 3) → b = (if l = 4 then 50 else if l = 5 then 80 else (10 : Int32) * nI l) → f_L_isScored_163 R 1 (if t ≤ 105 then 0 else 1) m b S = f_L_isScored_179 R 1 (if t ≤ 105 then 0 else 1) (gmL l t) S := by
    intro m b hm hb
    unfold f_L_isScored_163 gmL
    by_cases q : t ≤ 105
    · simp only [if_pos q] at hm ⊢
      rw [if_pos trivial, ← hm, ← hb]
    · simp only [if_neg q] at hm ⊢
      rw [if_neg n10, ← hm, ← hb]
  have k126 : ∀ m : Int32, m = (if l = 5 then 0 else if t ≤ 105 then ((105 : Int32) - nI t) / 3 else (nI t - (105 : Int32)) / 3) → f_L_isScored_126 R 1 (if t ≤ 105 then 0 else 1) m S = f_L_isScored_179 R 1 (if t ≤ 105 then 0 else 1) (gmL l t) S := by
    intro m hm
    unfold f_L_isScored_126 f_X6_level
    rw [b1s, b1s, b1s, el]
    by_cases q4 : l = 4
    · rw [if_pos (show nI l = 4 by rw [q4]; rfl)]
      exact k163 m 50 hm (by rw [if_pos q4])
    · rw [if_neg (show ¬ nI l = 4 from fun e => q4 ((nI_eq (b := 4) (by omega) (by decide)).mp e))]
      by_cases q5 : l = 5
      · rw [if_pos (show nI l = 5 by rw [q5]; rfl)]
        exact k163 m 80 hm (by rw [if_neg q4, if_pos q5])
      · rw [if_neg (show ¬ nI l = 5 from fun e => q5 ((nI_eq (b := 5) (by omega) (by decide)).mp e))]
        exact k163 m _ hm (by rw [if_neg q4, if_neg q5])
  unfold f_L_isScored_92 f_L_isScored_124
  show (tk_b1 (f_X6_level S) _) = _
  unfold f_X6_level
  rw [b1s, el]
  by_cases q5 : l = 5
  · rw [if_pos (show nI l = 5 by rw [q5]; rfl)]
    exact k126 0 (by rw [if_pos q5])
  · rw [if_neg (show ¬ nI l = 5 from fun e => q5 ((nI_eq (b := 5) (by omega) (by decide)).mp e))]
    by_cases q : t ≤ 105
    · rw [if_pos (show (if t ≤ 105 then (0 : Int32) else 1) = 0 by rw [if_pos q])]
      exact k126 _ (by rw [if_neg q5, if_pos q])
    · rw [if_neg (show ¬ (if t ≤ 105 then (0 : Int32) else 1) = 0 by rw [if_neg q]; exact n10)]
      exact k126 _ (by rw [if_neg q5, if_neg q])
theorem isScored_ok {S : tk_ST} (h : Scd S) : f_L_isScored S = some 1 := by
  obtain ⟨d, t, l, v1, v2, hd, ht, l1, l5, ed, el, et, hv1, hv2, hR, hsc, hra, nd, hnd, end_⟩ := h
  have e253 : f_L_isScored_253 64 1 (if t ≤ 105 then 0 else 1) (S.2.2.1 4 (4 + d)) 0 S = some 1 := by
    show f_L_isScored_253 (63 + 1) 1 (if t ≤ 105 then 0 else 1) (S.2.2.1 4 (4 + d)) (nI 0) S = some 1
    rw [L_ra hd ed el l5 hra 63 (p := 0) (by omega), L_ra hd ed el l5 hra 62 (p := 1) (by omega), L_ra hd ed el l5 hra 61 (p := 2) (by omega), L_ra hd ed el l5 hra 60 (p := 3) (by omega), show 60 = 59 + 1 from rfl, f_L_isScored_253_s, if_pos (show (4 : Int32) ≤ nI (3 + 1) by decide), if_pos (Or.inr rfl)]
  have hb := vv_b hv1 hv2
  have e223 : f_L_isScored_223 (if t ≤ 105 then 0 else 1) (S.2.2.1 4 (4 + d)) (((gmL l t + v1) + v2) - gmL l t) S = some 1 := by
    have e : ((gmL l t + v1) + v2) - gmL l t = v1 + v2 := by
      rw [Int32.add_assoc, Int32.add_comm, Int32.add_sub_cancel]
    rw [e]
    unfold f_L_isScored_223 f_L_isScored_249
    rw [if_neg hb.1, if_neg hb.2.1, if_pos hb.2.2]
    exact e253
  have e179 : f_L_isScored_179 (S.1 15) 1 (if t ≤ 105 then 0 else 1) (gmL l t) S = some 1 := by
    unfold f_L_isScored_179 f_L_isScored_203 f_X6_declarer
    rw [b1s, ed, show (4 : Int32) + nI d = nI (4 + d) from nI_add 4 d, if_neg (inR (show 4 + d < 8 by omega) (by decide)), cl (by omega), hR]
    unfold resR
    by_cases q : nd = 0
    · have e0 : S.2.2.1 4 (4 + d) = 0 := by rw [end_, q]; rfl
      have e0' : S.2.2.1 4 (4 + d) ≤ 0 := by rw [e0]; decide
      rw [if_pos e0', if_pos e0', if_neg n10, if_pos e0]
      exact e223
    · have e0 : ¬ S.2.2.1 4 (4 + d) = 0 := by rw [end_]; exact nI_ne0 (by omega) (by omega)
      have e0' : ¬ S.2.2.1 4 (4 + d) ≤ 0 := by rw [end_]; exact nI_nle (by omega) (by omega)
      have hh := half_ok l1 l5 ht hv1 hv2
      rw [if_neg e0', if_neg e0', if_neg n10, if_neg e0, if_pos hh.2, hh.1]
      exact e223
  unfold f_L_isScored f_X6_result
  rw [b1s]
  show f_L_isScored_10 (63 + 1) (S.1 15) 1 (nI 0) S = some 1
  rw [L_sc hd ed hsc 63 (p := 0) (by omega), L_sc hd ed hsc 62 (p := 1) (by omega), L_sc hd ed hsc 61 (p := 2) (by omega), L_sc hd ed hsc 60 (p := 3) (by omega), show 60 = 59 + 1 from rfl, f_L_isScored_10_s, if_pos (show (4 : Int32) ≤ nI (3 + 1) by decide), r_thirds0, b1s, ← et]
  have e92 := e_179 (S := S) (t := t) el l1 l5 (S.1 15)
  by_cases q : t ≤ 105
  · rw [if_pos (show nI t ≤ 105 from nI_le (b := 105) q (by decide))]
    simp only [if_pos q] at e92 e179
    rw [e92]; exact e179
  · rw [if_neg (show ¬ nI t ≤ 105 from nI_ge (a := 105) (by omega) (by omega))]
    simp only [if_neg q] at e92 e179
    rw [e92]; exact e179
