/-! the law's look at the sides -/
theorem ni_neg {n : Nat} (h : n < 2 ^ 31) : ¬ nI n < 0 := nI_pos h
theorem k_self {S : tk_ST} (h : Sd S) {p : Nat} (hp : p < 4) : f0_X6_knows (nI p) (nI p) S = some (if S.1 3 = -1 then -1 else if S.1 1 = 2 then -1 else sd (nI p) (S.1 3) (S.1 6)) := by
  rcases r_knows h hp hp with e | ⟨e, -⟩
  · exact e
  · exact absurd rfl e
theorem L_153 {S : tk_ST} (h : Sd S) (K : Int32 → Int32 → tk_ST → Option Int32) {p : Nat} (hp : p < 4) : ∀ n q : Nat, q ≤ 4 → 4 < q + n → f_L_areSides_153 K n 1 (nI p) (nI q) S = K 1 (nI (p + 1)) S := by
  intro n
  induction n with
  | zero => intro q h1 h2; omega
  | succ n ih =>
    intro q h4 hn
    rw [f_L_areSides_153_s]
    unfold f_L_areSides_204 f_L_areSides_192 f_L_areSides_197
    by_cases e : q = 4
    · subst e
      rw [if_pos (show (4 : Int32) ≤ nI 4 by decide), nI_1]
    · have hq : q < 4 := by omega
      have go := ih (q + 1) (by omega) (by omega)
      rw [if_neg (nge hq (by decide)), if_neg n10, nI_1]
      rcases r_knows h hp hq with e1 | ⟨-, e1⟩
      · rw [e1, b1s, k_self h hq]
        by_cases c1 : (if S.1 3 = -1 then (-1 : Int32) else if S.1 1 = 2 then -1 else sd (nI q) (S.1 3) (S.1 6)) = -1
        · rw [if_pos c1]; exact go
        · rw [if_neg c1, b1s, if_pos rfl]; exact go
      · rw [e1, b1s, if_pos rfl]; exact go
theorem L_81 {S : tk_ST} (h : Sd S) (h210 : f_L_areSides_210 1 S = some 1) : ∀ n p : Nat, p ≤ 4 → 4 < p + n → f_L_areSides_81 n 1 (nI p) S = some 1 := by
  intro n
  induction n with
  | zero => intro p h1 h2; omega
  | succ n ih =>
    intro p h4 hn
    rw [f_L_areSides_81_s]
    by_cases e : p = 4
    · subst e
      rw [if_pos (show (4 : Int32) ≤ nI 4 by decide)]; exact h210
    · have hp : p < 4 := by omega
      have go : f_L_areSides_149 (f_L_areSides_81 n) (nI p) 1 S = some 1 := by
        unfold f_L_areSides_149
        rw [show (0 : Int32) = nI 0 from rfl, L_153 h _ hp 64 0 (by omega) (by omega)]
        exact ih (p + 1) (by omega) (by omega)
      rw [if_neg (nge hp (by decide)), if_neg n10, k_self h hp, b1s]
      unfold f_L_areSides_114 f_L_areSides_136 f_L_areSides_141 f_X6_declarer f_X6_phase f_X6_partner
      rw [b1s]
      rcases h.1 with e3 | ⟨d, hd, e3⟩
      · rw [if_pos e3, if_pos (show S.1 3 < 0 by rw [e3]; decide), if_pos rfl]; exact go
      · have n3 : ¬ S.1 3 = -1 := by rw [e3]; exact nm1 (by omega)
        rw [if_neg n3, if_neg (show ¬ S.1 3 < 0 by rw [e3]; exact ni_neg (by omega)), b1s]
        by_cases e2 : S.1 1 = 2
        · rw [if_pos e2, if_pos e2, if_pos rfl]; exact go
        · rw [if_neg e2, if_neg e2, b1s]
          unfold sd
          by_cases d1 : nI p = S.1 3
          · rw [if_pos d1, if_pos d1, if_pos rfl]; exact go
          · rw [if_neg d1, if_neg d1, b1s]
            by_cases d2 : nI p = S.1 6
            · rw [if_pos d2, if_pos d2, if_pos rfl]; exact go
            · rw [if_neg d2, if_neg d2, if_pos rfl]; exact go
theorem sides210 {S : tk_ST} (h : Sd S) : f_L_areSides_210 1 S = some 1 := by
  obtain ⟨h3, h6, h4, h5, l, l5, el, hl3, hl4⟩ := h
  have e253 : f_L_areSides_253 S = some 1 := by
    unfold f_L_areSides_253 f_L_areSides_268 f_X6_called f_X6_level
    rw [b1s]
    rcases h4 with e | ⟨s, hs, e⟩
    · rw [if_pos (by rw [e]; decide)]
    · rw [if_neg (by rw [e]; exact ni_neg (by omega)), b1s, el, if_neg (show ¬ (4 : Int32) ≤ nI l from nI_ge (b := 4) (hl4 (by rw [e]; exact nm1 (by omega))) (by decide))]
  have e239 : f_L_areSides_239 S = some 1 := by
    unfold f_L_areSides_239 f_X6_declarer f_X6_level
    rw [b1s]
    rcases h3 with e | ⟨d, hd, e⟩
    · rw [if_pos (by rw [e]; decide)]; exact e253
    · rw [if_neg (by rw [e]; exact ni_neg (by omega)), b1s, el, if_neg (nI_nle (by have := hl3 (by rw [e]; exact nm1 (by omega)); omega) (by omega))]
      exact e253
  unfold f_L_areSides_210 f_X6_partner f_X6_called f_X6_declarer
  rw [if_neg n10, b1s]
  rcases h6 with e | ⟨q, hq, e, ne, nc⟩
  · rw [if_pos (by rw [e]; decide)]; exact e239
  · obtain ⟨s, hs, es⟩ := h4.resolve_left nc
    rw [if_neg (by rw [e]; exact ni_neg (by omega)), b1s, if_neg (by rw [es]; exact ni_neg (by omega)), b1s, b1s, if_neg ne]
    exact e239
theorem areSides_ok {D : Nat} {S : tk_ST} (h : Inv D S) : f_L_areSides S = some 1 := by
  obtain ⟨-, -, hS, ⟨-, T, hT, eT, h210, hall⟩, -⟩ := h
  obtain ⟨r0, a1, a2⟩ := r_packs (s := 0) (by decide) S
  obtain ⟨r1, b1, b2⟩ := r_packs (s := 1) (by decide) S
  have e44 : f_L_areSides_44 (nI (th (S.2.2.2 1 0) + th (S.2.2.2 1 1))) 1 S = some 1 := by
    unfold f_L_areSides_44 f_L_areSides_77
    rw [show f0_X6_byPacks (0 : Int32) S = some (nI r0) from a2, show f0_X6_byPacks (1 : Int32) S = some (nI r1) from b2, b1s, b1s, if_neg n10, nI_add, if_neg (ni_neg (by omega)), show (3 : Int32) * nI (r0 + r1) = nI (3 * (r0 + r1)) from pk_mul 3 _, if_neg (nI_nlt (by omega) (by omega))]
    exact L_81 hS (sides210 hS) 64 0 (by omega) (by omega)
  unfold f_L_areSides f_L_areSides_39 f_X6_tricks
  rw [r_thirds0, b1s, r_thirds1, b1s, nI_add, if_neg (ni_neg (by omega)), if_neg (show ¬ (210 : Int32) < nI (th (S.2.2.2 1 0) + th (S.2.2.2 1 1)) from nI_nlt (b := th (S.2.2.2 1 0) + th (S.2.2.2 1 1)) (a := 210) (by omega) (by decide)), b1s, eT]
  by_cases q : T = 12
  · subst q
    rw [if_neg (show ¬ nI 12 < 12 by decide), if_pos (show nI (th (S.2.2.2 1 0) + th (S.2.2.2 1 1)) = 210 by rw [hall rfl]; rfl)]
    exact e44
  · rw [if_pos (show nI T < 12 from nI_lt (b := 12) (by omega) (by decide))]
    exact e44
