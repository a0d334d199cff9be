/-! play, playLowest -/
theorem now5 {k : Nat} {S M : tk_ST} (h : Rel k S M) (h5 : S.1 1 = 5) : ∃ t x, t < 4 ∧ S.1 2 = nI t ∧ f_X6_playableNow S = some x ∧ (∀ c, c < 54 → f_X7_isPlayable (nI c) M = some (if tb x c = true then 1 else 0)) ∧ (∀ c, tb x c = true → tb (S.2.2.2 0 t) c = true) ∧ ∃ c, c < 54 ∧ tb x c = true := by
  obtain ⟨l, d, L, z, T, l1, l5, d4, L4, z4, T12, el, ed, eL, eML, ez, eT, et, ec, e14, etr⟩ := h.ply h5
  have ht : (L + z) % 4 < 4 := Nat.mod_lt _ (by decide)
  obtain ⟨x, x1, x2, x3, x4⟩ := e_now h h5 ht z4 et ez (fun hz => etr 0 hz)
  refine ⟨(L + z) % 4, x, ht, et, x1, x2, x3, ?_⟩
  have hn := ec _ ht
  rw [if_neg (by omega)] at hn
  obtain ⟨c, c1, c2⟩ := cn_pos (x := S.2.2.2 0 ((L + z) % 4)) (by omega)
  obtain ⟨c', h'⟩ := x4 ⟨c, c2⟩
  exact ⟨c', h.2.2.2.2.2.2.1.1 _ ht c' (x3 c' h'), h'⟩
theorem P_play {k : Nat} {S M : tk_ST} (h : Rel k S M) (p : Int32) : SimW 3 k (f_X6_play p S) (f_X7_play p M) := by
  have a1 : M.1 1 = S.1 1 := h.1.1
  unfold f_X6_play f_X7_play f_X7_play_25
  rcases or3 (n := 54) (by decide) (x := p) with hp | ⟨c, hc, rfl⟩
  · rw [e_isCardN hp, e_cardMN hp, b1s, b1s, if_pos rfl, if_pos rfl, e_fine1, b2s, if_pos rfl]
    exact simW_err h rfl rfl
  · rw [e_isCard hc, e_cardM hc, b1s, b1s, if_neg n10, if_neg n10]
    by_cases h5 : S.1 1 = 5
    · obtain ⟨t, x, t4, et, x1, x2, x3, _⟩ := now5 h h5
      rw [x1, b1s, e_holds (by omega), b1s, x2 c hc, b1s]
      by_cases q : tb x c = true
      · rw [if_pos q, if_neg n10, if_neg n10, e_fine0, b2s, if_neg n10]
        obtain ⟨r, S', M', y1, y2, y3, y4⟩ := S_play (h.t 0) h5 hc t4 et (x3 c q)
        rw [y1, y2, b2s, b2s]
        exact simW_ok rfl rfl (y3.mono (Nat.le_succ k)) (y4.trans rfl)
      · rw [if_neg q, if_pos rfl, if_pos rfl]
        exact simW_two h rfl rfl
    · rw [e_nowN h5, b1s, e_holds (by omega), b1s, e_plN (by rw [a1]; exact h5), b1s, if_neg (tbZ c), if_pos rfl, if_pos rfl]
      exact simW_two h rfl rfl
theorem least (x : Int64) : ∀ n, (∀ i, i < n → ¬ tb x i = true) ∨ ∃ c, c < n ∧ tb x c = true ∧ ∀ i, i < c → ¬ tb x i = true
  | 0 => Or.inl fun i hi => absurd hi (Nat.not_lt_zero i)
  | n + 1 => by
    rcases least x n with h | ⟨c, h1, h2, h3⟩
    · by_cases e : tb x n = true
      · exact Or.inr ⟨n, by omega, e, h⟩
      · refine Or.inl fun i hi => ?_
        by_cases q : i = n
        · rw [q]; exact e
        · exact h i (by omega)
    · exact Or.inr ⟨c, by omega, h2, h3⟩
theorem L_low {x : Int64} {c : Nat} (hc : c < 54) (h : tb x c = true) (hm : ∀ i, i < c → ¬ tb x i = true) : ∀ n j, j ≤ c → c - j < n → f_X6_lowestOf_2 n x (nI j) = some (nI c)
  | 0, _, _, g => absurd g (Nat.not_lt_zero _)
  | n + 1, j, hj, g => by
    rw [f_X6_lowestOf_2_s, if_neg (show ¬ (54 : Int32) ≤ nI j from nI_ge (b := 54) (by omega) (by decide)), e_holds (by omega), b1s]
    by_cases q : j = c
    · subst q; rw [if_pos h, if_neg n10]
    · rw [if_neg (hm j (by omega)), if_pos rfl, nI_1, L_low hc h hm n (j + 1) (by omega) (by omega)]
theorem L_53 {x : Int64} {M : tk_ST} {c : Nat} (hc : c < 54) (hx : ∀ c, c < 54 → f_X7_isPlayable (nI c) M = some (if tb x c = true then 1 else 0)) (h : tb x c = true) (hm : ∀ i, i < c → ¬ tb x i = true) (K : Int32 → Int32 → tk_ST → Option (Int32 × tk_ST)) (u v : Int32) : ∀ n j, j ≤ c → c - j < n → f_X7_playLowest_53 K n u v (nI j) M = tk_b2 (f_X7_plays (nI c) M) fun _ S7 => K u (v + 1) S7
  | 0, _, _, g => absurd g (Nat.not_lt_zero _)
  | n + 1, j, hj, g => by
    rw [f_X7_playLowest_53_s, hx j (by omega), b1s]
    by_cases q : j = c
    · subst q; rw [if_pos h, if_neg n10]
    · rw [if_neg (hm j (by omega)), if_pos rfl, nI_1, L_53 hc hx h hm K u v n (j + 1) (by omega) (by omega)]
theorem L_plow {k x : Nat} (hx : x ≤ 48) : ∀ n m (S M : tk_ST), Rel k S M → m ≤ x → x - m < n → ∃ r S' M', f_X6_playLowest_43 n (nI x) (nI m) (nI m) S = some (0, r, S') ∧ f_X7_playLowest_38 n (nI x) (nI m) M = some (r, M') ∧ Rel k S' M' ∧ M'.1 0 = M.1 0
  | 0, _, _, _, _, _, g => absurd g (Nat.not_lt_zero _)
  | n + 1, m, S, M, h, hm, g => by
    rw [f_X6_playLowest_43_s, f_X7_playLowest_38_s]
    by_cases q : m = x
    · subst q
      rw [if_pos (nI_le (Nat.le_refl _) (by omega)), if_pos (nI_le (Nat.le_refl _) (by omega))]
      exact ⟨_, _, _, rfl, rfl, h, rfl⟩
    · rw [if_neg (nI_ge (by omega) (by omega)), if_neg (nI_ge (by omega) (by omega)), h.1.1]
      by_cases h5 : S.1 1 = 5
      · rw [if_pos h5, if_pos h5]
        obtain ⟨t, y, t4, et, x1, x2, x3, c0, c1, c2⟩ := now5 h h5
        obtain ⟨c, hc, d1, d2⟩ : ∃ c, c < 54 ∧ tb y c = true ∧ ∀ i, i < c → ¬ tb y i = true := by
          rcases least y 54 with e | e
          · exact absurd c2 (e c0 c1)
          · exact e
        obtain ⟨r, S', M', y1, y2, y3, y4⟩ := S_play h h5 hc t4 et (x3 c d1)
        have hl : f_X6_lowestOf y = some (nI c) := L_low hc d1 d2 64 0 (by omega) (by omega)
        have h53 : f_X7_playLowest_53 (f_X7_playLowest_38 n) 64 (nI x) (nI m) 0 M = _ := L_53 hc x2 d1 d2 (f_X7_playLowest_38 n) (nI x) (nI m) 64 0 (by omega) (by omega)
        rw [x1, b1s, hl, b1s, y1, b2s, h53, y2, b2s, nI_1]
        obtain ⟨r', S'', M'', z1, z2, z3, z4⟩ := L_plow hx n (m + 1) S' M' y3 (by omega) (by omega)
        exact ⟨r', S'', M'', z1, z2, z3, z4.trans y4⟩
      · rw [if_neg h5, if_neg h5]
        exact ⟨_, _, _, rfl, rfl, h, rfl⟩
theorem P_playLowest {k : Nat} {S M : tk_ST} (h : Rel k S M) (p : Int32) : SimW 1 k (f_X6_playLowest p S) (f_X7_playLowest p M) := by
  have a1 : M.1 1 = S.1 1 := h.1.1
  have q4 : ∀ X : Option (Int32 × Int32 × tk_ST), (p < 1 ∨ nI 49 ≤ p) → (if p < 1 then f_X6_playLowest_11 S else if p ≤ 48 then X else f_X6_playLowest_11 S) = some (1, 0, S) := by
    intro X hp
    rcases hp with hp | hp
    · rw [if_pos hp]; rfl
    · by_cases q : p < 1
      · rw [if_pos q]; rfl
      · rw [if_neg q, if_neg (show ¬ p ≤ 48 from Int32.not_le.mpr (lt_of_le1 (n := 48) (by decide) hp))]; rfl
  unfold f_X6_playLowest f_X7_playLowest f_X7_playLowest_28
  have hcase : (p < 1 ∨ nI 49 ≤ p) ∨ ∃ x, 1 ≤ x ∧ x ≤ 48 ∧ p = nI x := by
    rcases or3 (n := 49) (by decide) (x := p) with (hp | hp) | ⟨x, hx, rfl⟩
    · refine Or.inl (Or.inl ?_)
      rw [Int32.lt_iff_toInt_lt] at hp ⊢
      rw [show (0 : Int32).toInt = 0 from rfl] at hp
      rw [show (1 : Int32).toInt = 1 from rfl]
      omega
    · exact Or.inl (Or.inr hp)
    · by_cases q : x = 0
      · subst q; exact Or.inl (Or.inl (by decide))
      · exact Or.inr ⟨x, by omega, by omega, rfl⟩
  rcases hcase with hp | ⟨x, h1, h48, rfl⟩
  · rw [q4 _ hp, show f_X7_isIn p 1 48 = some 0 from e_isInN (hp.imp id (fun h => lt_of_le1 (by decide) h)), b1s, if_pos rfl]
    exact simW_err h rfl rfl
  · rw [show f_X7_isIn (nI x) 1 48 = some 1 from e_isIn (a := 1) (b := 48) h1 h48 (by decide), b1s, if_neg n10, if_neg (show ¬ nI x < 1 from nI_nlt (b := 1) h1 (by omega)), if_pos (show nI x ≤ 48 from nI_le (b := 48) h48 (by decide)), a1]
    by_cases h5 : S.1 1 = 5
    · rw [if_pos h5, if_pos h5, e_fine0, b2s, if_neg n10]
      obtain ⟨r, S', M', z1, z2, z3, z4⟩ := L_plow h48 64 0 S (tk_I M 0 0) (h.t 0) (by omega) (by omega)
      exact simW_ok z1 z2 (z3.mono (Nat.le_succ k)) (z4.trans rfl)
    · rw [if_neg h5, if_neg h5]
      exact simW_two h rfl rfl
