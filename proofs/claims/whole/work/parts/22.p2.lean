/-! what ties the hall's state S to the reference's state M -/
def ct (p : Nat → Bool) : Nat → Nat
  | 0 => 0
  | n + 1 => ct p n + (if p n = true then 1 else 0)
def cn (x : Int64) : Nat := ct (tb x) 54
def jbI (x : Int32) : Int64 := (1 : Int64) <<< (x.toInt64 &&& 63)
def orr (f : Nat → Int32) (a : Nat) : Nat → Int64
  | 0 => 0
  | n + 1 => orr f a n ||| jbI (f (a + n))
def pc (P : Nat) : Nat := (if P.testBit 0 then 1 else 0) + (if P.testBit 1 then 1 else 0) + (if P.testBit 2 then 1 else 0) + (if P.testBit 3 then 1 else 0)
def Row (f : Nat → Int32) : Prop := ∃ v : Nat → Nat, (∀ i, i < 54 → v i < 54 ∧ f i = nI (v i)) ∧ ∀ i j, i < 54 → j < 54 → v i = v j → i = j
def Crd (h : Nat → Int64) : Prop := (∀ p, p < 4 → ∀ c, tb (h p) c = true → c < 54) ∧ ∀ p q, p < 4 → q < 4 → p ≠ q → ∀ c, ¬ (tb (h p) c = true ∧ tb (h q) c = true)
def Eqs (S M : tk_ST) : Prop := M.1 1 = S.1 1 ∧ M.1 4 = S.1 2 ∧ M.1 8 = S.1 3 ∧ M.1 9 = S.1 4 ∧ M.1 11 = S.1 5 ∧ M.1 10 = S.1 6 ∧ M.1 6 = S.1 11 ∧ M.1 7 = S.1 12 ∧ M.1 17 = S.1 9 ∧ M.1 15 = S.1 14 ∧ M.1 18 = S.1 15 ∧ M.2.1 0 = S.2.1 0 ∧ M.2.2.1 0 = S.2.2.1 0 ∧ M.2.2.1 3 = S.2.2.1 1 ∧ M.2.2.1 4 = S.2.2.1 2 ∧ M.2.2.1 5 = S.2.2.1 3 ∧ M.2.2.2 0 = S.2.2.2 0
def Ann (S M : tk_ST) : Prop := ∃ b0 b1 : Nat, b0 < 2 ∧ b1 < 2 ∧ S.1 8 = nI (b0 + 2 * b1) ∧ M.2.2.1 2 0 = nI b0 ∧ M.2.2.1 2 1 = nI b1
def Fh (k : Nat) (S M : tk_ST) : Prop := ∃ D : Nat, D ≤ k ∧ M.1 2 = nI D ∧ ((D = 0 ∧ S.1 0 = -1) ∨ (0 < D ∧ S.1 0 = nI ((D - 1) % 4) ∧ M.1 3 = nI ((D - 1) % 4)))
def Par (S : tk_ST) : Prop := S.1 6 = -1 ∨ ∃ q, q < 4 ∧ S.1 6 = nI q ∧ S.1 6 ≠ S.1 3
def Dcl (S : tk_ST) : Prop := S.1 3 = -1 ∨ ∃ d, d < 4 ∧ S.1 3 = nI d
def Kn (S M : tk_ST) : Prop := (S.1 3 ≠ -1 → S.1 1 ≠ 2 → (S.1 4 = -1 ↔ 3 < S.1 11)) ∧ (S.1 5 = -1 ∨ ∃ o, o < 4 ∧ S.1 5 = nI o) ∧ (S.1 4 = -1 ∨ ∃ s, s < 4 ∧ S.1 4 = nI s) ∧ ∀ s o, s < 4 → o < 4 → S.1 4 = nI s → S.1 5 = nI o → M.1 12 = if tb (S.2.2.2 0 o) (8 * s + 7) = true then 0 else 1
def Pil (S M : tk_ST) : Prop := (M.1 14 = 0 ∧ S.2.2.2 1 0 = 0 ∧ S.2.2.2 1 1 = 0 ∧ ∀ p, p < 4 → M.2.2.2 1 p = 0) ∨ (M.1 14 = 1 ∧ S.2.2.2 1 0 = pl (M.2.1 0) (M.2.2.2 1) (S.1 3) (S.1 6) 0 ∧ S.2.2.2 1 1 = pl (M.2.1 1) (M.2.2.2 1) (S.1 3) (S.1 6) 1)
/-- ahead of playing: nothing has begun -/
def Fre (S M : tk_ST) : Prop := M.1 14 = 0 ∧ M.1 12 = 0 ∧ S.1 13 = S.1 0 ∧ S.1 14 = 0 ∧ S.1 9 = 0 ∧ ∃ f, f < 4 ∧ S.1 0 = nI f ∧ M.1 3 = nI f
/-- ahead of taking: the hands and the talon as dealt -/
def HT (S M : tk_ST) : Prop := Row (S.2.2.1 0) ∧ (∀ p, p < 4 → cn (S.2.2.2 0 p) = 12) ∧ S.2.1 1 = orr (S.2.2.1 0) 48 6 ∧ (∀ p, p < 4 → ∀ c, ¬ (tb (S.2.2.2 0 p) c = true ∧ tb (S.2.1 1) c = true)) ∧ M.2.1 1 = 0
def Bid (S M : tk_ST) : Prop := ∃ P t : Nat, P < 16 ∧ t < 4 ∧ S.1 10 = nI P ∧ S.1 2 = nI t ∧ P.testBit t = false ∧ (∀ p, p < 4 → M.2.2.1 1 p = if P.testBit p = true then 1 else 0) ∧ M.1 5 = nI (pc P) ∧ S.1 3 = -1 ∧ S.1 4 = -1 ∧ S.1 5 = -1 ∧ S.1 6 = -1 ∧ ((S.1 11 = 0 ∧ S.1 12 = -1) ∨ ∃ l b, 1 ≤ l ∧ l ≤ 5 ∧ b < 4 ∧ S.1 11 = nI l ∧ S.1 12 = nI b) ∧ HT S M ∧ Fre S M
def Cal (S M : tk_ST) : Prop := ∃ l d : Nat, 1 ≤ l ∧ l ≤ 3 ∧ d < 4 ∧ S.1 11 = nI l ∧ S.1 3 = nI d ∧ S.1 4 = -1 ∧ S.1 5 = -1 ∧ S.1 6 = -1 ∧ HT S M ∧ Fre S M
def Tak (S M : tk_ST) : Prop := ∃ l d : Nat, 1 ≤ l ∧ l ≤ 4 ∧ d < 4 ∧ S.1 11 = nI l ∧ S.1 3 = nI d ∧ HT S M ∧ Fre S M
def Dis (S M : tk_ST) : Prop := ∃ l d t : Nat, 1 ≤ l ∧ l ≤ 4 ∧ d < 4 ∧ S.1 11 = nI l ∧ S.1 3 = nI d ∧ 1 ≤ t ∧ t ≤ 3 ∧ S.1 7 = nI t ∧ M.1 13 = nI t ∧ cn (S.2.2.2 0 d) = 12 + t ∧ (∀ p, p < 4 → p ≠ d → cn (S.2.2.2 0 p) = 12) ∧ M.2.1 1 = S.2.1 1 ∧ Fre S M
def Ply (S M : tk_ST) : Prop := ∃ l d L z T : Nat, 1 ≤ l ∧ l ≤ 5 ∧ d < 4 ∧ L < 4 ∧ z < 4 ∧ T < 12 ∧ S.1 11 = nI l ∧ S.1 3 = nI d ∧ S.1 13 = nI L ∧ M.1 16 = nI L ∧ S.1 14 = nI z ∧ S.1 9 = nI T ∧ S.1 2 = nI ((L + z) % 4) ∧ (∀ p, p < 4 → cn (S.2.2.2 0 p) = 12 - T - (if (p + 4 - L) % 4 < z then 1 else 0)) ∧ M.1 14 = 1 ∧ ∀ k, k < z → ∃ c, c < 54 ∧ S.2.2.1 1 k = nI c
def Phs (S M : tk_ST) : Prop := (S.1 1 = 0 ∧ S.1 2 = -1) ∨ (S.1 1 = 1 ∧ Bid S M) ∨ (S.1 1 = 2 ∧ Cal S M) ∨ (S.1 1 = 3 ∧ Tak S M) ∨ (S.1 1 = 4 ∧ Dis S M) ∨ (S.1 1 = 5 ∧ Ply S M)
def Siz (S : tk_ST) : Prop := ∃ z, z < 4 ∧ S.1 14 = nI z
def Rel (k : Nat) (S M : tk_ST) : Prop := Eqs S M ∧ Ann S M ∧ Fh k S M ∧ Par S ∧ Dcl S ∧ Kn S M ∧ Crd (S.2.2.2 0) ∧ Pil S M ∧ Siz S ∧ Phs S M
theorem Rel.t {k : Nat} {S M : tk_ST} (h : Rel k S M) (v : Int32) : Rel k S (tk_I M 0 v) := h
theorem Rel.mono {k k' : Nat} {S M : tk_ST} (h : Rel k S M) (hk : k ≤ k') : Rel k' S M := by
  obtain ⟨h1, h2, ⟨D, d1, d2⟩, h4⟩ := h
  exact ⟨h1, h2, ⟨D, Nat.le_trans d1 hk, d2⟩, h4⟩
/-- how a call ended on both sides: kk is the hall's kind, a and b what the kinds 1 and 2 of the law are there -/
def Out (e1 kk r b t : Int32) : Prop := (kk = 0 ∧ t = 0 ∧ r = b) ∨ (kk = e1 ∧ t = 1) ∨ (kk = 2 ∧ t = 2)
def OutL (e1 kk : Int32) (r b : Int64) (t : Int32) : Prop := (kk = 0 ∧ t = 0 ∧ r = b) ∨ (kk = e1 ∧ t = 1)
def SimR (e1 : Int32) (k : Nat) (S : tk_ST) (x : Option (Int32 × Int32)) (y : Option (Int32 × tk_ST)) : Prop := ∃ kk r b M', x = some (kk, r) ∧ y = some (b, M') ∧ Rel k S M' ∧ Out e1 kk r b (M'.1 0)
theorem simR_err {e1 : Int32} {k : Nat} {S M : tk_ST} {x : Option (Int32 × Int32)} {y : Option (Int32 × tk_ST)} (h : Rel k S M) {r b : Int32} (hx : x = some (e1, r)) (hy : y = some (b, tk_I M 0 1)) : SimR e1 k S x y := ⟨e1, r, b, _, hx, hy, h.t 1, Or.inr (Or.inl ⟨rfl, rfl⟩)⟩
theorem simR_ok {e1 : Int32} {k : Nat} {S M : tk_ST} {x : Option (Int32 × Int32)} {y : Option (Int32 × tk_ST)} (h : Rel k S M) {r : Int32} (hx : x = some (0, r)) (hy : y = some (r, tk_I M 0 0)) : SimR e1 k S x y := ⟨0, r, r, _, hx, hy, h.t 0, Or.inl ⟨rfl, rfl, rfl⟩⟩
theorem simR_two {e1 : Int32} {k : Nat} {S M : tk_ST} {x : Option (Int32 × Int32)} {y : Option (Int32 × tk_ST)} (h : Rel k S M) {r b : Int32} (hx : x = some (2, r)) (hy : y = some (b, tk_I M 0 2)) : SimR e1 k S x y := ⟨2, r, b, _, hx, hy, h.t 2, Or.inr (Or.inr ⟨rfl, rfl⟩)⟩
/-- the same without the second kind -/
def SimQ (e1 : Int32) (k : Nat) (S : tk_ST) (x : Option (Int32 × Int32)) (y : Option (Int32 × tk_ST)) : Prop := ∃ kk r b M', x = some (kk, r) ∧ y = some (b, M') ∧ Rel k S M' ∧ ((kk = 0 ∧ M'.1 0 = 0 ∧ r = b) ∨ (kk = e1 ∧ M'.1 0 = 1))
theorem simQ_err {e1 : Int32} {k : Nat} {S M : tk_ST} {x : Option (Int32 × Int32)} {y : Option (Int32 × tk_ST)} (h : Rel k S M) {r b : Int32} (hx : x = some (e1, r)) (hy : y = some (b, tk_I M 0 1)) : SimQ e1 k S x y := ⟨e1, r, b, _, hx, hy, h.t 1, Or.inr ⟨rfl, rfl⟩⟩
theorem simQ_ok {e1 : Int32} {k : Nat} {S M : tk_ST} {x : Option (Int32 × Int32)} {y : Option (Int32 × tk_ST)} (h : Rel k S M) {r : Int32} (hx : x = some (0, r)) (hy : y = some (r, tk_I M 0 0)) : SimQ e1 k S x y := ⟨0, r, r, _, hx, hy, h.t 0, Or.inl ⟨rfl, rfl, rfl⟩⟩
theorem n10 : ¬ (1 : Int32) = 0 := by decide
theorem or3 {x : Int32} {n : Nat} (hn : n < 2 ^ 31) : (x < 0 ∨ nI n ≤ x) ∨ ∃ j : Nat, j < n ∧ x = nI j := by
  rcases arg3 n hn x with h | h | h
  · exact Or.inl (Or.inl h)
  · exact Or.inl (Or.inr h)
  · exact Or.inr h
theorem P_hand {k : Nat} {S M : tk_ST} (h : Rel k S M) (p : Int32) : ∃ kk r b M', f_X6_hand p S = some (kk, r) ∧ f_X7_hand p M = some (b, M') ∧ Rel k S M' ∧ OutL 3 kk r b (M'.1 0) := by
  have hE := h.1
  unfold f_X6_hand f_X7_hand f_X7_hand_13
  rcases or3 (n := 4) (by decide) (x := p) with hp | ⟨j, hj, rfl⟩
  · rw [e_playN hp, e_playMN hp, b1s, b1s, if_pos rfl, if_pos rfl, e_fine1, b2s, if_pos rfl]
    exact ⟨_, _, _, _, rfl, rfl, h.t 1, Or.inr ⟨rfl, rfl⟩⟩
  · rw [e_play hj, e_playM hj, b1s, b1s, if_neg n10, if_neg n10, e_fine0, b2s, if_neg n10, if_neg (inR hj (by decide)), cl (by omega), e_at13 hj, b1s]
    exact ⟨_, _, _, _, rfl, rfl, h.t 0, Or.inl ⟨rfl, rfl, by rw [uI4, hE.2.2.2.2.2.2.2.2.2.2.2.2.2.2.2.2]⟩⟩
theorem P_score {k : Nat} {S M : tk_ST} (h : Rel k S M) (p : Int32) : SimQ 3 k S (f_X6_score p S) (f_X7_score p M) := by
  have hE := h.1
  unfold f_X6_score f_X7_score f_X7_score_13
  rcases or3 (n := 4) (by decide) (x := p) with hp | ⟨j, hj, rfl⟩
  · rw [e_playN hp, e_playMN hp, b1s, b1s, if_pos rfl, if_pos rfl, e_fine1, b2s, if_pos rfl]
    exact simQ_err h rfl rfl
  · rw [e_play hj, e_playM hj, b1s, b1s, if_neg n10, if_neg n10, e_fine0, b2s, if_neg n10, if_neg (inR hj (by decide)), cl (by omega), e_at9 hj, b1s, uI3, hE.2.2.2.2.2.2.2.2.2.2.2.2.2.2.1]
    exact simQ_ok h rfl rfl
theorem P_radli {k : Nat} {S M : tk_ST} (h : Rel k S M) (p : Int32) : SimQ 3 k S (f_X6_radli p S) (f_X7_radli p M) := by
  have hE := h.1
  unfold f_X6_radli f_X7_radli f_X7_radli_13
  rcases or3 (n := 4) (by decide) (x := p) with hp | ⟨j, hj, rfl⟩
  · rw [e_playN hp, e_playMN hp, b1s, b1s, if_pos rfl, if_pos rfl, e_fine1, b2s, if_pos rfl]
    exact simQ_err h rfl rfl
  · rw [e_play hj, e_playM hj, b1s, b1s, if_neg n10, if_neg n10, e_fine0, b2s, if_neg n10, if_neg (inR hj (by decide)), cl (by omega), e_at11 hj, b1s, uI3, hE.2.2.2.2.2.2.2.2.2.2.2.2.2.2.2.1]
    exact simQ_ok h rfl rfl
theorem P_valueOf {k : Nat} {S M : tk_ST} (h : Rel k S M) (p : Int32) : SimQ 3 k S (f_X6_valueOf p S) (f_X7_valueOf p M) := by
  unfold f_X6_valueOf f_X7_valueOf f_X7_valueOf_13
  rcases or3 (n := 54) (by decide) (x := p) with hp | ⟨j, hj, rfl⟩
  · rw [e_isCardN hp, e_cardMN hp, b1s, b1s, if_pos rfl, if_pos rfl, e_fine1, b2s, if_pos rfl]
    exact simQ_err h rfl rfl
  · rw [e_isCard hj, e_cardM hj, b1s, b1s, if_neg n10, if_neg n10, e_fine0, b2s, if_neg n10, e_worth j hj, e_worthM j hj, b1s, b1s]
    exact simQ_ok h rfl rfl
theorem P_talonAt {k : Nat} {S M : tk_ST} (hk : k < 1000) (h : Rel k S M) (p : Int32) : SimR 3 k S (f_X6_talonAt p S) (f_X7_talonAt p M) := by
  have hE := h.1
  obtain ⟨D, d1, d2, d3⟩ := h.2.2.1
  unfold f_X6_talonAt f_X6_talonAt_10 f_X7_talonAt f_X7_talonAt_26
  rcases or3 (n := 6) (by decide) (x := p) with hp | ⟨j, hj, rfl⟩
  · rw [show f_X7_isIn p 0 5 = some 0 from e_isInN (hp.imp id (fun h => lt_of_le1 (by decide) h)), b1s, if_pos rfl, e_fine1, b2s, if_pos rfl]
    rcases hp with hp | hp
    · rw [if_pos hp]; exact simR_err h rfl rfl
    · by_cases q : p < 0
      · rw [if_pos q]; exact simR_err h rfl rfl
      · rw [if_neg q, if_neg (show ¬ p < 6 from Int32.not_lt.mpr hp)]; exact simR_err h rfl rfl
  · rw [show f_X7_isIn (nI j) 0 5 = some 1 from e_isIn (a := 0) (b := 5) (by omega) (by omega) (by decide), b1s, if_neg n10, if_neg (nneg (by omega)), if_pos (show nI j < 6 from nI_lt hj (by decide)), d2]
    rcases d3 with ⟨rfl, d4⟩ | ⟨d0, d4, d5⟩
    · rw [if_pos d4, if_pos (show nI 0 = 0 from rfl), e_fine2, b2s, if_pos rfl]; exact simR_two h rfl rfl
    · rw [d4, if_neg (show ¬ nI ((D - 1) % 4) = -1 from fun e => nneg (j := (D - 1) % 4) (by omega) (by rw [e]; decide)), if_neg (show ¬ nI D = 0 from nI_ne0 d0 (by omega)), e_fine0, b2s, if_neg n10]
      unfold f_X1_cardAt f_X7_talon
      rw [show (48 : Int32) + nI j = nI (48 + j) from nI_add 48 j, e_at2 (by omega), b1s, b1s, if_neg (inR (by omega) (by decide)), cl (by omega), b1s, uI3, hE.2.2.2.2.2.2.2.2.2.2.2.2.1]
      exact simR_ok h rfl rfl
theorem P_trickAt {k : Nat} {S M : tk_ST} (h : Rel k S M) (p : Int32) : SimQ 3 k S (f_X6_trickAt p S) (f_X7_trickAt p M) := by
  have hE := h.1
  obtain ⟨z, hz, ez⟩ := h.2.2.2.2.2.2.2.2.1
  unfold f_X6_trickAt f_X6_trickAt_15 f_X7_trickAt f_X7_trickAt_20
  rw [hE.2.2.2.2.2.2.2.2.2.1, ez]
  have e9 : ∀ x : Int32, x < nI z ↔ ¬ (nI z - 1) < x := by
    intro x
    rcases (show z = 0 ∨ z = 1 ∨ z = 2 ∨ z = 3 by omega) with rfl | rfl | rfl | rfl
    all_goals simp only [Int32.lt_iff_toInt_lt]; first | (rw [show (nI 0 - 1).toInt = -1 from by decide, show (nI 0).toInt = 0 from by decide]; omega) | (rw [show (nI 1 - 1).toInt = 0 from by decide, show (nI 1).toInt = 1 from by decide]; omega) | (rw [show (nI 2 - 1).toInt = 1 from by decide, show (nI 2).toInt = 2 from by decide]; omega) | (rw [show (nI 3 - 1).toInt = 2 from by decide, show (nI 3).toInt = 3 from by decide]; omega)
  by_cases h0 : p < 0
  · rw [if_pos h0, e_isInN (Or.inl h0), b1s, if_pos rfl, e_fine1, b2s, if_pos rfl]; exact simQ_err h rfl rfl
  · by_cases h1 : p < nI z
    · rw [if_neg h0, if_pos h1]
      obtain ⟨j, hj, rfl⟩ := nI_of h0
      have hjz : j < z := (nI_ltI hj (by omega)).mp h1
      have e2 : f_X7_isIn (nI j) 0 (nI z - 1) = some 1 := by
        unfold f_X7_isIn
        rw [if_neg h0, if_neg ((e9 _).mp h1)]
      unfold f_X5_cardAt
      rw [e2, b1s, if_neg n10, e_fine0, b2s, if_neg n10, if_neg (inR (show j < 4 by omega) (by decide)), cl hj, e_at6 (by omega), b1s, b1s, uI3, hE.2.2.2.2.2.2.2.2.2.2.2.2.2.1]
      exact simQ_ok h rfl rfl
    · rw [if_neg h0, if_neg h1, e_isInN (Or.inr (Classical.byContradiction fun q => h1 ((e9 _).mpr q))), b1s, if_pos rfl, e_fine1, b2s, if_pos rfl]; exact simQ_err h rfl rfl
