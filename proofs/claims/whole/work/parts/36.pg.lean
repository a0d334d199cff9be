/-! the trick: who takes it, who played a card -/
def bt (a b : Nat) : Bool := if su a = su b then decide (b < a) else decide (su a = 4)
def wst (kc : Nat → Nat) (b i : Nat) : Nat := if bt (kc i) (kc b) = true then i else b
def bst (kc : Nat → Nat) : Nat := wst kc (wst kc (wst kc 0 1) 2) 3
def Trk (f : Nat → Int32) (kc : Nat → Nat) : Prop := ∀ i, i < 4 → kc i < 54 ∧ f i = nI (kc i)
theorem wst_lt (kc : Nat → Nat) {b i : Nat} (hb : b < 4) (hi : i < 4) : wst kc b i < 4 := by unfold wst; split <;> assumption
theorem bst_lt (kc : Nat → Nat) : bst kc < 4 := wst_lt kc (wst_lt kc (wst_lt kc (by omega) (by omega)) (by omega)) (by omega)
theorem e_beats {a b : Nat} (ha : a < 54) (hb : b < 54) : f_X5_beats (nI a) (nI b) = some (if bt a b = true then 1 else 0) := by
  have s1 := su_lt a ha
  have s2 := su_lt b hb
  unfold f_X5_beats f_X5_beats_16 bt
  rw [e_suit a ha, b1s, e_suit b hb, b1s]
  by_cases q : su a = su b
  · rw [if_pos (show nI (su a) = nI (su b) by rw [q]), if_neg n10, if_pos q]
    by_cases r : b < a
    · rw [if_neg (nI_ge r (by omega)), if_pos (decide_eq_true r)]
    · rw [if_pos (nI_le (by omega) (by omega)), if_neg (by rw [decide_eq_true_iff]; exact r)]
  · rw [if_neg (fun e => q ((nI_eq (by omega) (by omega)).mp e)), if_pos rfl, b1s, if_neg q]
    by_cases r : su a = 4
    · rw [if_pos (show nI (su a) = 4 by rw [r]; rfl), if_pos (decide_eq_true r)]
    · rw [if_neg (show ¬ nI (su a) = 4 from fun e => r ((nI_eq (b := 4) (by omega) (by decide)).mp e)), if_neg (by rw [decide_eq_true_iff]; exact r)]
theorem L_win {S : tk_ST} {kc : Nat → Nat} (hk : Trk (S.2.2.1 1) kc) (e : S.1 14 = nI 4) (n : Nat) {b i : Nat} (hb : b < 4) (hi : i < 4) : f_X5_winner_4 (n + 1) (nI b) (nI i) S = f_X5_winner_4 n (nI (wst kc b i)) (nI (i + 1)) S := by
  rw [f_X5_winner_4_s, e, if_neg (nI_ge hi (by decide)), e_at6 hi, b1s, e_at6 hb, b1s, (hk i hi).2, (hk b hb).2, e_beats (hk i hi).1 (hk b hb).1, b1s]
  unfold f_X5_winner_36 wst
  rw [nI_1]
  by_cases q : bt (kc i) (kc b) = true
  · rw [if_pos q, if_neg n10, if_pos q]
  · rw [if_neg q, if_pos rfl, if_neg q]
theorem e_plAt {S : tk_ST} {L b : Nat} (hL : L < 4) (hb : b < 4) (e : S.1 13 = nI L) : f_X5_playerAt (nI b) S = some (nI ((L + b) % 4)) := by
  unfold f_X5_playerAt
  rw [e, nI_add, show (4 : Int32) = nI 4 from rfl, e_rem (by omega) (by decide) (by decide)]
theorem e_win {S : tk_ST} {kc : Nat → Nat} {L : Nat} (hL : L < 4) (eL : S.1 13 = nI L) (hk : Trk (S.2.2.1 1) kc) (e : S.1 14 = nI 4) : f_X5_winner S = some (nI ((L + bst kc) % 4)) := by
  unfold f_X5_winner
  show f_X5_winner_4 (63 + 1) (nI 0) (nI 1) S = _
  rw [L_win hk e 63 (by omega) (by omega), L_win hk e 62 (wst_lt kc (by omega) (by omega)) (by omega), L_win hk e 61 (wst_lt kc (wst_lt kc (by omega) (by omega)) (by omega)) (by omega), f_X5_winner_4_s, e, if_pos (show nI 4 ≤ nI (3 + 1) by decide), show wst kc (wst kc (wst kc 0 1) (1 + 1)) (1 + 1 + 1) = bst kc from rfl, e_plAt hL (bst_lt kc) eL]
  rfl
theorem L_best {S : tk_ST} {kc : Nat → Nat} (hk : Trk (S.2.2.1 3) kc) (e : S.1 15 = nI 4) (n : Nat) {b i : Nat} (hb : b < 4) (hi : i < 4) : f_X7_best_4 (n + 1) (nI b) (nI i) S = f_X7_best_4 n (nI (wst kc b i)) (nI (i + 1)) S := by
  have s1 := su_lt _ (hk i hi).1
  have s2 := su_lt _ (hk b hb).1
  have b1 := (hk i hi).1
  have b2 := (hk b hb).1
  rw [f_X7_best_4_s, e, if_neg (nI_ge hi (by decide)), if_neg (inR hi (by decide)), cl (by omega), (hk i hi).2, e_suitEq, e_suit _ b1, b1s, if_neg (inR hb (by decide)), cl (by omega), (hk b hb).2, e_suit _ b2, b1s]
  unfold f_X7_best_74 f_X7_best_84 wst bt
  rw [nI_1, if_neg (inR2 hi (by omega)), if_neg (inR2 hb (by omega)), if_neg (inR2 hi (by omega)), b1s]
  by_cases q : su (kc i) = su (kc b)
  · rw [if_pos (show nI (su (kc i)) = nI (su (kc b)) by rw [q]), if_pos q]
    by_cases r : kc b < kc i
    · rw [if_neg (nI_ge r (by omega)), if_neg n10, if_pos (decide_eq_true r)]
    · rw [if_pos (nI_le (by omega) (by omega)), if_pos rfl, if_neg (by rw [decide_eq_true_iff]; exact r)]
  · rw [if_neg (fun e => q ((nI_eq (by omega) (by omega)).mp e)), if_neg q]
    by_cases r : su (kc i) = 4
    · rw [if_pos (show nI (su (kc i)) = 4 by rw [r]; rfl), if_neg n10, if_pos (decide_eq_true r)]
    · rw [if_neg (show ¬ nI (su (kc i)) = 4 from fun e => r ((nI_eq (b := 4) (by omega) (by decide)).mp e)), if_pos rfl, if_neg (by rw [decide_eq_true_iff]; exact r)]
theorem e_best {S : tk_ST} {kc : Nat → Nat} (hk : Trk (S.2.2.1 3) kc) (e : S.1 15 = nI 4) : f_X7_best S = some (nI (bst kc)) := by
  unfold f_X7_best
  show f_X7_best_4 (63 + 1) (nI 0) (nI 1) S = _
  rw [L_best hk e 63 (by omega) (by omega), L_best hk e 62 (wst_lt kc (by omega) (by omega)) (by omega), L_best hk e 61 (wst_lt kc (wst_lt kc (by omega) (by omega)) (by omega)) (by omega), f_X7_best_4_s, e, if_pos (show nI 4 ≤ nI (3 + 1) by decide)]
  rfl
def fnd (kc : Nat → Nat) (c : Nat) : Nat := if kc 0 = c then 0 else if kc 1 = c then 1 else if kc 2 = c then 2 else if kc 3 = c then 3 else 4
theorem L_plOf {S : tk_ST} {kc : Nat → Nat} {L : Nat} (hL : L < 4) (eL : S.1 13 = nI L) (hk : Trk (S.2.2.1 1) kc) (e : S.1 14 = nI 4) {c : Nat} (hc : c < 54) (n : Nat) {i : Nat} (hi : i < 4) : f_X5_playerOf_2 (n + 1) (nI c) (nI i) S = if kc i = c then some (nI ((L + i) % 4)) else f_X5_playerOf_2 n (nI c) (nI (i + 1)) S := by
  have := (hk i hi).1
  rw [f_X5_playerOf_2_s, e, if_neg (nI_ge hi (by decide)), e_at6 hi, b1s, (hk i hi).2, e_plAt hL hi eL, b1s, nI_1]
  by_cases q : kc i = c
  · rw [if_pos (show nI (kc i) = nI c by rw [q]), if_pos q]
  · rw [if_neg (fun e => q ((nI_eq (by omega) (by omega)).mp e)), if_neg q]
theorem e_plOf {S : tk_ST} {kc : Nat → Nat} {L : Nat} (hL : L < 4) (eL : S.1 13 = nI L) (hk : Trk (S.2.2.1 1) kc) (e : S.1 14 = nI 4) {c : Nat} (hc : c < 54) : f_X5_playerOf (nI c) S = some (if fnd kc c < 4 then nI ((L + fnd kc c) % 4) else -1) := by
  unfold f_X5_playerOf fnd
  show f_X5_playerOf_2 (63 + 1) (nI c) (nI 0) S = _
  rw [L_plOf hL eL hk e hc 63 (by omega)]
  by_cases q0 : kc 0 = c
  · rw [if_pos q0, if_pos q0, if_pos (by omega)]
  · rw [if_neg q0, if_neg q0, L_plOf hL eL hk e hc 62 (by omega)]
    by_cases q1 : kc (0 + 1) = c
    · rw [if_pos q1, if_pos (show kc 1 = c from q1), if_pos (by omega)]
    · rw [if_neg q1, if_neg (show ¬ kc 1 = c from q1), L_plOf hL eL hk e hc 61 (by omega)]
      by_cases q2 : kc (0 + 1 + 1) = c
      · rw [if_pos q2, if_pos (show kc 2 = c from q2), if_pos (by omega)]
      · rw [if_neg q2, if_neg (show ¬ kc 2 = c from q2), L_plOf hL eL hk e hc 60 (by omega)]
        by_cases q3 : kc (0 + 1 + 1 + 1) = c
        · rw [if_pos q3, if_pos (show kc 3 = c from q3), if_pos (by omega)]
        · rw [if_neg q3, if_neg (show ¬ kc 3 = c from q3), if_neg (by omega), f_X5_playerOf_2_s, e, if_pos (show nI 4 ≤ nI (3 + 1) by decide)]
theorem L_place {S : tk_ST} {kc : Nat → Nat} (hk : Trk (S.2.2.1 3) kc) (e : S.1 15 = nI 4) {c : Nat} (hc : c < 54) (n : Nat) {i : Nat} (hi : i < 4) : f_X7_placeOf_2 (n + 1) (nI c) (nI i) S = if kc i = c then some (nI i) else f_X7_placeOf_2 n (nI c) (nI (i + 1)) S := by
  have := (hk i hi).1
  rw [f_X7_placeOf_2_s, e, if_neg (nI_ge hi (by decide)), if_neg (inR hi (by decide)), cl (by omega), (hk i hi).2, nI_1]
  by_cases q : kc i = c
  · rw [if_pos (show nI (kc i) = nI c by rw [q]), if_pos q]
  · rw [if_neg (fun e => q ((nI_eq (by omega) (by omega)).mp e)), if_neg q]
theorem e_place {S : tk_ST} {kc : Nat → Nat} (hk : Trk (S.2.2.1 3) kc) (e : S.1 15 = nI 4) {c : Nat} (hc : c < 54) : f_X7_placeOf (nI c) S = some (if fnd kc c < 4 then nI (fnd kc c) else -1) := by
  unfold f_X7_placeOf fnd
  show f_X7_placeOf_2 (63 + 1) (nI c) (nI 0) S = _
  rw [L_place hk e hc 63 (by omega)]
  by_cases q0 : kc 0 = c
  · rw [if_pos q0, if_pos q0, if_pos (by omega)]
  · rw [if_neg q0, if_neg q0, L_place hk e hc 62 (by omega)]
    by_cases q1 : kc (0 + 1) = c
    · rw [if_pos q1, if_pos (show kc 1 = c from q1), if_pos (by omega)]
    · rw [if_neg q1, if_neg (show ¬ kc 1 = c from q1), L_place hk e hc 61 (by omega)]
      by_cases q2 : kc (0 + 1 + 1) = c
      · rw [if_pos q2, if_pos (show kc 2 = c from q2), if_pos (by omega)]
      · rw [if_neg q2, if_neg (show ¬ kc 2 = c from q2), L_place hk e hc 60 (by omega)]
        by_cases q3 : kc (0 + 1 + 1 + 1) = c
        · rw [if_pos q3, if_pos (show kc 3 = c from q3), if_pos (by omega)]
        · rw [if_neg q3, if_neg (show ¬ kc 3 = c from q3), if_neg (by omega), f_X7_placeOf_2_s, e, if_pos (show nI 4 ≤ nI (3 + 1) by decide)]
theorem L_set {S : tk_ST} (e : S.1 14 = nI 4) (n : Nat) {x : Int64} {i : Nat} (hi : i < 4) : f_X5_cardSet_4 (n + 1) x (nI i) S = f_X5_cardSet_4 n (x ||| jbI (S.2.2.1 1 i)) (nI (i + 1)) S := by
  rw [f_X5_cardSet_4_s, e, if_neg (nI_ge hi (by decide)), e_at6 hi, b1s, nI_1]; rfl
theorem e_set {S : tk_ST} (e : S.1 14 = nI 4) : f_X5_cardSet S = some (orr (S.2.2.1 1) 0 4) := by
  unfold f_X5_cardSet
  show f_X5_cardSet_4 (63 + 1) 0 (nI 0) S = _
  rw [L_set e 63 (by omega), L_set e 62 (by omega), L_set e 61 (by omega), L_set e 60 (by omega), f_X5_cardSet_4_s, e, if_pos (show nI 4 ≤ nI (3 + 1) by decide)]
  rfl
