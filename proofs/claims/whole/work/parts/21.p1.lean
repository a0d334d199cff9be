/-! the mirrors' words -/
theorem b1s {α β : Type} (a : α) (k : α → Option β) : tk_b1 (some a) k = k a := rfl
theorem b2s {α σ β : Type} (a : α) (s : σ) (k : α → σ → Option β) : tk_b2 (some (a, s)) k = k a s := rfl
theorem b3s {α σ τ β : Type} (a : α) (s : σ) (t : τ) (k : α → σ → τ → Option β) : tk_b3 (some (a, s, t)) k = k a s t := rfl
theorem up_eq {α : Type} (f : Nat → α) (k : Nat) (v : α) (j : Nat) : tk_up f k v j = if j = k then v else f j := by
  unfold tk_up
  by_cases h : j = k
  · subst h; simp
  · have : Nat.beq j k = false := by
      cases hb : Nat.beq j k with
      | false => rfl
      | true => exact absurd (Nat.eq_of_beq_eq_true hb) h
    simp [h, this]
theorem uI1 (S : tk_ST) (k : Nat) (v : Int32) (j : Nat) : (tk_I S k v).1 j = if j = k then v else S.1 j := up_eq _ _ _ _
theorem uI2 (S : tk_ST) (k : Nat) (v : Int32) : (tk_I S k v).2.1 = S.2.1 := rfl
theorem uI3 (S : tk_ST) (k : Nat) (v : Int32) : (tk_I S k v).2.2.1 = S.2.2.1 := rfl
theorem uI4 (S : tk_ST) (k : Nat) (v : Int32) : (tk_I S k v).2.2.2 = S.2.2.2 := rfl
theorem uL1 (S : tk_ST) (k : Nat) (v : Int64) : (tk_L S k v).1 = S.1 := rfl
theorem uL2 (S : tk_ST) (k : Nat) (v : Int64) (j : Nat) : (tk_L S k v).2.1 j = if j = k then v else S.2.1 j := up_eq _ _ _ _
theorem uL3 (S : tk_ST) (k : Nat) (v : Int64) : (tk_L S k v).2.2.1 = S.2.2.1 := rfl
theorem uL4 (S : tk_ST) (k : Nat) (v : Int64) : (tk_L S k v).2.2.2 = S.2.2.2 := rfl
theorem uA1 (S : tk_ST) (k : Nat) (v : Nat → Int32) : (tk_A S k v).1 = S.1 := rfl
theorem uA2 (S : tk_ST) (k : Nat) (v : Nat → Int32) : (tk_A S k v).2.1 = S.2.1 := rfl
theorem uA3 (S : tk_ST) (k : Nat) (v : Nat → Int32) (j : Nat) : (tk_A S k v).2.2.1 j = if j = k then v else S.2.2.1 j := up_eq _ _ _ _
theorem uA4 (S : tk_ST) (k : Nat) (v : Nat → Int32) : (tk_A S k v).2.2.2 = S.2.2.2 := rfl
theorem uB1 (S : tk_ST) (k : Nat) (v : Nat → Int64) : (tk_B S k v).1 = S.1 := rfl
theorem uB2 (S : tk_ST) (k : Nat) (v : Nat → Int64) : (tk_B S k v).2.1 = S.2.1 := rfl
theorem uB3 (S : tk_ST) (k : Nat) (v : Nat → Int64) : (tk_B S k v).2.2.1 = S.2.2.1 := rfl
theorem uB4 (S : tk_ST) (k : Nat) (v : Nat → Int64) (j : Nat) : (tk_B S k v).2.2.2 j = if j = k then v else S.2.2.2 j := up_eq _ _ _ _
theorem updE (f : Nat → Int32) (k : Nat) (v : Int32) (j : Nat) : upd f k v j = if j = k then v else f j := rfl
theorem updLE (f : Nat → Int64) (k : Nat) (v : Int64) (j : Nat) : vp_updL f k v j = if j = k then v else f j := rfl
/-- an int argument: below 0, from n on, or a number below n -/
theorem arg3 (n : Nat) (hn : n < 2 ^ 31) (x : Int32) : x < 0 ∨ nI n ≤ x ∨ ∃ j : Nat, j < n ∧ x = nI j := pk_ix x hn
theorem inR {j n : Nat} (h : j < n) (hn : n < 2 ^ 31) : ¬ (nI j < 0 ∨ n ≤ (nI j).toNatClampNeg) := vp_in_nI h hn
theorem cl {j : Nat} (h : j < 2 ^ 31) : (nI j).toNatClampNeg = j := nI_clamp h
theorem nneg {j : Nat} (h : j < 2 ^ 31) : ¬ nI j < 0 := nI_pos h
theorem nge {j n : Nat} (h : j < n) (hn : n < 2 ^ 31) : ¬ (OfNat.ofNat n : Int32) ≤ nI j := nI_ge h hn
theorem lit32 (n : Nat) : (OfNat.ofNat n : Int32) = nI n := rfl
/-! cards -/
def su (c : Nat) : Nat := if c < 32 then c / 8 else 4
def wo (c : Nat) : Nat := if c < 32 then (if c % 8 > 3 then c % 8 - 2 else 1) else if c = 32 ∨ 52 ≤ c then 5 else 1
theorem e_holds {h : Int64} {c : Nat} (hc : c < 64) : f_X6_holds h (nI c) = some (if tb h c then 1 else 0) := by
  unfold f_X6_holds
  have h1 : (lg_cmp ((h >>> ((nI c).toInt64 &&& 63)) &&& (1 : Int64)) (1 : Int64)) = 0 ↔ tb h c = true := by
    rw [lg_one, tb_one, tb_shr h hc]
  by_cases q : tb h c = true
  · rw [if_pos (h1.mpr q), if_pos q]
  · rw [if_neg (fun x => q (h1.mp x)), if_neg q]
theorem e_hasEq : f_X7_has = f_X6_holds := rfl
theorem e_has {h : Int64} {c : Nat} (hc : c < 64) : f_X7_has h (nI c) = some (if tb h c then 1 else 0) := e_holds hc
theorem e_only (c : Nat) : f_X6_only (nI c) = some (jb c) := rfl
theorem e_bit (c : Nat) : f_X7_bit (nI c) = some (jb c) := rfl
theorem e_suit : ∀ c, c < 54 → f_X6_suitOf (nI c) = some (nI (su c)) := by decide +kernel
theorem e_suitEq : f_X7_suit = f_X6_suitOf := rfl
theorem e_worth : ∀ c, c < 54 → f_X6_worth (nI c) = some (nI (wo c)) := by decide +kernel
theorem e_worthM : ∀ c, c < 54 → f_X7_worth (nI c) = some (nI (wo c)) := by decide +kernel
theorem e_lay : ∀ c, c < 54 → f_X6_canBeLaidAway (nI c) = some (if wo c < 5 then 1 else 0) := by decide +kernel
theorem e_isCard {c : Nat} (h : c < 54) : f_X6_isCard (nI c) = some 1 := by
  unfold f_X6_isCard
  rw [if_neg (nneg (by omega)), if_neg (nge h (by decide))]
theorem e_isCardN {x : Int32} (h : x < 0 ∨ nI 54 ≤ x) : f_X6_isCard x = some 0 := by
  unfold f_X6_isCard
  rcases h with h | h
  · rw [if_pos h]
  · by_cases q : x < 0
    · rw [if_pos q]
    · rw [if_neg q]; exact if_pos h
theorem e_isIn {a b j : Nat} (h1 : a ≤ j) (h2 : j ≤ b) (hb : b < 2 ^ 31) : f_X7_isIn (nI j) (nI a) (nI b) = some 1 := by
  unfold f_X7_isIn
  rw [if_neg (nI_nlt h1 (by omega)), if_neg (nI_nlt h2 hb)]
theorem e_isInN {x a b : Int32} (h : x < a ∨ b < x) : f_X7_isIn x a b = some 0 := by
  unfold f_X7_isIn
  by_cases q : x < a
  · rw [if_pos q]
  · rw [if_neg q]
    rcases h with h | h
    · exact absurd h q
    · rw [if_pos h]
theorem lt_of_le1 {x : Int32} {n : Nat} (hn : n + 1 < 2 ^ 31) (h : nI (n + 1) ≤ x) : nI n < x := by
  rw [Int32.le_iff_toInt_le, nI_toInt hn] at h
  rw [Int32.lt_iff_toInt_lt, nI_toInt (by omega)]
  omega
theorem e_fine0 (M : tk_ST) : f_X7_isFine 0 M = some (1, tk_I M 0 0) := rfl
theorem e_fine1 (M : tk_ST) : f_X7_isFine 1 M = some (0, tk_I M 0 1) := rfl
theorem e_fine2 (M : tk_ST) : f_X7_isFine 2 M = some (0, tk_I M 0 2) := rfl
theorem e_cardM {c : Nat} (h : c < 54) : f_X7_isCard (nI c) = some 1 := by
  unfold f_X7_isCard
  rw [show f_X7_isIn (nI c) 0 53 = some 1 from e_isIn (a := 0) (b := 53) (by omega) (by omega) (by decide)]
  rfl
theorem e_cardMN {x : Int32} (h : x < 0 ∨ nI 54 ≤ x) : f_X7_isCard x = some 0 := by
  unfold f_X7_isCard
  rw [show f_X7_isIn x 0 53 = some 0 from e_isInN (h.imp id (fun h => lt_of_le1 (by decide) h))]
  rfl
theorem e_playM {c : Nat} (h : c < 4) : f_X7_isPlayer (nI c) = some 1 := by
  unfold f_X7_isPlayer
  rw [show f_X7_isIn (nI c) 0 3 = some 1 from e_isIn (a := 0) (b := 3) (by omega) (by omega) (by decide)]
  rfl
theorem e_playMN {x : Int32} (h : x < 0 ∨ nI 4 ≤ x) : f_X7_isPlayer x = some 0 := by
  unfold f_X7_isPlayer
  rw [show f_X7_isIn x 0 3 = some 0 from e_isInN (h.imp id (fun h => lt_of_le1 (by decide) h))]
  rfl
theorem e_play {c : Nat} (h : c < 4) : f_X6_isPlayer (nI c) = some 1 := by
  unfold f_X6_isPlayer
  rw [if_neg (nneg (by omega)), if_neg (nge h (by decide))]
theorem e_playN {x : Int32} (h : x < 0 ∨ nI 4 ≤ x) : f_X6_isPlayer x = some 0 := by
  unfold f_X6_isPlayer
  rcases h with h | h
  · rw [if_pos h]
  · by_cases q : x < 0
    · rw [if_pos q]
    · rw [if_neg q]; exact if_pos h
/-! rows and sets of the hall -/
theorem e_at2 {j : Nat} (h : j < 54) (S : tk_ST) : f_X2_at_p2 (nI j) S = some (S.2.2.1 0 j) := by
  unfold f_X2_at_p2
  rw [if_neg (nneg (by omega)), if_neg (nge h (by decide)), if_neg (inR h (by decide)), cl (by omega)]
theorem e_at6 {j : Nat} (h : j < 4) (S : tk_ST) : f_X2_at_p6 (nI j) S = some (S.2.2.1 1 j) := by
  unfold f_X2_at_p6
  rw [if_neg (nneg (by omega)), if_neg (nge h (by decide)), if_neg (inR h (by decide)), cl (by omega)]
theorem e_at9 {j : Nat} (h : j < 4) (S : tk_ST) : f_X2_at_p9 (nI j) S = some (S.2.2.1 2 j) := by
  unfold f_X2_at_p9
  rw [if_neg (nneg (by omega)), if_neg (nge h (by decide)), if_neg (inR h (by decide)), cl (by omega)]
theorem e_at11 {j : Nat} (h : j < 4) (S : tk_ST) : f_X2_at_p11 (nI j) S = some (S.2.2.1 3 j) := by
  unfold f_X2_at_p11
  rw [if_neg (nneg (by omega)), if_neg (nge h (by decide)), if_neg (inR h (by decide)), cl (by omega)]
theorem e_at13 {j : Nat} (h : j < 4) (S : tk_ST) : f_X3_at_p13 (nI j) S = some (S.2.2.2 0 j) := by
  unfold f_X3_at_p13
  rw [if_neg (nneg (by omega)), if_neg (nge h (by decide)), if_neg (inR h (by decide)), cl (by omega)]
theorem e_at15 {j : Nat} (h : j < 2) (S : tk_ST) : f_X3_at_p15 (nI j) S = some (S.2.2.2 1 j) := by
  unfold f_X3_at_p15
  rw [if_neg (nneg (by omega)), if_neg (nge h (by decide)), if_neg (inR h (by decide)), cl (by omega)]
theorem e_put2 {j : Nat} (h : j < 54) (v : Int32) (S : tk_ST) : f_X2_put_p2 (nI j) v S = some (tk_A S 0 (upd (S.2.2.1 0) j v)) := by
  unfold f_X2_put_p2
  rw [if_neg (nneg (by omega)), if_neg (nge h (by decide)), if_neg (inR h (by decide)), cl (by omega)]
  rfl
theorem e_put6 {j : Nat} (h : j < 4) (v : Int32) (S : tk_ST) : f_X2_put_p6 (nI j) v S = some (tk_A S 1 (upd (S.2.2.1 1) j v)) := by
  unfold f_X2_put_p6
  rw [if_neg (nneg (by omega)), if_neg (nge h (by decide)), if_neg (inR h (by decide)), cl (by omega)]
  rfl
theorem e_put9 {j : Nat} (h : j < 4) (v : Int32) (S : tk_ST) : f_X2_put_p9 (nI j) v S = some (tk_A S 2 (upd (S.2.2.1 2) j v)) := by
  unfold f_X2_put_p9
  rw [if_neg (nneg (by omega)), if_neg (nge h (by decide)), if_neg (inR h (by decide)), cl (by omega)]
  rfl
theorem e_put11 {j : Nat} (h : j < 4) (v : Int32) (S : tk_ST) : f_X2_put_p11 (nI j) v S = some (tk_A S 3 (upd (S.2.2.1 3) j v)) := by
  unfold f_X2_put_p11
  rw [if_neg (nneg (by omega)), if_neg (nge h (by decide)), if_neg (inR h (by decide)), cl (by omega)]
  rfl
theorem e_put13 {j : Nat} (h : j < 4) (v : Int64) (S : tk_ST) : f_X3_put_p13 (nI j) v S = some (tk_B S 0 (vp_updL (S.2.2.2 0) j v)) := by
  unfold f_X3_put_p13
  rw [if_neg (nneg (by omega)), if_neg (nge h (by decide)), if_neg (inR h (by decide)), cl (by omega)]
  rfl
theorem e_put15 {j : Nat} (h : j < 2) (v : Int64) (S : tk_ST) : f_X3_put_p15 (nI j) v S = some (tk_B S 1 (vp_updL (S.2.2.2 1) j v)) := by
  unfold f_X3_put_p15
  rw [if_neg (nneg (by omega)), if_neg (nge h (by decide)), if_neg (inR h (by decide)), cl (by omega)]
  rfl
theorem e_rem {a d : Nat} (ha : a < 2 ^ 31) (h0 : 0 < d) (hd : d < 2 ^ 31) : tk_rem (nI a) (nI d) = nI (a % d) := pk_rem ha h0 hd
theorem e_behind {j : Nat} (h : j < 4) : f_X6_behind (nI j) = some (nI ((j + 1) % 4)) := by
  unfold f_X6_behind
  rw [show nI j + 1 = nI (j + 1) from nI_1 j, show (4 : Int32) = nI 4 from rfl, e_rem (by omega) (by decide) (by decide)]
def sd (p d q : Int32) : Int32 := if p = d then 0 else if p = q then 0 else 1
theorem e_side (p : Int32) (S : tk_ST) : f_X6_sideOf p S = some (sd p (S.1 3) (S.1 6)) := by
  unfold f_X6_sideOf f_X6_sideOf_16 sd
  by_cases h : p = S.1 3
  · rw [if_pos h, if_pos h]
  · rw [if_neg h, if_neg h]
    by_cases h : p = S.1 6
    · rw [if_pos h, if_pos h]
    · rw [if_neg h, if_neg h]

theorem e_sideM (p : Int32) (S M : tk_ST) (hp : ¬ p = -1) (h1 : M.1 8 = S.1 3) (h2 : M.1 10 = S.1 6) : f_X7_sideOf p M = some (sd p (S.1 3) (S.1 6)) := by
  unfold f_X7_sideOf f_X7_sideOf_24 sd
  rw [h1, h2]
  by_cases h : p = S.1 3
  · rw [if_pos h, if_pos h]
  · rw [if_neg h, if_neg h]
    by_cases h : p = S.1 6
    · rw [if_pos h, if_pos h, if_neg (fun e => hp (h.trans e))]
    · rw [if_neg h, if_neg h]
/-- what a side has, as the reference reads it -/
def plT (w : Nat → Int64) (d q : Int32) (s : Int32) (j : Nat) : Int64 := if sd (nI j) d q = s then w j else 0
def pl (b : Int64) (w : Nat → Int64) (d q : Int32) (s : Int32) : Int64 := (((b ||| plT w d q s 0) ||| plT w d q s 1) ||| plT w d q s 2) ||| plT w d q s 3
theorem e_cards19 (S M : tk_ST) (h1 : M.1 8 = S.1 3) (h2 : M.1 10 = S.1 6) (n j : Nat) (hj : j < 4) (s : Int32) (x : Int64) : f_X7_cardsOf_19 (n + 1) s x (nI j) M = f_X7_cardsOf_19 n s (x ||| plT (M.2.2.2 1) (S.1 3) (S.1 6) s j) (nI (j + 1)) M := by
  rw [f_X7_cardsOf_19_s, if_neg (nge hj (by decide)), e_sideM (nI j) S M (fun e => nneg (j := j) (by omega) (by rw [e]; decide)) h1 h2, b1s]
  unfold plT f_X7_cardsOf_47
  by_cases h : sd (nI j) (S.1 3) (S.1 6) = s
  · rw [if_pos h, if_pos h, if_neg (inR hj (by decide)), cl (by omega), nI_1]
  · rw [if_neg h, if_neg h, nI_1]
theorem e_cards (S M : tk_ST) (h1 : M.1 8 = S.1 3) (h2 : M.1 10 = S.1 6) (s : Nat) (hs : s < 2) : f_X7_cardsOf (nI s) M = some (if M.1 14 = 0 then 0 else pl (if s = 0 then M.2.1 0 else M.2.1 1) (M.2.2.2 1) (S.1 3) (S.1 6) (nI s)) := by
  unfold f_X7_cardsOf f_X7_cardsOf_15
  have key : ∀ x : Int64, f_X7_cardsOf_19 64 (nI s) x 0 M = some (if M.1 14 = 0 then 0 else pl x (M.2.2.2 1) (S.1 3) (S.1 6) (nI s)) := by
    intro x
    show f_X7_cardsOf_19 (63 + 1) (nI s) x (nI 0) M = _
    rw [e_cards19 S M h1 h2 63 0 (by decide), e_cards19 S M h1 h2 62 1 (by decide), e_cards19 S M h1 h2 61 2 (by decide), e_cards19 S M h1 h2 60 3 (by decide), f_X7_cardsOf_19_s]
    rw [if_pos (show (4 : Int32) ≤ nI (3 + 1) by decide)]
    unfold pl
    by_cases h : M.1 14 = 0
    · rw [if_pos h, if_pos h]
    · rw [if_neg h, if_neg h]
  rcases (show s = 0 ∨ s = 1 by omega) with rfl | rfl
  · rw [if_pos (show nI 0 = 0 from rfl), key]; rfl
  · rw [if_neg (show ¬ nI 1 = 0 by decide), key]; rfl
