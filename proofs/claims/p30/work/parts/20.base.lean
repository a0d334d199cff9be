def tb (x : Int64) (c : Nat) : Bool := x.toBitVec.getLsbD c
def jb (c : Nat) : Int64 := (1 : Int64) <<< ((nI c).toInt64 &&& 63)
theorem jb_bv : ∀ c, c < 64 → (jb c).toBitVec = BitVec.twoPow 64 c := by decide +kernel
theorem jb_sm : ∀ c, c < 64 → (((nI c).toInt64 &&& 63).toBitVec.smod 64).toNat = c := by decide +kernel
theorem tb_big {x : Int64} {c : Nat} (h : 64 ≤ c) : tb x c = false := BitVec.getLsbD_of_ge _ _ h
theorem tb_or (x y : Int64) (c : Nat) : tb (x ||| y) c = (tb x c || tb y c) := by
  simp [tb, Int64.toBitVec_or]
theorem tb_zero (c : Nat) : tb 0 c = false := by
  simp [tb]
theorem tb_m1 {c : Nat} (h : c < 64) : tb (-1) c = true := by
  have e : (-1 : Int64).toBitVec = BitVec.allOnes 64 := by decide
  show (-1 : Int64).toBitVec.getLsbD c = true
  rw [e, BitVec.getLsbD_allOnes]
  exact decide_eq_true h
theorem tb_andn (x y : Int64) (c : Nat) : tb (x &&& (y ^^^ (-1))) c = (tb x c && !tb y c) := by
  by_cases h : c < 64
  · have e := tb_m1 h
    simp only [tb] at e ⊢
    rw [Int64.toBitVec_and, Int64.toBitVec_xor, BitVec.getLsbD_and, BitVec.getLsbD_xor, e, Bool.xor_true]
  · rw [tb_big (by omega), tb_big (by omega), Bool.false_and]
theorem tb_jb {c : Nat} (hc : c < 64) (d : Nat) : tb (jb c) d = decide (c = d) := by
  simp only [tb, jb_bv c hc, BitVec.getLsbD_twoPow]
  by_cases h : c = d
  · subst h; simp [hc]
  · simp [h]
theorem tb_ext {x y : Int64} (h : ∀ c, c < 64 → tb x c = tb y c) : x = y := by
  apply Int64.toBitVec_inj.mp
  apply BitVec.eq_of_getLsbD_eq
  intro i hi
  exact h i hi
theorem tb_sub {x : Int64} {c : Nat} (hc : c < 64) (h : tb x c = true) : x - jb c = x &&& (jb c ^^^ (-1)) := by
  have e1 : (x &&& (jb c ^^^ (-1))) + jb c = x := by
    have e2 : ((x &&& (jb c ^^^ (-1))) + jb c).toBitVec = ((x &&& (jb c ^^^ (-1))) ||| jb c).toBitVec := by
      rw [Int64.toBitVec_add, Int64.toBitVec_or]
      apply BitVec.add_eq_or_of_and_eq_zero
      apply BitVec.eq_of_getLsbD_eq
      intro i hi
      have h1 := tb_andn x (jb c) i
      have h2 := tb_jb hc i
      simp only [tb] at h1 h2
      rw [BitVec.getLsbD_and, h1, h2]
      simp
    rw [Int64.toBitVec_inj.mp e2]
    apply tb_ext
    intro d hd
    rw [tb_or, tb_andn, tb_jb hc]
    by_cases e : c = d
    · subst e; simp [h]
    · simp [e]
  calc x - jb c = ((x &&& (jb c ^^^ (-1))) + jb c) - jb c := by rw [e1]
    _ = x &&& (jb c ^^^ (-1)) := Int64.add_sub_cancel _ _
theorem tb_one (y : Int64) : (y &&& 1 = 1) ↔ tb y 0 = true := by
  constructor
  · intro h
    have := congrArg (fun z => tb z 0) h
    simp [tb] at this ⊢
    exact this
  · intro h
    apply tb_ext
    intro d hd
    have e : tb (1 : Int64) d = decide (0 = d) := by
      have : (1 : Int64) = jb 0 := by decide
      rw [this, tb_jb (by decide)]
    have e2 : tb (y &&& 1) d = (tb y d && tb 1 d) := by simp [tb, Int64.toBitVec_and]
    rw [e2, e]
    by_cases q : 0 = d
    · subst q; simp [h]
    · simp [q]
theorem tb_shr (x : Int64) {c : Nat} (hc : c < 64) : tb (x >>> ((nI c).toInt64 &&& 63)) 0 = tb x c := by
  simp only [tb, Int64.toBitVec_shiftRight, BitVec.sshiftRight']
  rw [jb_sm c hc, BitVec.getLsbD_sshiftRight]
  simp [hc]
theorem lg_one (y : Int64) : lg_cmp y 1 = 0 ↔ y = 1 := by
  unfold lg_cmp
  by_cases h : y > 1
  · have : y ≠ 1 := by intro e; subst e; exact absurd h (Int64.lt_irrefl)
    simp [h, this]
  · by_cases e : y = 1
    · simp [e]
    · simp [h, e]
theorem b1s {α β : Type} (a : α) (k : α → Option β) : tk_b1 (some a) k = k a := rfl
theorem b2s {α σ β : Type} (a : α) (s : σ) (k : α → σ → Option β) : tk_b2 (some (a, s)) k = k a s := rfl
theorem b3s {α σ τ β : Type} (a : α) (s : σ) (t : τ) (k : α → σ → τ → Option β) : tk_b3 (some (a, s, t)) k = k a s t := rfl
theorem up_eq {α : Type} (f : Nat → α) (k : Nat) (v : α) (j : Nat) : tk_up f k v j = if j = k then v else f j := by
  unfold tk_up
  by_cases h : j = k
  · subst h; simp
  · have : Nat.beq j k = false := by
      cases hb : Nat.beq j k with
      | false => rfl
      | true => exact absurd (Nat.eq_of_beq_eq_true hb) h
    simp [h, this]
theorem uI1 (S : tk_ST) (k : Nat) (v : Int32) (j : Nat) : (tk_I S k v).1 j = if j = k then v else S.1 j := up_eq _ _ _ _
theorem uI2 (S : tk_ST) (k : Nat) (v : Int32) : (tk_I S k v).2.1 = S.2.1 := rfl
theorem uI3 (S : tk_ST) (k : Nat) (v : Int32) : (tk_I S k v).2.2.1 = S.2.2.1 := rfl
theorem uI4 (S : tk_ST) (k : Nat) (v : Int32) : (tk_I S k v).2.2.2 = S.2.2.2 := rfl
theorem uL1 (S : tk_ST) (k : Nat) (v : Int64) : (tk_L S k v).1 = S.1 := rfl
theorem uL2 (S : tk_ST) (k : Nat) (v : Int64) (j : Nat) : (tk_L S k v).2.1 j = if j = k then v else S.2.1 j := up_eq _ _ _ _
theorem uL3 (S : tk_ST) (k : Nat) (v : Int64) : (tk_L S k v).2.2.1 = S.2.2.1 := rfl
theorem uL4 (S : tk_ST) (k : Nat) (v : Int64) : (tk_L S k v).2.2.2 = S.2.2.2 := rfl
theorem uA1 (S : tk_ST) (k : Nat) (v : Nat → Int32) : (tk_A S k v).1 = S.1 := rfl
theorem uA2 (S : tk_ST) (k : Nat) (v : Nat → Int32) : (tk_A S k v).2.1 = S.2.1 := rfl
theorem uA3 (S : tk_ST) (k : Nat) (v : Nat → Int32) (j : Nat) : (tk_A S k v).2.2.1 j = if j = k then v else S.2.2.1 j := up_eq _ _ _ _
theorem uA4 (S : tk_ST) (k : Nat) (v : Nat → Int32) : (tk_A S k v).2.2.2 = S.2.2.2 := rfl
theorem uB1 (S : tk_ST) (k : Nat) (v : Nat → Int64) : (tk_B S k v).1 = S.1 := rfl
theorem uB2 (S : tk_ST) (k : Nat) (v : Nat → Int64) : (tk_B S k v).2.1 = S.2.1 := rfl
theorem uB3 (S : tk_ST) (k : Nat) (v : Nat → Int64) : (tk_B S k v).2.2.1 = S.2.2.1 := rfl
theorem uB4 (S : tk_ST) (k : Nat) (v : Nat → Int64) (j : Nat) : (tk_B S k v).2.2.2 j = if j = k then v else S.2.2.2 j := up_eq _ _ _ _
theorem updE (f : Nat → Int32) (k : Nat) (v : Int32) (j : Nat) : upd f k v j = if j = k then v else f j := rfl
theorem updLE (f : Nat → Int64) (k : Nat) (v : Int64) (j : Nat) : vp_updL f k v j = if j = k then v else f j := rfl
/-- an int argument: below 0, from n on, or a number below n -/
theorem arg3 (n : Nat) (hn : n < 2 ^ 31) (x : Int32) : x < 0 ∨ nI n ≤ x ∨ ∃ j : Nat, j < n ∧ x = nI j := pk_ix x hn
theorem inR {j n : Nat} (h : j < n) (hn : n < 2 ^ 31) : ¬ (nI j < 0 ∨ n ≤ (nI j).toNatClampNeg) := vp_in_nI h hn
theorem cl {j : Nat} (h : j < 2 ^ 31) : (nI j).toNatClampNeg = j := nI_clamp h
theorem nneg {j : Nat} (h : j < 2 ^ 31) : ¬ nI j < 0 := nI_pos h
theorem nge {j n : Nat} (h : j < n) (hn : n < 2 ^ 31) : ¬ (OfNat.ofNat n : Int32) ≤ nI j := nI_ge h hn
theorem lit32 (n : Nat) : (OfNat.ofNat n : Int32) = nI n := rfl
def su (c : Nat) : Nat := if c < 32 then c / 8 else 4
def wo (c : Nat) : Nat := if c < 32 then (if c % 8 > 3 then c % 8 - 2 else 1) else if c = 32 ∨ 52 ≤ c then 5 else 1
theorem e_holds {h : Int64} {c : Nat} (hc : c < 64) : f_X6_holds h (nI c) = some (if tb h c then 1 else 0) := by
  unfold f_X6_holds
  have h1 : (lg_cmp ((h >>> ((nI c).toInt64 &&& 63)) &&& (1 : Int64)) (1 : Int64)) = 0 ↔ tb h c = true := by
    rw [lg_one, tb_one, tb_shr h hc]
  by_cases q : tb h c = true
  · rw [if_pos (h1.mpr q), if_pos q]
  · rw [if_neg (fun x => q (h1.mp x)), if_neg q]
theorem e_only (c : Nat) : f_X6_only (nI c) = some (jb c) := rfl
theorem e_suit : ∀ c, c < 54 → f_X6_suitOf (nI c) = some (nI (su c)) := by decide +kernel
theorem e_worth : ∀ c, c < 54 → f_X6_worth (nI c) = some (nI (wo c)) := by decide +kernel
theorem e_lay : ∀ c, c < 54 → f_X6_canBeLaidAway (nI c) = some (if wo c < 5 then 1 else 0) := by decide +kernel
theorem e_isCard {c : Nat} (h : c < 54) : f_X6_isCard (nI c) = some 1 := by
  unfold f_X6_isCard
  rw [if_neg (nneg (by omega)), if_neg (nge h (by decide))]
theorem e_isCardN {x : Int32} (h : x < 0 ∨ nI 54 ≤ x) : f_X6_isCard x = some 0 := by
  unfold f_X6_isCard
  rcases h with h | h
  · rw [if_pos h]
  · by_cases q : x < 0
    · rw [if_pos q]
    · rw [if_neg q]; exact if_pos h
theorem lt_of_le1 {x : Int32} {n : Nat} (hn : n + 1 < 2 ^ 31) (h : nI (n + 1) ≤ x) : nI n < x := by
  rw [Int32.le_iff_toInt_le, nI_toInt hn] at h
  rw [Int32.lt_iff_toInt_lt, nI_toInt (by omega)]
  omega
theorem e_play {c : Nat} (h : c < 4) : f_X6_isPlayer (nI c) = some 1 := by
  unfold f_X6_isPlayer
  rw [if_neg (nneg (by omega)), if_neg (nge h (by decide))]
theorem e_playN {x : Int32} (h : x < 0 ∨ nI 4 ≤ x) : f_X6_isPlayer x = some 0 := by
  unfold f_X6_isPlayer
  rcases h with h | h
  · rw [if_pos h]
  · by_cases q : x < 0
    · rw [if_pos q]
    · rw [if_neg q]; exact if_pos h
theorem e_at2 {j : Nat} (h : j < 54) (S : tk_ST) : f_X2_at_p2 (nI j) S = some (S.2.2.1 0 j) := by
  unfold f_X2_at_p2
  rw [if_neg (nneg (by omega)), if_neg (nge h (by decide)), if_neg (inR h (by decide)), cl (by omega)]
theorem e_at6 {j : Nat} (h : j < 4) (S : tk_ST) : f_X2_at_p6 (nI j) S = some (S.2.2.1 1 j) := by
  unfold f_X2_at_p6
  rw [if_neg (nneg (by omega)), if_neg (nge h (by decide)), if_neg (inR h (by decide)), cl (by omega)]
theorem e_at9 {j : Nat} (h : j < 4) (S : tk_ST) : f_X2_at_p9 (nI j) S = some (S.2.2.1 2 j) := by
  unfold f_X2_at_p9
  rw [if_neg (nneg (by omega)), if_neg (nge h (by decide)), if_neg (inR h (by decide)), cl (by omega)]
theorem e_at11 {j : Nat} (h : j < 4) (S : tk_ST) : f_X2_at_p11 (nI j) S = some (S.2.2.1 3 j) := by
  unfold f_X2_at_p11
  rw [if_neg (nneg (by omega)), if_neg (nge h (by decide)), if_neg (inR h (by decide)), cl (by omega)]
theorem e_at13 {j : Nat} (h : j < 4) (S : tk_ST) : f_X3_at_p13 (nI j) S = some (S.2.2.2 0 j) := by
  unfold f_X3_at_p13
  rw [if_neg (nneg (by omega)), if_neg (nge h (by decide)), if_neg (inR h (by decide)), cl (by omega)]
theorem e_at15 {j : Nat} (h : j < 2) (S : tk_ST) : f_X3_at_p15 (nI j) S = some (S.2.2.2 1 j) := by
  unfold f_X3_at_p15
  rw [if_neg (nneg (by omega)), if_neg (nge h (by decide)), if_neg (inR h (by decide)), cl (by omega)]
theorem e_put2 {j : Nat} (h : j < 54) (v : Int32) (S : tk_ST) : f_X2_put_p2 (nI j) v S = some (tk_A S 0 (upd (S.2.2.1 0) j v)) := by
  unfold f_X2_put_p2
  rw [if_neg (nneg (by omega)), if_neg (nge h (by decide)), if_neg (inR h (by decide)), cl (by omega)]
  rfl
theorem e_put6 {j : Nat} (h : j < 4) (v : Int32) (S : tk_ST) : f_X2_put_p6 (nI j) v S = some (tk_A S 1 (upd (S.2.2.1 1) j v)) := by
  unfold f_X2_put_p6
  rw [if_neg (nneg (by omega)), if_neg (nge h (by decide)), if_neg (inR h (by decide)), cl (by omega)]
  rfl
theorem e_put9 {j : Nat} (h : j < 4) (v : Int32) (S : tk_ST) : f_X2_put_p9 (nI j) v S = some (tk_A S 2 (upd (S.2.2.1 2) j v)) := by
  unfold f_X2_put_p9
  rw [if_neg (nneg (by omega)), if_neg (nge h (by decide)), if_neg (inR h (by decide)), cl (by omega)]
  rfl
theorem e_put11 {j : Nat} (h : j < 4) (v : Int32) (S : tk_ST) : f_X2_put_p11 (nI j) v S = some (tk_A S 3 (upd (S.2.2.1 3) j v)) := by
  unfold f_X2_put_p11
  rw [if_neg (nneg (by omega)), if_neg (nge h (by decide)), if_neg (inR h (by decide)), cl (by omega)]
  rfl
theorem e_put13 {j : Nat} (h : j < 4) (v : Int64) (S : tk_ST) : f_X3_put_p13 (nI j) v S = some (tk_B S 0 (vp_updL (S.2.2.2 0) j v)) := by
  unfold f_X3_put_p13
  rw [if_neg (nneg (by omega)), if_neg (nge h (by decide)), if_neg (inR h (by decide)), cl (by omega)]
  rfl
theorem e_put15 {j : Nat} (h : j < 2) (v : Int64) (S : tk_ST) : f_X3_put_p15 (nI j) v S = some (tk_B S 1 (vp_updL (S.2.2.2 1) j v)) := by
  unfold f_X3_put_p15
  rw [if_neg (nneg (by omega)), if_neg (nge h (by decide)), if_neg (inR h (by decide)), cl (by omega)]
  rfl
theorem e_rem {a d : Nat} (ha : a < 2 ^ 31) (h0 : 0 < d) (hd : d < 2 ^ 31) : tk_rem (nI a) (nI d) = nI (a % d) := pk_rem ha h0 hd
theorem e_behind {j : Nat} (h : j < 4) : f_X6_behind (nI j) = some (nI ((j + 1) % 4)) := by
  unfold f_X6_behind
  rw [show nI j + 1 = nI (j + 1) from nI_1 j, show (4 : Int32) = nI 4 from rfl, e_rem (by omega) (by decide) (by decide)]
def sd (p d q : Int32) : Int32 := if p = d then 0 else if p = q then 0 else 1
theorem e_side (p : Int32) (S : tk_ST) : f_X6_sideOf p S = some (sd p (S.1 3) (S.1 6)) := by
  unfold f_X6_sideOf f_X6_sideOf_16 sd
  by_cases h : p = S.1 3
  · rw [if_pos h, if_pos h]
  · rw [if_neg h, if_neg h]
    by_cases h : p = S.1 6
    · rw [if_pos h, if_pos h]
    · rw [if_neg h, if_neg h]
def ct (p : Nat → Bool) : Nat → Nat
  | 0 => 0
  | n + 1 => ct p n + (if p n = true then 1 else 0)
def cn (x : Int64) : Nat := ct (tb x) 54
def jbI (x : Int32) : Int64 := (1 : Int64) <<< (x.toInt64 &&& 63)
def orr (f : Nat → Int32) (a : Nat) : Nat → Int64
  | 0 => 0
  | n + 1 => orr f a n ||| jbI (f (a + n))
def pc (P : Nat) : Nat := (if P.testBit 0 then 1 else 0) + (if P.testBit 1 then 1 else 0) + (if P.testBit 2 then 1 else 0) + (if P.testBit 3 then 1 else 0)
def Row (f : Nat → Int32) : Prop := ∃ v : Nat → Nat, (∀ i, i < 54 → v i < 54 ∧ f i = nI (v i)) ∧ ∀ i j, i < 54 → j < 54 → v i = v j → i = j
def Crd (h : Nat → Int64) : Prop := (∀ p, p < 4 → ∀ c, tb (h p) c = true → c < 54) ∧ ∀ p q, p < 4 → q < 4 → p ≠ q → ∀ c, ¬ (tb (h p) c = true ∧ tb (h q) c = true)
theorem n10 : ¬ (1 : Int32) = 0 := by decide
theorem or3 {x : Int32} {n : Nat} (hn : n < 2 ^ 31) : (x < 0 ∨ nI n ≤ x) ∨ ∃ j : Nat, j < n ∧ x = nI j := by
  rcases arg3 n hn x with h | h | h
  · exact Or.inl (Or.inl h)
  · exact Or.inl (Or.inr h)
  · exact Or.inr h
theorem wo_b : ∀ c, c < 54 → 1 ≤ wo c ∧ wo c ≤ 5 := by decide
theorem L_thirdsB (h : Int64) : ∀ (n c sum : Nat), c ≤ 54 → 54 < c + n → sum ≤ 13 * c → ∃ t, t ≤ 702 ∧ f_X6_thirdsOf_4 n h (nI sum) (nI c) = some (nI t) := by
  intro n
  induction n with
  | zero => intro c sum h1 h2; omega
  | succ n ih =>
    intro c sum h54 hn hs
    rw [f_X6_thirdsOf_4_s]
    by_cases q : c = 54
    · subst q; rw [if_pos (show (54 : Int32) ≤ nI 54 from nI_le (Nat.le_refl _) (by decide))]
      exact ⟨sum, by omega, rfl⟩
    · have hlt : c < 54 := by omega
      have hw := wo_b c hlt
      rw [if_neg (nge hlt (by decide)), e_holds (by omega), b1s]
      by_cases ht : tb h c = true
      · rw [if_pos ht, if_neg n10, e_worth c hlt, b1s]
        unfold f_X6_thirdsOf_29
        rw [nI_1, show (3 : Int32) * nI (wo c) = nI (3 * wo c) from pk_mul 3 (wo c), show nI (3 * wo c) - 2 = nI (3 * wo c - 2) from pk_sub (b := 2) (by omega), nI_add]
        exact ih _ _ (by omega) (by omega) (by omega)
      · rw [if_neg ht, if_pos rfl]
        unfold f_X6_thirdsOf_29
        rw [nI_1]; exact ih _ _ (by omega) (by omega) (by omega)
theorem thirds_b (h : Int64) : ∃ t, t ≤ 702 ∧ f_X6_thirdsOf h = some (nI t) := L_thirdsB h 64 0 0 (by omega) (by omega) (by omega)
theorem e_sideP {j : Nat} (h : j < 2) : f_X6_isSide (nI j) = some 1 := by
  unfold f_X6_isSide
  rw [if_neg (nneg (by omega)), if_neg (nge h (by decide))]
theorem e_sidePN {x : Int32} (h : x < 0 ∨ nI 2 ≤ x) : f_X6_isSide x = some 0 := by
  unfold f_X6_isSide
  rcases h with h | h
  · rw [if_pos h]
  · by_cases q : x < 0
    · rw [if_pos q]
    · rw [if_neg q]; exact if_pos h
theorem nm1 {j : Nat} (h : j < 2 ^ 31) : ¬ nI j = -1 := fun e => nneg h (by rw [e]; decide)
def inS (s c : Nat) : Bool := if s = 4 then decide (32 ≤ c) else decide (8 * s ≤ c ∧ c < 8 * s + 8)
theorem m4_tb : ∀ c, c < 64 → tb (-4294967296) c = decide (32 ≤ c) := by decide +kernel
theorem ms_tb : ∀ s, s < 4 → ∀ c, c < 64 → tb ((255 : Int64) <<< (((8 : Int32) * nI s).toInt64 &&& 63)) c = decide (8 * s ≤ c ∧ c < 8 * s + 8) := by decide +kernel
theorem su_in : ∀ s, s < 5 → ∀ c, c < 54 → inS s c = decide (su c = s) := by decide +kernel
theorem su_lt : ∀ c, c < 54 → su c < 5 := by decide +kernel
theorem tb_and (x y : Int64) (c : Nat) : tb (x &&& y) c = (tb x c && tb y c) := by
  simp [tb, Int64.toBitVec_and]
theorem e_cos {h : Int64} (hs : ∀ c, tb h c = true → c < 54) {s : Nat} (h5 : s < 5) : ∃ x, f_X6_cardsOfSuit h (nI s) = some x ∧ ∀ c, tb x c = true ↔ (tb h c = true ∧ su c = s) := by
  have key : ∀ mk : Int64, (∀ c, c < 64 → tb mk c = inS s c) → ∀ c, tb (h &&& mk) c = true ↔ (tb h c = true ∧ su c = s) := by
    intro mk hm c
    rw [tb_and, Bool.and_eq_true]
    constructor
    · intro ⟨h1, h2⟩
      have hc := hs c h1
      rw [hm c (by omega), su_in s h5 c hc] at h2
      exact ⟨h1, of_decide_eq_true h2⟩
    · intro ⟨h1, h2⟩
      have hc := hs c h1
      refine ⟨h1, ?_⟩
      rw [hm c (by omega), su_in s h5 c hc]
      exact decide_eq_true h2
  unfold f_X6_cardsOfSuit f_X6_cardsOfSuit_19
  by_cases q : s = 4
  · subst q
    rw [if_pos (show nI 4 = 4 from rfl)]
    exact ⟨_, rfl, key _ (fun c hc => by rw [m4_tb c hc]; rfl)⟩
  · rw [if_neg (show ¬ nI s = 4 from fun e => q ((nI_eq (by omega) (by decide)).mp e))]
    refine ⟨_, rfl, key _ (fun c hc => ?_)⟩
    rw [ms_tb s (by omega) c hc]
    unfold inS
    rw [if_neg q]
def Has (h : Int64) (s : Nat) : Prop := ∃ c, tb h c = true ∧ su c = s
theorem zero_iff (x : Int64) : lg_cmp x 0 = 0 ↔ ∀ c, ¬ tb x c = true := by
  rw [lg_cmp_eq]
  constructor
  · intro e c; rw [e, tb_zero]; decide
  · intro h
    apply tb_ext
    intro c _
    rw [tb_zero]
    exact Bool.eq_false_iff.mpr (h c)
theorem e_pof {h : Int64} (hs : ∀ c, tb h c = true → c < 54) {s : Nat} (h5 : s < 5) : ∃ x, f_X6_playableOf h (nI s) = some x ∧ (∀ c, tb x c = true ↔ (tb h c = true ∧ ((Has h s ∧ su c = s) ∨ (¬ Has h s ∧ (su c = 4 ∨ ¬ Has h 4))))) ∧ ((∃ c, tb h c = true) → ∃ c, tb x c = true) := by
  obtain ⟨x, e1, h1⟩ := e_cos hs h5
  obtain ⟨y, e2, h2⟩ := e_cos hs (show 4 < 5 by decide)
  have z1 : lg_cmp x 0 = 0 ↔ ¬ Has h s := by
    rw [zero_iff]
    exact ⟨fun q ⟨c, hc⟩ => q c ((h1 c).mpr hc), fun q c hc => q ⟨c, (h1 c).mp hc⟩⟩
  have z2 : lg_cmp y 0 = 0 ↔ ¬ Has h 4 := by
    rw [zero_iff]
    exact ⟨fun q ⟨c, hc⟩ => q c ((h2 c).mpr hc), fun q c hc => q ⟨c, (h2 c).mp hc⟩⟩
  unfold f_X6_playableOf
  rw [if_neg (nm1 (j := s) (by omega)), e1, b1s, show f_X6_cardsOfSuit h 4 = some y from e2, b1s]
  by_cases q1 : Has h s
  · rw [if_neg (fun e => z1.mp e q1)]
    refine ⟨x, rfl, fun c => ?_, fun _ => ?_⟩
    · rw [h1]
      exact ⟨fun ⟨a, b⟩ => ⟨a, Or.inl ⟨q1, b⟩⟩, fun ⟨a, b⟩ => ⟨a, b.elim (fun q => q.2) (fun q => absurd q1 q.1)⟩⟩
    · obtain ⟨c, hc⟩ := q1
      exact ⟨c, (h1 c).mpr hc⟩
  · rw [if_pos (z1.mpr q1)]
    by_cases q2 : Has h 4
    · rw [if_neg (fun e => z2.mp e q2)]
      refine ⟨y, rfl, fun c => ?_, fun _ => ?_⟩
      · rw [h2]
        exact ⟨fun ⟨a, b⟩ => ⟨a, Or.inr ⟨q1, Or.inl b⟩⟩, fun ⟨a, b⟩ => ⟨a, b.elim (fun q => absurd q.1 q1) (fun q => q.2.elim id (fun z => absurd q2 z))⟩⟩
      · obtain ⟨c, hc⟩ := q2
        exact ⟨c, (h2 c).mpr hc⟩
    · rw [if_pos (z2.mpr q2)]
      exact ⟨h, rfl, fun c => ⟨fun a => ⟨a, Or.inr ⟨q1, Or.inr q2⟩⟩, fun a => a.1⟩, fun a => a⟩
theorem e_nowN {S : tk_ST} (h1 : ¬ S.1 1 = 5) : f_X6_playableNow S = some 0 := by
  unfold f_X6_playableNow
  rw [if_neg h1]
theorem e_bitc : ∀ m, m < 16 → f_J6_bitCount_0f7a4 (nI m) = some (nI (pc m)) := by decide +kernel
theorem e_ann {S : tk_ST} {b0 b1 j : Nat} (h0 : b0 < 2) (h1 : b1 < 2) (hj : j < 2) (e : S.1 8 = nI (b0 + 2 * b1)) : f_X6_isAnnounced (nI j) S = some (nI (if j = 0 then b0 else b1)) := by
  unfold f_X6_isAnnounced; rw [e]
  rcases (show b0 = 0 ∨ b0 = 1 by omega) with rfl | rfl
  all_goals rcases (show b1 = 0 ∨ b1 = 1 by omega) with rfl | rfl
  all_goals rcases (show j = 0 ∨ j = 1 by omega) with rfl | rfl
  all_goals decide
theorem e_ann98 {S : tk_ST} {b0 b1 j : Nat} (h0 : b0 < 2) (h1 : b1 < 2) (hj : j < 2) (e : S.1 8 = nI (b0 + 2 * b1)) : f_X6_announce_98 (nI j) S = some (0, nI ((if j = 0 then 1 else b0) + (if j = 0 then b1 else 1)), tk_I S 8 (nI ((if j = 0 then 1 else b0) + 2 * (if j = 0 then b1 else 1)))) := by
  unfold f_X6_announce_98; rw [e]
  have k1 : (nI (b0 + 2 * b1) ||| ((1 : Int32) <<< (nI j &&& 31))) = nI ((if j = 0 then 1 else b0) + 2 * (if j = 0 then b1 else 1)) := by
    rcases (show b0 = 0 ∨ b0 = 1 by omega) with rfl | rfl
    all_goals rcases (show b1 = 0 ∨ b1 = 1 by omega) with rfl | rfl
    all_goals rcases (show j = 0 ∨ j = 1 by omega) with rfl | rfl
    all_goals decide
  rw [k1, e_bitc _ (by split <;> omega), b1s]
  have k2 : pc ((if j = 0 then 1 else b0) + 2 * (if j = 0 then b1 else 1)) = (if j = 0 then 1 else b0) + (if j = 0 then b1 else 1) := by
    rcases (show b0 = 0 ∨ b0 = 1 by omega) with rfl | rfl
    all_goals rcases (show b1 = 0 ∨ b1 = 1 by omega) with rfl | rfl
    all_goals rcases (show j = 0 ∨ j = 1 by omega) with rfl | rfl
    all_goals decide
  rw [k2]
theorem nI0_iff {n : Nat} (h : n < 2 ^ 31) : nI n = 0 ↔ n = 0 := ⟨fun e => Classical.byContradiction fun q => nI_ne0 (by omega) h e, fun e => by rw [e]; rfl⟩
def own (h : Nat → Int64) (c : Nat) : Int32 := if tb (h 0) c = true then nI 0 else if tb (h 1) c = true then nI 1 else if tb (h 2) c = true then nI 2 else if tb (h 3) c = true then nI 3 else -1
def ownL (h : Nat → Int64) (c : Nat) : Int32 := if tb (h 3) c = true then nI 3 else if tb (h 2) c = true then nI 2 else if tb (h 1) c = true then nI 1 else if tb (h 0) c = true then nI 0 else -1
theorem own_eq {h : Nat → Int64} (hC : Crd h) (c : Nat) : ownL h c = own h c := by
  have d : ∀ p q, p < 4 → q < 4 → p ≠ q → tb (h p) c = true → ¬ tb (h q) c = true := fun p q a b e f g => hC.2 p q a b e c ⟨f, g⟩
  unfold own ownL
  by_cases q0 : tb (h 0) c = true
  · rw [if_neg (d 0 3 (by omega) (by omega) (by omega) q0), if_neg (d 0 2 (by omega) (by omega) (by omega) q0), if_neg (d 0 1 (by omega) (by omega) (by omega) q0), if_pos q0, if_pos q0]
  · by_cases q1 : tb (h 1) c = true
    · rw [if_neg (d 1 3 (by omega) (by omega) (by omega) q1), if_neg (d 1 2 (by omega) (by omega) (by omega) q1), if_pos q1, if_neg q0, if_pos q1]
    · by_cases q2 : tb (h 2) c = true
      · rw [if_neg (d 2 3 (by omega) (by omega) (by omega) q2), if_pos q2, if_neg q0, if_neg q1, if_pos q2]
      · rw [if_neg q0, if_neg q1, if_neg q2, if_neg q2, if_neg q1, if_neg q0]
theorem own_or (h : Nat → Int64) (c : Nat) : own h c = -1 ∨ ∃ o, o < 4 ∧ own h c = nI o ∧ tb (h o) c = true := by
  unfold own
  by_cases q0 : tb (h 0) c = true
  · exact Or.inr ⟨0, by omega, by rw [if_pos q0], q0⟩
  · rw [if_neg q0]
    by_cases q1 : tb (h 1) c = true
    · exact Or.inr ⟨1, by omega, by rw [if_pos q1], q1⟩
    · rw [if_neg q1]
      by_cases q2 : tb (h 2) c = true
      · exact Or.inr ⟨2, by omega, by rw [if_pos q2], q2⟩
      · rw [if_neg q2]
        by_cases q3 : tb (h 3) c = true
        · exact Or.inr ⟨3, by omega, by rw [if_pos q3], q3⟩
        · rw [if_neg q3]; exact Or.inl rfl
theorem L_owner {c : Nat} (hc : c < 54) (S : tk_ST) (n j : Nat) (hj : j < 4) : f_X6_ownerOf_2 (n + 1) (nI c) (nI j) S = if tb (S.2.2.2 0 j) c = true then some (nI j) else f_X6_ownerOf_2 n (nI c) (nI (j + 1)) S := by
  rw [f_X6_ownerOf_2_s, if_neg (nge hj (by decide)), e_at13 hj, b1s, e_holds (by omega), b1s, nI_1]
  by_cases q : tb (S.2.2.2 0 j) c = true
  · rw [if_pos q, if_pos q, if_neg n10]
  · rw [if_neg q, if_neg q, if_pos rfl]
theorem e_owner {c : Nat} (hc : c < 54) (S : tk_ST) : f_X6_ownerOf (nI c) S = some (own (S.2.2.2 0) c) := by
  unfold f_X6_ownerOf own
  show f_X6_ownerOf_2 (63 + 1) (nI c) (nI 0) S = _
  rw [L_owner hc S 63 0 (by decide)]
  by_cases q0 : tb (S.2.2.2 0 0) c = true
  · rw [if_pos q0, if_pos q0]
  · rw [if_neg q0, if_neg q0, L_owner hc S 62 1 (by decide)]
    by_cases q1 : tb (S.2.2.2 0 1) c = true
    · rw [if_pos q1, if_pos q1]
    · rw [if_neg q1, if_neg q1, L_owner hc S 61 2 (by decide)]
      by_cases q2 : tb (S.2.2.2 0 2) c = true
      · rw [if_pos q2, if_pos q2]
      · rw [if_neg q2, if_neg q2, L_owner hc S 60 3 (by decide)]
        by_cases q3 : tb (S.2.2.2 0 3) c = true
        · rw [if_pos q3, if_pos q3]
        · rw [if_neg q3, if_neg q3]; rfl
theorem e_king {s : Nat} (h : s < 4) : ((8 : Int32) * nI s) + 7 = nI (8 * s + 7) := by
  rcases (show s = 0 ∨ s = 1 ∨ s = 2 ∨ s = 3 by omega) with rfl | rfl | rfl | rfl <;> decide
theorem n1I {j : Nat} (h : j < 2 ^ 31) : ¬ nI j = -1 := fun e => nneg h (by rw [e]; decide)
theorem tbO (x y : Int64) (c : Nat) : tb (x ||| y) c = true ↔ tb x c = true ∨ tb y c = true := by rw [tb_or, Bool.or_eq_true]
theorem tbN (x y : Int64) (c : Nat) : tb (x &&& (y ^^^ (-1))) c = true ↔ tb x c = true ∧ ¬ tb y c = true := by rw [tb_andn]; cases tb x c <;> cases tb y c <;> decide
theorem tbJ {c : Nat} (hc : c < 64) (d : Nat) : tb (jb c) d = true ↔ c = d := by rw [tb_jb hc, decide_eq_true_iff]
theorem tbZ (c : Nat) : ¬ tb 0 c = true := by rw [tb_zero]; decide
theorem tbX {x y : Int64} (h : ∀ c, tb x c = true ↔ tb y c = true) : x = y := by
  apply tb_ext; intro c _
  have := h c
  cases e : tb x c <;> cases e2 : tb y c <;> simp_all
theorem ct_congr {p q : Nat → Bool} : ∀ n, (∀ i, i < n → (p i = true ↔ q i = true)) → ct p n = ct q n
  | 0, _ => rfl
  | n + 1, h => by
    show ct p n + _ = ct q n + _
    rw [ct_congr n (fun i hi => h i (by omega))]
    have := h n (by omega)
    by_cases e : p n = true
    · rw [if_pos e, if_pos (this.mp e)]
    · rw [if_neg e, if_neg (fun e' => e (this.mpr e'))]
theorem ct_add {p q r : Nat → Bool} : ∀ n, (∀ i, i < n → (r i = true ↔ p i = true ∨ q i = true)) → (∀ i, i < n → ¬ (p i = true ∧ q i = true)) → ct r n = ct p n + ct q n
  | 0, _, _ => rfl
  | n + 1, h, g => by
    show ct r n + _ = (ct p n + _) + (ct q n + _)
    rw [ct_add n (fun i hi => h i (by omega)) (fun i hi => g i (by omega))]
    have h1 := h n (by omega)
    have h2 := g n (by omega)
    by_cases e : p n = true
    · have e2 : ¬ q n = true := fun x => h2 ⟨e, x⟩
      rw [if_pos e, if_neg e2, if_pos (h1.mpr (Or.inl e))]; omega
    · by_cases e2 : q n = true
      · rw [if_neg e, if_pos e2, if_pos (h1.mpr (Or.inr e2))]; omega
      · rw [if_neg e, if_neg e2, if_neg (fun x => (h1.mp x).elim e e2)]; omega
theorem ct_one {p : Nat → Bool} {c : Nat} (h : ∀ i, p i = true ↔ c = i) : ∀ n, ct p n = if c < n then 1 else 0
  | 0 => rfl
  | n + 1 => by
    show ct p n + _ = _
    rw [ct_one h n]
    by_cases e : c = n
    · rw [if_pos ((h n).mpr e), if_neg (by omega), if_pos (by omega)]
    · rw [if_neg (fun x => e ((h n).mp x))]
      by_cases g : c < n
      · rw [if_pos g, if_pos (by omega)]
      · rw [if_neg g, if_neg (by omega)]
theorem ct_zero {p : Nat → Bool} : ∀ n, (∀ i, i < n → ¬ p i = true) → ct p n = 0
  | 0, _ => rfl
  | n + 1, h => by
    show ct p n + _ = _
    rw [ct_zero n (fun i hi => h i (by omega)), if_neg (h n (by omega))]
theorem cn_or {x y : Int64} (h : ∀ c, ¬ (tb x c = true ∧ tb y c = true)) : cn (x ||| y) = cn x + cn y := ct_add 54 (fun i _ => tbO x y i) (fun i _ => h i)
theorem cn_jb {c : Nat} (hc : c < 54) : cn (jb c) = 1 := by
  unfold cn
  rw [ct_one (c := c) (tbJ (by omega)), if_pos hc]
theorem cn_zero : cn 0 = 0 := ct_zero 54 (fun i _ => tbZ i)
theorem cn_rem {x : Int64} {c : Nat} (hc : c < 54) (h : tb x c = true) : cn (x &&& (jb c ^^^ (-1))) + 1 = cn x := by
  have e : x = (x &&& (jb c ^^^ (-1))) ||| jb c := by
    apply tbX; intro d
    rw [tbO, tbN, tbJ (by omega)]
    by_cases q : c = d
    · subst q; exact ⟨fun _ => Or.inr rfl, fun _ => h⟩
    · exact ⟨fun y => Or.inl ⟨y, q⟩, fun y => y.elim (·.1) (fun e => absurd e q)⟩
  have h2 := cn_or (x := x &&& (jb c ^^^ (-1))) (y := jb c) (fun d => by rw [tbN]; exact fun ⟨a, b⟩ => a.2 b)
  rw [← e, cn_jb hc] at h2
  exact h2.symm
theorem cn_pos {x : Int64} (h : 0 < cn x) : ∃ c, c < 54 ∧ tb x c = true := Classical.byContradiction fun q => by
  have := ct_zero (p := tb x) 54 (fun i hi e => q ⟨i, hi, e⟩)
  unfold cn at h; omega
theorem jbI_nI (c : Nat) : jbI (nI c) = jb c := rfl
theorem tb_orr {f : Nat → Int32} {v : Nat → Nat} (hv : ∀ i, i < 54 → v i < 54 ∧ f i = nI (v i)) {a : Nat} : ∀ n, a + n ≤ 54 → ∀ c, tb (orr f a n) c = true ↔ ∃ i, i < n ∧ v (a + i) = c
  | 0, _, c => ⟨fun e => absurd e (tbZ c), fun ⟨i, hi, _⟩ => absurd hi (Nat.not_lt_zero i)⟩
  | n + 1, h, c => by
    show tb (orr f a n ||| jbI (f (a + n))) c = true ↔ _
    have hc := hv (a + n) (by omega)
    rw [hc.2, jbI_nI, tbO, tb_orr hv n (by omega) c, tbJ (by omega)]
    constructor
    · rintro (⟨i, hi, e⟩ | e)
      · exact ⟨i, by omega, e⟩
      · exact ⟨n, by omega, e⟩
    · rintro ⟨i, hi, e⟩
      by_cases q : i = n
      · subst q; exact Or.inr e
      · exact Or.inl ⟨i, by omega, e⟩
theorem cn_orr {f : Nat → Int32} {v : Nat → Nat} (hv : ∀ i, i < 54 → v i < 54 ∧ f i = nI (v i)) (hi : ∀ i j, i < 54 → j < 54 → v i = v j → i = j) {a : Nat} : ∀ n, a + n ≤ 54 → cn (orr f a n) = n
  | 0, _ => cn_zero
  | n + 1, h => by
    show cn (orr f a n ||| jbI (f (a + n))) = _
    have hc := hv (a + n) (by omega)
    rw [hc.2, jbI_nI, cn_or, cn_orr hv hi n (by omega), cn_jb hc.1]
    intro c
    rw [tb_orr hv n (by omega), tbJ (by omega)]
    rintro ⟨⟨i, h1, h2⟩, h3⟩
    have := hi (a + i) (a + n) (by omega) (by omega) (h2.trans h3.symm)
    omega
theorem L_from {S : tk_ST} {a m : Nat} (h : a + m ≤ 54) : ∀ n j : Nat, j ≤ m → m - j < n → f_X1_cardsFrom_5 n (nI a) (nI m) (orr (S.2.2.1 0) a j) (nI j) S = some (orr (S.2.2.1 0) a m)
  | 0, _, _, g => absurd g (Nat.not_lt_zero _)
  | n + 1, j, hj, g => by
    rw [f_X1_cardsFrom_5_s]
    by_cases q : j = m
    · subst q; rw [if_pos (nI_le (Nat.le_refl j) (by omega))]
    · rw [if_neg (nI_ge (by omega) (by omega)), nI_add, e_at2 (by omega), b1s, show f_X6_only (S.2.2.1 0 (a + j)) = some (jbI (S.2.2.1 0 (a + j))) from rfl, b1s, nI_1]
      exact L_from h n (j + 1) (by omega) (by omega)
theorem e_from {S : tk_ST} {a m : Nat} (h : a + m ≤ 54) : f_X1_cardsFrom (nI a) (nI m) S = some (orr (S.2.2.1 0) a m) := L_from h 64 0 (Nat.zero_le m) (by omega)
def szl (l : Nat) : Nat := if 3 ≤ l then 1 else 4 - l
def grl (l : Nat) : Nat := if 3 ≤ l then 6 else l + 1
def gA (f : Nat → Int32) (x : Int64) (p sz : Nat) : Nat → Int64
  | 0 => x
  | j + 1 => if j / sz = p then gA f x p sz j ||| jbI (f (48 + j)) else gA f x p sz j
def gR (f : Nat → Int32) (p sz : Nat) : Nat → Int64
  | 0 => 0
  | j + 1 => if j / sz = p then gR f p sz j else gR f p sz j ||| jbI (f (48 + j))
theorem inR2 {j n : Nat} (h : j < n) (hj : j < 2 ^ 31) : ¬ (nI j < 0 ∨ n ≤ j) := fun e => e.elim (nneg hj) (by omega)
theorem div6 : ∀ j, j < 6 → ∀ z, z < 4 → 0 < z → nI j / nI z = nI (j / z) := by decide +kernel
theorem mul6 : ∀ j, j < 6 → ∀ z, z < 4 → nI j * nI z = nI (j * z) := by decide +kernel
theorem tb_gA {f : Nat → Int32} {v : Nat → Nat} (hv : ∀ i, i < 54 → v i < 54 ∧ f i = nI (v i)) {x : Int64} {p sz : Nat} : ∀ m, m ≤ 6 → ∀ c, tb (gA f x p sz m) c = true ↔ tb x c = true ∨ ∃ i, i < m ∧ i / sz = p ∧ v (48 + i) = c
  | 0, _, c => ⟨Or.inl, fun e => e.elim id (fun ⟨i, hi, _⟩ => absurd hi (Nat.not_lt_zero i))⟩
  | m + 1, h, c => by
    have ih := tb_gA hv (x := x) (p := p) (sz := sz) m (by omega) c
    have hc := hv (48 + m) (by omega)
    by_cases q : m / sz = p
    · rw [show gA f x p sz (m + 1) = gA f x p sz m ||| jbI (f (48 + m)) from if_pos q, hc.2, jbI_nI, tbO, ih, tbJ (by omega)]
      constructor
      · rintro ((e | ⟨i, h1, h2⟩) | e)
        · exact Or.inl e
        · exact Or.inr ⟨i, by omega, h2⟩
        · exact Or.inr ⟨m, by omega, q, e⟩
      · rintro (e | ⟨i, h1, h2, h3⟩)
        · exact Or.inl (Or.inl e)
        · by_cases r : i = m
          · subst r; exact Or.inr h3
          · exact Or.inl (Or.inr ⟨i, by omega, h2, h3⟩)
    · rw [show gA f x p sz (m + 1) = gA f x p sz m from if_neg q, ih]
      constructor
      · rintro (e | ⟨i, h1, h2⟩)
        · exact Or.inl e
        · exact Or.inr ⟨i, by omega, h2⟩
      · rintro (e | ⟨i, h1, h2, h3⟩)
        · exact Or.inl e
        · by_cases r : i = m
          · subst r; exact absurd h2 q
          · exact Or.inr ⟨i, by omega, h2, h3⟩
theorem tb_gR {f : Nat → Int32} {v : Nat → Nat} (hv : ∀ i, i < 54 → v i < 54 ∧ f i = nI (v i)) {p sz : Nat} : ∀ m, m ≤ 6 → ∀ c, tb (gR f p sz m) c = true ↔ ∃ i, i < m ∧ i / sz ≠ p ∧ v (48 + i) = c
  | 0, _, c => ⟨fun e => absurd e (tbZ c), fun ⟨i, hi, _⟩ => absurd hi (Nat.not_lt_zero i)⟩
  | m + 1, h, c => by
    have ih := tb_gR hv (p := p) (sz := sz) m (by omega) c
    have hc := hv (48 + m) (by omega)
    by_cases q : m / sz = p
    · rw [show gR f p sz (m + 1) = gR f p sz m from if_pos q, ih]
      constructor
      · rintro ⟨i, h1, h2⟩
        exact ⟨i, by omega, h2⟩
      · rintro ⟨i, h1, h2, h3⟩
        by_cases r : i = m
        · subst r; exact absurd q h2
        · exact ⟨i, by omega, h2, h3⟩
    · rw [show gR f p sz (m + 1) = gR f p sz m ||| jbI (f (48 + m)) from if_neg q, hc.2, jbI_nI, tbO, ih, tbJ (by omega)]
      constructor
      · rintro (⟨i, h1, h2⟩ | e)
        · exact ⟨i, by omega, h2⟩
        · exact ⟨m, by omega, q, e⟩
      · rintro ⟨i, h1, h2, h3⟩
        by_cases r : i = m
        · subst r; exact Or.inr h3
        · exact Or.inl ⟨i, by omega, h2, h3⟩
theorem div_iff {i p sz : Nat} (z0 : 0 < sz) (z4 : sz < 4) : i / sz = p ↔ p * sz ≤ i ∧ i < p * sz + sz := by
  rcases (show sz = 1 ∨ sz = 2 ∨ sz = 3 by omega) with rfl | rfl | rfl <;> omega
theorem gA_eq {f : Nat → Int32} {v : Nat → Nat} (hv : ∀ i, i < 54 → v i < 54 ∧ f i = nI (v i)) {x : Int64} {p sz : Nat} (z0 : 0 < sz) (z4 : sz < 4) (hp : p * sz + sz ≤ 6) : gA f x p sz 6 = x ||| orr f (48 + p * sz) sz := by
  apply tbX; intro c
  rw [tb_gA hv 6 (by omega), tbO, tb_orr hv sz (by omega)]
  constructor
  · rintro (e | ⟨i, h1, h2, h3⟩)
    · exact Or.inl e
    · have := (div_iff z0 z4).mp h2
      exact Or.inr ⟨i - p * sz, by omega, by rw [show 48 + p * sz + (i - p * sz) = 48 + i by omega]; exact h3⟩
  · rintro (e | ⟨i, h1, h2⟩)
    · exact Or.inl e
    · exact Or.inr ⟨p * sz + i, by omega, (div_iff z0 z4).mpr ⟨by omega, by omega⟩, by rw [← Nat.add_assoc]; exact h2⟩
theorem gR_eq {f : Nat → Int32} {v : Nat → Nat} (hv : ∀ i, i < 54 → v i < 54 ∧ f i = nI (v i)) (hi : ∀ i j, i < 54 → j < 54 → v i = v j → i = j) {p sz : Nat} (z0 : 0 < sz) (z4 : sz < 4) (hp : p * sz + sz ≤ 6) : gR f p sz 6 = orr f 48 6 &&& (orr f (48 + p * sz) sz ^^^ (-1)) := by
  apply tbX; intro c
  rw [tb_gR hv 6 (by omega), tbN, tb_orr hv 6 (by omega), tb_orr hv sz (by omega)]
  constructor
  · rintro ⟨i, h1, h2, h3⟩
    refine ⟨⟨i, h1, h3⟩, ?_⟩
    rintro ⟨j, g1, g2⟩
    have := hi (48 + p * sz + j) (48 + i) (by omega) (by omega) (g2.trans h3.symm)
    exact h2 ((div_iff z0 z4).mpr ⟨by omega, by omega⟩)
  · rintro ⟨⟨i, h1, h3⟩, h4⟩
    refine ⟨i, h1, fun e => h4 ?_, h3⟩
    have := (div_iff z0 z4).mp e
    exact ⟨i - p * sz, by omega, by rw [show 48 + p * sz + (i - p * sz) = 48 + i by omega]; exact h3⟩
theorem e_grH {l : Nat} (l1 : 1 ≤ l) (l4 : l ≤ 4) : f_X6_groupsAt (nI l) = some (nI (grl l)) := by
  rcases (show l = 1 ∨ l = 2 ∨ l = 3 ∨ l = 4 by omega) with rfl | rfl | rfl | rfl <;> decide
theorem e_szH {l : Nat} (l1 : 1 ≤ l) (l4 : l ≤ 4) : f_X6_groupSize (nI l) = some (nI (szl l)) := by
  rcases (show l = 1 ∨ l = 2 ∨ l = 3 ∨ l = 4 by omega) with rfl | rfl | rfl | rfl <;> decide
theorem e_szM {l : Nat} (l1 : 1 ≤ l) (l4 : l ≤ 4) : (if (3 : Int32) ≤ nI l then (1 : Int32) else 4 - nI l) = nI (szl l) := by
  rcases (show l = 1 ∨ l = 2 ∨ l = 3 ∨ l = 4 by omega) with rfl | rfl | rfl | rfl <;> decide
theorem e_gz {l : Nat} (l1 : 1 ≤ l) (l4 : l ≤ 4) : ((6 : Int32) / nI (szl l)) - 1 = nI (grl l - 1) := by
  rcases (show l = 1 ∨ l = 2 ∨ l = 3 ∨ l = 4 by omega) with rfl | rfl | rfl | rfl <;> decide
theorem e_sz {l : Nat} (l1 : 1 ≤ l) (l4 : l ≤ 4) : 0 < szl l ∧ szl l < 4 ∧ grl l * szl l = 6 ∧ 0 < grl l ∧ grl l ≤ 6 := by
  rcases (show l = 1 ∨ l = 2 ∨ l = 3 ∨ l = 4 by omega) with rfl | rfl | rfl | rfl <;> decide
theorem gz_le {l p : Nat} (l1 : 1 ≤ l) (l4 : l ≤ 4) (hp : p < grl l) : p * szl l + szl l ≤ 6 := by
  have : (p + 1) * szl l ≤ grl l * szl l := Nat.mul_le_mul_right _ (by omega)
  rw [(e_sz l1 l4).2.2.1, Nat.add_mul] at this
  omega
theorem or0 (x : Int64) : x ||| 0 = x := tbX fun c => by rw [tbO]; exact ⟨fun e => e.elim id (fun e => absurd e (tbZ c)), Or.inl⟩
theorem wo_king : ∀ s, s < 4 → wo (8 * s + 7) = 5 := by decide
theorem e_layT : ∀ c, c < 54 → (f_X6_canBeLaidAway (nI c) = some 1 ∧ wo c < 5) ∨ (f_X6_canBeLaidAway (nI c) = some 0 ∧ 5 ≤ wo c) := by
  intro c hc
  rw [e_lay c hc]
  by_cases q : wo c < 5
  · exact Or.inl ⟨by rw [if_pos q], q⟩
  · exact Or.inr ⟨by rw [if_neg q], by omega⟩
theorem wo_lt (c : Nat) : wo c ≤ 5 := by unfold wo; split <;> (try split) <;> omega
def less (h : Nat → Int64) (d c : Nat) : Nat → Int64 := vp_updL h d (h d &&& (jb c ^^^ (-1)))
theorem less_tb {h : Nat → Int64} {d c : Nat} (hc : c < 64) (p x : Nat) : tb (less h d c p) x = true ↔ tb (h p) x = true ∧ ¬ (p = d ∧ c = x) := by
  unfold less
  rw [updLE]
  by_cases e : p = d
  · subst e
    rw [if_pos rfl, tbN, tbJ hc]
    exact ⟨fun ⟨a, b⟩ => ⟨a, fun y => b y.2⟩, fun ⟨a, b⟩ => ⟨a, fun z => b ⟨rfl, z⟩⟩⟩
  · rw [if_neg e]
    exact ⟨fun a => ⟨a, fun y => e y.1⟩, fun y => y.1⟩
theorem less_crd {h : Nat → Int64} (hC : Crd h) {d c : Nat} (hc : c < 64) : Crd (less h d c) :=
  ⟨fun p hp x hx => hC.1 p hp x ((less_tb hc p x).mp hx).1, fun p q hp hq hpq x ⟨e1, e2⟩ => hC.2 p q hp hq hpq x ⟨((less_tb hc p x).mp e1).1, ((less_tb hc q x).mp e2).1⟩⟩
theorem less_cn {h : Nat → Int64} {d c : Nat} (hc : c < 54) (ht : tb (h d) c = true) : cn (less h d c d) + 1 = cn (h d) := by
  unfold less; rw [updLE, if_pos rfl]; exact cn_rem hc ht
theorem less_ne {h : Nat → Int64} {d c p : Nat} (e : p ≠ d) : less h d c p = h p := by unfold less; rw [updLE, if_neg e]
def nxt (P t : Nat) : Nat := if P.testBit ((t + 1) % 4) = true then (if P.testBit ((t + 2) % 4) = true then (if P.testBit ((t + 3) % 4) = true then t else (t + 3) % 4) else (t + 2) % 4) else (t + 1) % 4
theorem nxt_f : ∀ P, P < 16 → P ≠ 15 → ∀ t, t < 4 → nxt P t < 4 ∧ P.testBit (nxt P t) = false := by decide +kernel
theorem pas_b : ∀ P, P < 16 → ∀ j, j < 4 → (if ((nI P >>> (nI j &&& 31)) &&& (1 : Int32)) = (1 : Int32) then some (1 : Int32) else some (0 : Int32)) = some (if P.testBit j = true then 1 else 0) := by decide +kernel
theorem pas_or : ∀ P, P < 16 → ∀ t, t < 4 → (nI P ||| ((1 : Int32) <<< (nI t &&& 31))) = nI (P ||| 2 ^ t) := by decide +kernel
theorem pas_f : ∀ P, P < 16 → ∀ t, t < 4 → P.testBit t = false → P ||| 2 ^ t < 16 ∧ pc (P ||| 2 ^ t) = pc P + 1 ∧ ∀ j, j < 4 → ((P ||| 2 ^ t).testBit j = if j = t then true else P.testBit j) := by decide +kernel
theorem pc4 : ∀ P, P < 16 → (pc P = 4 ↔ P = 15) ∧ pc P ≤ 4 := by decide +kernel
theorem e_pas {S : tk_ST} {P j : Nat} (hP : P < 16) (hj : j < 4) (e : S.1 10 = nI P) : f_X0_hasPassed (nI j) S = some (if P.testBit j = true then 1 else 0) := by
  unfold f_X0_hasPassed; rw [e, pas_b P hP j hj]
theorem e_next {S : tk_ST} {P t : Nat} (hP : P < 16) (ht : t < 4) (e : S.1 10 = nI P) : f_X0_nextBehind (nI t) S = some (nI (nxt P t)) := by
  unfold f_X0_nextBehind nxt
  rw [e_behind ht, b1s]
  have st : ∀ n x j, j < 4 → x < 4 → f_X0_nextBehind_7 (n + 1) (nI j) (nI x) S = if P.testBit j = true then f_X0_nextBehind_7 n (nI ((j + 1) % 4)) (nI (x + 1)) S else some (nI j) := by
    intro n x j hj hx
    rw [f_X0_nextBehind_7_s, if_neg (show ¬ (4 : Int32) ≤ nI x from nI_ge (b := 4) hx (by decide)), e_pas hP hj e, b1s]
    by_cases q : P.testBit j = true
    · rw [if_pos q, if_neg n10, e_behind hj, b1s, nI_1, if_pos q]
    · rw [if_neg q, if_pos rfl, if_neg q]
  show f_X0_nextBehind_7 (63 + 1) (nI ((t + 1) % 4)) (nI 1) S = _
  rw [st 63 1 _ (by omega) (by omega)]
  by_cases q1 : P.testBit ((t + 1) % 4) = true
  · rw [if_pos q1, if_pos q1, st 62 2 _ (by omega) (by omega), show ((t + 1) % 4 + 1) % 4 = (t + 2) % 4 by omega]
    by_cases q2 : P.testBit ((t + 2) % 4) = true
    · rw [if_pos q2, if_pos q2, st 61 3 _ (by omega) (by omega), show ((t + 2) % 4 + 1) % 4 = (t + 3) % 4 by omega]
      by_cases q3 : P.testBit ((t + 3) % 4) = true
      · rw [if_pos q3, if_pos q3, f_X0_nextBehind_7_s, if_pos (show (4 : Int32) ≤ nI (3 + 1) by decide), show ((t + 3) % 4 + 1) % 4 = t by omega]
      · rw [if_neg q3, if_neg q3]
    · rw [if_neg q2, if_neg q2]
  · rw [if_neg q1, if_neg q1]
def hbt (S3 : tk_ST) : Option (Int32 × Int32 × tk_ST) := (tk_b1 (f_X0_allPassed S3) fun r4 => (if r4 = 0 then (tk_b1 (f_X0_isSettled S3) fun r8 => (if r8 = 0 then (tk_b1 (f_X0_nextBehind (S3.1 2) S3) fun r12 => some ((0 : Int32), (S3.1 1), (tk_I S3 2 r12))) else (tk_b1 (f_X6_beginGame S3) fun S17 => some ((0 : Int32), (S17.1 1), S17)))) else (tk_b1 (f_X6_endDeal S3) fun S20 => some ((0 : Int32), (S20.1 1), S20))))
theorem tk_up_up {α : Type} (f : Nat → α) (k : Nat) (a b : α) : tk_up (tk_up f k a) k b = tk_up f k b := by
  funext j
  rw [up_eq, up_eq, up_eq]
  by_cases e : j = k
  · rw [if_pos e, if_pos e]
  · rw [if_neg e, if_neg e, if_neg e]
theorem tk_up_id {α : Type} (f : Nat → α) (k : Nat) : tk_up f k (f k) = f := by
  funext j
  rw [up_eq]
  by_cases e : j = k
  · rw [if_pos e, e]
  · rw [if_neg e]
theorem tk_AA (S : tk_ST) (k : Nat) (a b : Nat → Int32) : tk_A (tk_A S k a) k b = tk_A S k b := by
  show (S.1, S.2.1, tk_up (tk_up S.2.2.1 k a) k b, S.2.2.2) = (S.1, S.2.1, tk_up S.2.2.1 k b, S.2.2.2)
  rw [tk_up_up]
theorem tk_Aid (S : tk_ST) (k : Nat) : tk_A S k (S.2.2.1 k) = S := by
  show (S.1, S.2.1, tk_up S.2.2.1 k (S.2.2.1 k), S.2.2.2) = S
  rw [tk_up_id]
def rnd (X : Nat) : Nat := (25173 * X + 13849) % 65536
def swp (f : Nat → Int32) (a b : Nat) : Nat → Int32 := upd (upd f a (f b)) b (f a)
def shf : Nat → Nat → (Nat → Int32) → Nat → Int32
  | 0, _, f => f
  | i + 1, X, f => shf i (rnd X) (swp f (i + 1) (rnd X % (i + 2)))
def ini (f : Nat → Int32) : Nat → Nat → Int32
  | 0 => f
  | n + 1 => upd (ini f n) n (nI n)
theorem ini_at (f : Nat → Int32) : ∀ n j, j < n → ini f n j = nI j
  | 0, j, h => absurd h (Nat.not_lt_zero j)
  | n + 1, j, h => by
    show upd (ini f n) n (nI n) j = _
    rw [updE]
    by_cases e : j = n
    · rw [if_pos e, e]
    · rw [if_neg e, ini_at f n j (by omega)]
theorem row_ini (f : Nat → Int32) : Row (ini f 54) := ⟨id, fun i hi => ⟨hi, ini_at f 54 i hi⟩, fun _ _ _ _ e => e⟩
theorem row_swp {f : Nat → Int32} (h : Row f) {a b : Nat} (ha : a < 54) (hb : b < 54) : Row (swp f a b) := by
  obtain ⟨v, hv, hi⟩ := h
  refine ⟨fun i => if i = b then v a else if i = a then v b else v i, fun i hi => ?_, fun i j h1 h2 e => ?_⟩
  · unfold swp
    rw [updE, updE]
    by_cases e : i = b
    · rw [if_pos e]; simp only [if_pos e]; exact hv a ha
    · rw [if_neg e]; simp only [if_neg e]
      by_cases e' : i = a
      · rw [if_pos e']; simp only [if_pos e']; exact hv b hb
      · rw [if_neg e']; simp only [if_neg e']; exact hv i hi
  · have key : ∀ i, i < 54 → (if i = b then v a else if i = a then v b else v i) = v (if i = b then a else if i = a then b else i) := by
      intro i _
      by_cases e : i = b
      · rw [if_pos e, if_pos e]
      · rw [if_neg e, if_neg e]
        by_cases e' : i = a
        · rw [if_pos e', if_pos e']
        · rw [if_neg e', if_neg e']
    have e2 : v (if i = b then a else if i = a then b else i) = v (if j = b then a else if j = a then b else j) := by
      rw [← key i h1, ← key j h2]; exact e
    have bd : ∀ i, i < 54 → (if i = b then a else if i = a then b else i) < 54 := by
      intro i h
      by_cases e : i = b
      · rw [if_pos e]; exact ha
      · rw [if_neg e]
        by_cases e' : i = a
        · rw [if_pos e']; exact hb
        · rw [if_neg e']; exact h
    have e3 := hi _ _ (bd i h1) (bd j h2) e2
    revert e3
    split <;> split <;> (try split) <;> (try split) <;> intro e3 <;> omega
theorem row_shf : ∀ i X f, i < 54 → Row f → Row (shf i X f)
  | 0, _, _, _, h => h
  | i + 1, X, f, hi, h => row_shf i (rnd X) _ (by omega) (row_swp h hi (Nat.lt_of_lt_of_le (Nat.mod_lt _ (by omega)) (by omega)))
theorem mul_nI (a b : Nat) : nI a * nI b = nI (a * b) := (Int32.ofNat_mul a b).symm
theorem e_rnd {X : Nat} (h : X < 65536) : tk_rem (((25173 : Int32) * nI X) + 13849) 65536 = nI (rnd X) := by
  rw [show (25173 : Int32) = nI 25173 from rfl, show (13849 : Int32) = nI 13849 from rfl, show (65536 : Int32) = nI 65536 from rfl, mul_nI, nI_add, e_rem (by omega) (by decide) (by decide)]
  rfl
theorem rnd_lt (X : Nat) : rnd X < 65536 := Nat.mod_lt _ (by decide)
theorem e_swap {a b : Nat} (ha : a < 54) (hb : b < 54) (S : tk_ST) : f_X1_swap (nI a) (nI b) S = some (tk_A S 0 (swp (S.2.2.1 0) a b)) := by
  unfold f_X1_swap
  rw [e_at2 ha, b1s, e_at2 hb, b1s, e_put2 ha, b1s, e_put2 hb, b1s, tk_AA]
  rfl
theorem nI_p1 (i : Nat) : nI (i + 1) + (-1 : Int32) = nI i := by
  rw [nI_succ]
  have : nI i + 1 + (-1 : Int32) = nI i := by rw [Int32.add_assoc, show (1 : Int32) + -1 = 0 from by decide, Int32.add_zero]
  exact this
theorem L_shH : ∀ n i X (S : tk_ST), i < n → i < 54 → X < 65536 → f_X1_shuffle_28 n (nI X) (nI i) S = some (tk_A S 0 (shf i X (S.2.2.1 0)))
  | 0, i, _, _, h, _, _ => absurd h (Nat.not_lt_zero i)
  | n + 1, 0, X, S, _, _, _ => by
    rw [f_X1_shuffle_28_s, if_pos (show nI 0 < 1 by decide)]
    exact congrArg some (tk_Aid S 0).symm
  | n + 1, i + 1, X, S, h, hi, hX => by
    have hm : rnd X % (i + 1 + 1) < i + 1 + 1 := Nat.mod_lt _ (by omega)
    rw [f_X1_shuffle_28_s, if_neg (show ¬ nI (i + 1) < 1 from nI_nlt (b := 1) (by omega) (by omega)), e_rnd hX, b1s, nI_1, if_neg (nI_ne0 (by omega) (by omega)), e_rem (by have := rnd_lt X; omega) (by omega) (by omega), e_swap hi (by omega), b1s, nI_p1, L_shH n i (rnd X) _ (by omega) (by omega) (rnd_lt X), tk_AA]
    rfl
theorem e_shH {X : Nat} (hX : X < 65536) (S : tk_ST) : f_X1_shuffle (nI X) S = some (tk_A S 0 (shf 53 X (ini (S.2.2.1 0) 54))) := by
  have key : ∀ m, m ≤ 54 → f_X1_shuffle_2 64 (nI X) 0 S = f_X1_shuffle_2 (64 - m) (nI X) (nI m) (tk_A S 0 (ini (S.2.2.1 0) m)) := by
    intro m
    induction m with
    | zero => intro _; show _ = f_X1_shuffle_2 64 (nI X) (nI 0) (tk_A S 0 (S.2.2.1 0)); rw [tk_Aid]; rfl
    | succ m ih =>
      intro hm
      rw [ih (by omega), show 64 - m = (64 - (m + 1)) + 1 by omega, f_X1_shuffle_2_s, if_neg (show ¬ (54 : Int32) ≤ nI m from nI_ge (b := 54) (by omega) (by decide)), e_put2 (by omega), b1s, nI_1, tk_AA]
      rfl
  unfold f_X1_shuffle
  rw [key 54 (by omega), show 64 - 54 = 9 + 1 from rfl, f_X1_shuffle_2_s, if_pos (show (54 : Int32) ≤ nI 54 by decide), show (53 : Int32) = nI 53 from rfl, L_shH 64 53 X _ (by omega) (by omega) hX, tk_AA]
  rfl
theorem tk_BB (S : tk_ST) (k : Nat) (a b : Nat → Int64) : tk_B (tk_B S k a) k b = tk_B S k b := by
  show (S.1, S.2.1, S.2.2.1, tk_up (tk_up S.2.2.2 k a) k b) = (S.1, S.2.1, S.2.2.1, tk_up S.2.2.2 k b)
  rw [tk_up_up]
theorem tk_Bid (S : tk_ST) (k : Nat) : tk_B S k (S.2.2.2 k) = S := by
  show (S.1, S.2.1, S.2.2.1, tk_up S.2.2.2 k (S.2.2.2 k)) = S
  rw [tk_up_id]
def hH (f : Nat → Int32) (F : Nat) (h : Nat → Int64) : Nat → Nat → Int64
  | 0 => h
  | m + 1 => vp_updL (hH f F h m) ((F + m) % 4) (orr f (m * 12) 12)
def rr (F p : Nat) : Nat := (p + 4 - F) % 4
theorem hH_at (f : Nat → Int32) {F : Nat} (hF : F < 4) (h : Nat → Int64) (p : Nat) : ∀ m, m ≤ 4 → hH f F h m p = if p < 4 ∧ rr F p < m then orr f (rr F p * 12) 12 else h p
  | 0, _ => by rw [if_neg (fun e => Nat.not_lt_zero _ e.2)]; rfl
  | m + 1, hm => by
    show vp_updL (hH f F h m) ((F + m) % 4) (orr f (m * 12) 12) p = _
    rw [updLE, hH_at f hF h p m (by omega)]
    by_cases e : p = (F + m) % 4
    · have e2 : rr F p = m := by unfold rr; omega
      rw [if_pos e, if_pos ⟨by omega, by omega⟩, e2]
    · rw [if_neg e]
      have e2 : p < 4 → rr F p ≠ m := by unfold rr; omega
      by_cases q : p < 4 ∧ rr F p < m
      · rw [if_pos q, if_pos ⟨q.1, by omega⟩]
      · rw [if_neg q, if_neg (fun y => q ⟨y.1, by have := e2 y.1; omega⟩)]
theorem e_handOut {S : tk_ST} {F : Nat} (hF : F < 4) (e : S.1 0 = nI F) : f_X6_handOut S = some (tk_L (tk_B S 0 (hH (S.2.2.1 0) F (S.2.2.2 0) 4)) 1 (orr (S.2.2.1 0) 48 6)) := by
  unfold f_X6_handOut
  rw [e]
  have key : ∀ m, m ≤ 4 → f_X6_handOut_7 64 (nI F) 0 S = f_X6_handOut_7 (64 - m) (nI ((F + m) % 4)) (nI m) (tk_B S 0 (hH (S.2.2.1 0) F (S.2.2.2 0) m)) := by
    intro m
    induction m with
    | zero => intro _; show _ = f_X6_handOut_7 64 (nI ((F + 0) % 4)) (nI 0) (tk_B S 0 (S.2.2.2 0)); rw [tk_Bid, Nat.add_zero, Nat.mod_eq_of_lt hF]; rfl
    | succ m ih =>
      intro hm
      rw [ih (by omega), show 64 - m = (64 - (m + 1)) + 1 by omega, f_X6_handOut_7_s, if_neg (show ¬ (4 : Int32) ≤ nI m from nI_ge (b := 4) (by omega) (by decide)), show (12 : Int32) = nI 12 from rfl, mul_nI, e_from (by omega), b1s, e_put13 (by omega), b1s, e_behind (by omega), b1s, nI_1, tk_BB, show ((F + m) % 4 + 1) % 4 = (F + (m + 1)) % 4 by omega]
      rfl
  rw [key 4 (by omega), show 64 - 4 = 59 + 1 from rfl, f_X6_handOut_7_s, if_pos (show (4 : Int32) ≤ nI 4 by decide), show (48 : Int32) = nI 48 from rfl, show (6 : Int32) = nI 6 from rfl, e_from (by omega), b1s]
  rfl
theorem div12 : ∀ m, m < 48 → nI m / 12 = nI (m / 12) := by decide +kernel
theorem e_p0 (v : Int64) (S : tk_ST) : f_X3_put_p15 (0 : Int32) v S = some (tk_B S 1 (vp_updL (S.2.2.2 1) 0 v)) := e_put15 (j := 0) (by decide) v S
theorem e_p1 (v : Int64) (S : tk_ST) : f_X3_put_p15 (1 : Int32) v S = some (tk_B S 1 (vp_updL (S.2.2.2 1) 1 v)) := e_put15 (j := 1) (by decide) v S
theorem e_clear (S : tk_ST) : ∃ C, f_X6_clearDeal S = some C ∧ C.1 0 = S.1 0 ∧ C.1 1 = S.1 1 ∧ C.1 3 = -1 ∧ C.1 4 = -1 ∧ C.1 5 = -1 ∧ C.1 6 = -1 ∧ C.1 8 = 0 ∧ C.1 9 = 0 ∧ C.1 10 = 0 ∧ C.1 11 = 0 ∧ C.1 12 = -1 ∧ C.1 13 = S.1 0 ∧ C.1 14 = 0 ∧ C.1 15 = S.1 15 ∧ C.2.1 0 = 0 ∧ C.2.2.1 = S.2.2.1 ∧ C.2.2.2 0 = S.2.2.2 0 ∧ C.2.2.2 1 0 = 0 ∧ C.2.2.2 1 1 = 0 := by
  unfold f_X6_clearDeal f_X0_clear f_X5_begin
  rw [b1s, b1s, b1s, e_p0, b1s, e_p1, b1s]
  exact ⟨_, rfl, rfl, rfl, rfl, rfl, rfl, rfl, rfl, rfl, rfl, rfl, rfl, rfl, rfl, rfl, rfl, rfl, rfl, rfl, rfl⟩
def bt (a b : Nat) : Bool := if su a = su b then decide (b < a) else decide (su a = 4)
def wst (kc : Nat → Nat) (b i : Nat) : Nat := if bt (kc i) (kc b) = true then i else b
def bst (kc : Nat → Nat) : Nat := wst kc (wst kc (wst kc 0 1) 2) 3
def Trk (f : Nat → Int32) (kc : Nat → Nat) : Prop := ∀ i, i < 4 → kc i < 54 ∧ f i = nI (kc i)
theorem wst_lt (kc : Nat → Nat) {b i : Nat} (hb : b < 4) (hi : i < 4) : wst kc b i < 4 := by unfold wst; split <;> assumption
theorem bst_lt (kc : Nat → Nat) : bst kc < 4 := wst_lt kc (wst_lt kc (wst_lt kc (by omega) (by omega)) (by omega)) (by omega)
theorem e_beats {a b : Nat} (ha : a < 54) (hb : b < 54) : f_X5_beats (nI a) (nI b) = some (if bt a b = true then 1 else 0) := by
  have s1 := su_lt a ha
  have s2 := su_lt b hb
  unfold f_X5_beats f_X5_beats_16 bt
  rw [e_suit a ha, b1s, e_suit b hb, b1s]
  by_cases q : su a = su b
  · rw [if_pos (show nI (su a) = nI (su b) by rw [q]), if_neg n10, if_pos q]
    by_cases r : b < a
    · rw [if_neg (nI_ge r (by omega)), if_pos (decide_eq_true r)]
    · rw [if_pos (nI_le (by omega) (by omega)), if_neg (by rw [decide_eq_true_iff]; exact r)]
  · rw [if_neg (fun e => q ((nI_eq (by omega) (by omega)).mp e)), if_pos rfl, b1s, if_neg q]
    by_cases r : su a = 4
    · rw [if_pos (show nI (su a) = 4 by rw [r]; rfl), if_pos (decide_eq_true r)]
    · rw [if_neg (show ¬ nI (su a) = 4 from fun e => r ((nI_eq (b := 4) (by omega) (by decide)).mp e)), if_neg (by rw [decide_eq_true_iff]; exact r)]
theorem L_win {S : tk_ST} {kc : Nat → Nat} (hk : Trk (S.2.2.1 1) kc) (e : S.1 14 = nI 4) (n : Nat) {b i : Nat} (hb : b < 4) (hi : i < 4) : f_X5_winner_4 (n + 1) (nI b) (nI i) S = f_X5_winner_4 n (nI (wst kc b i)) (nI (i + 1)) S := by
  rw [f_X5_winner_4_s, e, if_neg (nI_ge hi (by decide)), e_at6 hi, b1s, e_at6 hb, b1s, (hk i hi).2, (hk b hb).2, e_beats (hk i hi).1 (hk b hb).1, b1s]
  unfold f_X5_winner_36 wst
  rw [nI_1]
  by_cases q : bt (kc i) (kc b) = true
  · rw [if_pos q, if_neg n10, if_pos q]
  · rw [if_neg q, if_pos rfl, if_neg q]
theorem e_plAt {S : tk_ST} {L b : Nat} (hL : L < 4) (hb : b < 4) (e : S.1 13 = nI L) : f_X5_playerAt (nI b) S = some (nI ((L + b) % 4)) := by
  unfold f_X5_playerAt
  rw [e, nI_add, show (4 : Int32) = nI 4 from rfl, e_rem (by omega) (by decide) (by decide)]
theorem e_win {S : tk_ST} {kc : Nat → Nat} {L : Nat} (hL : L < 4) (eL : S.1 13 = nI L) (hk : Trk (S.2.2.1 1) kc) (e : S.1 14 = nI 4) : f_X5_winner S = some (nI ((L + bst kc) % 4)) := by
  unfold f_X5_winner
  show f_X5_winner_4 (63 + 1) (nI 0) (nI 1) S = _
  rw [L_win hk e 63 (by omega) (by omega), L_win hk e 62 (wst_lt kc (by omega) (by omega)) (by omega), L_win hk e 61 (wst_lt kc (wst_lt kc (by omega) (by omega)) (by omega)) (by omega), f_X5_winner_4_s, e, if_pos (show nI 4 ≤ nI (3 + 1) by decide), show wst kc (wst kc (wst kc 0 1) (1 + 1)) (1 + 1 + 1) = bst kc from rfl, e_plAt hL (bst_lt kc) eL]
  rfl
def fnd (kc : Nat → Nat) (c : Nat) : Nat := if kc 0 = c then 0 else if kc 1 = c then 1 else if kc 2 = c then 2 else if kc 3 = c then 3 else 4
theorem L_plOf {S : tk_ST} {kc : Nat → Nat} {L : Nat} (hL : L < 4) (eL : S.1 13 = nI L) (hk : Trk (S.2.2.1 1) kc) (e : S.1 14 = nI 4) {c : Nat} (hc : c < 54) (n : Nat) {i : Nat} (hi : i < 4) : f_X5_playerOf_2 (n + 1) (nI c) (nI i) S = if kc i = c then some (nI ((L + i) % 4)) else f_X5_playerOf_2 n (nI c) (nI (i + 1)) S := by
  have := (hk i hi).1
  rw [f_X5_playerOf_2_s, e, if_neg (nI_ge hi (by decide)), e_at6 hi, b1s, (hk i hi).2, e_plAt hL hi eL, b1s, nI_1]
  by_cases q : kc i = c
  · rw [if_pos (show nI (kc i) = nI c by rw [q]), if_pos q]
  · rw [if_neg (fun e => q ((nI_eq (by omega) (by omega)).mp e)), if_neg q]
theorem e_plOf {S : tk_ST} {kc : Nat → Nat} {L : Nat} (hL : L < 4) (eL : S.1 13 = nI L) (hk : Trk (S.2.2.1 1) kc) (e : S.1 14 = nI 4) {c : Nat} (hc : c < 54) : f_X5_playerOf (nI c) S = some (if fnd kc c < 4 then nI ((L + fnd kc c) % 4) else -1) := by
  unfold f_X5_playerOf fnd
  show f_X5_playerOf_2 (63 + 1) (nI c) (nI 0) S = _
  rw [L_plOf hL eL hk e hc 63 (by omega)]
  by_cases q0 : kc 0 = c
  · rw [if_pos q0, if_pos q0, if_pos (by omega)]
  · rw [if_neg q0, if_neg q0, L_plOf hL eL hk e hc 62 (by omega)]
    by_cases q1 : kc (0 + 1) = c
    · rw [if_pos q1, if_pos (show kc 1 = c from q1), if_pos (by omega)]
    · rw [if_neg q1, if_neg (show ¬ kc 1 = c from q1), L_plOf hL eL hk e hc 61 (by omega)]
      by_cases q2 : kc (0 + 1 + 1) = c
      · rw [if_pos q2, if_pos (show kc 2 = c from q2), if_pos (by omega)]
      · rw [if_neg q2, if_neg (show ¬ kc 2 = c from q2), L_plOf hL eL hk e hc 60 (by omega)]
        by_cases q3 : kc (0 + 1 + 1 + 1) = c
        · rw [if_pos q3, if_pos (show kc 3 = c from q3), if_pos (by omega)]
        · rw [if_neg q3, if_neg (show ¬ kc 3 = c from q3), if_neg (by omega), f_X5_playerOf_2_s, e, if_pos (show nI 4 ≤ nI (3 + 1) by decide)]
theorem L_set {S : tk_ST} (e : S.1 14 = nI 4) (n : Nat) {x : Int64} {i : Nat} (hi : i < 4) : f_X5_cardSet_4 (n + 1) x (nI i) S = f_X5_cardSet_4 n (x ||| jbI (S.2.2.1 1 i)) (nI (i + 1)) S := by
  rw [f_X5_cardSet_4_s, e, if_neg (nI_ge hi (by decide)), e_at6 hi, b1s, nI_1]; rfl
theorem e_set {S : tk_ST} (e : S.1 14 = nI 4) : f_X5_cardSet S = some (orr (S.2.2.1 1) 0 4) := by
  unfold f_X5_cardSet
  show f_X5_cardSet_4 (63 + 1) 0 (nI 0) S = _
  rw [L_set e 63 (by omega), L_set e 62 (by omega), L_set e 61 (by omega), L_set e 60 (by omega), f_X5_cardSet_4_s, e, if_pos (show nI 4 ≤ nI (3 + 1) by decide)]
  rfl
theorem e_pag39 {S : tk_ST} {b0 b1 : Nat} (h0 : b0 < 2) (h1 : b1 < 2) (e : S.1 8 = nI (b0 + 2 * b1)) (x x3 k : Int32) : f_X6_pagatPoints_39 x x3 k S = some (if b0 = 0 then (if x = -1 then 0 else if x3 = k then 25 else -25) else (if x3 = 0 then -50 else if k = 0 then -50 else 50)) := by
  unfold f_X6_pagatPoints_39
  rw [show f_X6_isAnnounced (0 : Int32) S = some (nI b0) from e_ann (j := 0) h0 h1 (by decide) e, b1s]
  rcases (show b0 = 0 ∨ b0 = 1 by omega) with rfl | rfl
  · rw [if_pos (show nI 0 = 0 from rfl), if_pos rfl]
    by_cases q : x = -1
    · rw [if_pos q, if_pos q]
    · rw [if_neg q, if_neg q]
      by_cases q : x3 = k
      · rw [if_pos q, if_pos q]
      · rw [if_neg q, if_neg q]
  · rw [if_neg (show ¬ nI 1 = 0 from n10), if_neg (by decide : ¬ 1 = 0)]
    by_cases q : x3 = 0
    · rw [if_pos q, if_pos q]
    · rw [if_neg q, if_neg q]
      by_cases q : k = 0
      · rw [if_pos q, if_pos q]
      · rw [if_neg q, if_neg q]
theorem e_pag20 {S : tk_ST} {b0 b1 : Nat} (h0 : b0 < 2) (h1 : b1 < 2) (e : S.1 8 = nI (b0 + 2 * b1)) (x k : Int32) : f_X6_pagatPoints_20 x k S = some (if b0 = 0 then (if x = -1 then 0 else if k = (if x = -1 then 0 else if sd x (S.1 3) (S.1 6) = 0 then 1 else 0) then 25 else -25) else (if k = 0 then -50 else if (if x = -1 then (0 : Int32) else if sd x (S.1 3) (S.1 6) = 0 then 1 else 0) = 0 then -50 else 50)) := by
  unfold f_X6_pagatPoints_20 f_X6_pagatPoints_38
  by_cases q : x = -1
  · rw [if_pos q, e_pag39 h0 h1 e, if_pos q]
    simp only [if_pos q]
  · rw [if_neg q, e_side, b1s, if_neg q]
    simp only [if_neg q]
    by_cases r : sd x (S.1 3) (S.1 6) = 0
    · rw [if_pos r, e_pag39 h0 h1 e]; simp only [if_pos r, if_neg q]
    · rw [if_neg r, e_pag39 h0 h1 e]; simp only [if_neg r, if_neg q]
theorem sd01 (p d q : Int32) : sd p d q = 0 ∨ sd p d q = 1 := by
  unfold sd
  by_cases h : p = d
  · rw [if_pos h]; exact Or.inl rfl
  · rw [if_neg h]
    by_cases h : p = q
    · rw [if_pos h]; exact Or.inl rfl
    · rw [if_neg h]; exact Or.inr rfl
theorem e_kin46 {S : tk_ST} {b0 b1 : Nat} (h0 : b0 < 2) (h1 : b1 < 2) (e : S.1 8 = nI (b0 + 2 * b1)) (x k : Int32) : f_X6_kingPoints_46 x k S = some (if b1 = 0 then (if x = 0 then 0 else if k = 0 then -10 else 10) else (if k = 0 then -20 else 20)) := by
  unfold f_X6_kingPoints_46
  rw [show f_X6_isAnnounced (1 : Int32) S = some (nI b1) from e_ann (j := 1) h0 h1 (by decide) e, b1s]
  rcases (show b1 = 0 ∨ b1 = 1 by omega) with rfl | rfl
  · rw [if_pos (show nI 0 = 0 from rfl), if_pos rfl]
    by_cases q : x = 0
    · rw [if_pos q, if_pos q]
    · rw [if_neg q, if_neg q]
      by_cases q : k = 0
      · rw [if_pos q, if_pos q]
      · rw [if_neg q, if_neg q]
  · rw [if_neg (show ¬ nI 1 = 0 from n10), if_neg (by decide : ¬ 1 = 0)]
    by_cases q : k = 0
    · rw [if_pos q, if_pos q]
    · rw [if_neg q, if_neg q]
theorem dif3 : ∀ n, n < 703 → ((if (0 : Int32) ≤ nI n - 105 then nI n - 105 else 0 - (nI n - 105)) / 3 : Int32) = (if n ≤ 105 then 105 - nI n else nI n - 105) / 3 := by decide +kernel
def Same (S S' : tk_ST) (a b : Nat) : Prop := S'.2.1 = S.2.1 ∧ S'.2.2.2 = S.2.2.2 ∧ ∀ j, j ≠ a → j ≠ b → S'.2.2.1 j = S.2.2.1 j
theorem e_addScore {p : Nat} (hp : p < 4) (S : tk_ST) : f_X4_addScore (nI p) S = some (tk_A S 2 (upd (S.2.2.1 2) p (S.2.2.1 2 p + S.1 15))) := by
  unfold f_X4_addScore
  rw [e_at9 hp, b1s, e_put9 hp, b1s]
def plus (f : Nat → Int32) (d q r : Int32) : Nat → Int32 := fun j => f j + if j < 4 ∧ sd (nI j) d q = 0 then r else 0
theorem e_62 {d : Nat} (hd : d < 4) {q : Int32} (hq : q = -1 ∨ ∃ q', q' < 4 ∧ q = nI q' ∧ q ≠ nI d) (S : tk_ST) : ∃ S', f_X4_enter_62 (nI d) q S = some S' ∧ S'.1 = S.1 ∧ Same S S' 2 2 ∧ S'.2.2.1 2 = plus (S.2.2.1 2) (nI d) q (S.1 15) := by
  unfold f_X4_enter_62
  rw [e_addScore hd, b1s]
  have sdd : sd (nI d) (nI d) q = 0 := by unfold sd; rw [if_pos rfl]
  have sdn : ∀ j, j < 4 → j ≠ d → sd (nI j) (nI d) q = if nI j = q then 0 else 1 := by
    intro j hj e
    unfold sd
    rw [if_neg (fun y => e ((nI_eq (by omega) (by omega)).mp y))]
  rcases hq with rfl | ⟨q', hq', rfl, hne⟩
  · rw [if_pos rfl]
    refine ⟨_, rfl, rfl, ⟨rfl, rfl, fun j h2 _ => by rw [uA3, if_neg h2]⟩, ?_⟩
    rw [uA3, if_pos rfl]
    funext j
    rw [updE]
    unfold plus
    by_cases e : j = d
    · rw [if_pos e, if_pos ⟨by omega, by rw [e]; exact sdd⟩, e]
    · rw [if_neg e, if_neg, Int32.add_zero]
      rintro ⟨j4, y⟩
      rw [sdn j j4 e, if_neg (n1I (by omega))] at y
      exact absurd y (by decide)
  · have hqd : q' ≠ d := fun e => hne (by rw [e])
    rw [if_neg (n1I (by omega)), e_addScore hq', b1s]
    refine ⟨_, rfl, rfl, ⟨rfl, rfl, fun j h2 _ => by rw [uA3, if_neg h2, uA3, if_neg h2]⟩, ?_⟩
    rw [uA3, if_pos rfl]
    funext j
    rw [updE, uA3, if_pos rfl, updE, updE, if_neg hqd]
    unfold plus
    by_cases e : j = q'
    · rw [if_pos e, if_pos ⟨by omega, by rw [e, sdn q' hq' hqd, if_pos rfl]⟩, e]; rfl
    · rw [if_neg e]
      by_cases e' : j = d
      · rw [if_pos e', if_pos ⟨by omega, by rw [e']; exact sdd⟩, e']
      · rw [if_neg e', if_neg, Int32.add_zero]
        rintro ⟨j4, y⟩
        rw [sdn j j4 e', if_neg (fun y => e ((nI_eq (by omega) (by omega)).mp y))] at y
        exact absurd y (by decide)
theorem L_give {S : tk_ST} : ∀ m, m ≤ 4 → ∃ S', f_X4_giveRadli_2 64 0 S = f_X4_giveRadli_2 (64 - m) (nI m) S' ∧ S'.1 = S.1 ∧ Same S S' 3 3 ∧ S'.2.2.1 3 = fun j => S.2.2.1 3 j + if j < m then 1 else 0
  | 0, _ => ⟨S, rfl, rfl, ⟨rfl, rfl, fun _ _ _ => rfl⟩, by funext j; rw [if_neg (Nat.not_lt_zero j), Int32.add_zero]⟩
  | m + 1, h => by
    obtain ⟨A, x1, x2, ⟨x3, x4, x5⟩, x6⟩ := L_give (S := S) m (by omega)
    rw [x1, show 64 - m = (64 - (m + 1)) + 1 by omega, f_X4_giveRadli_2_s, if_neg (show ¬ (4 : Int32) ≤ nI m from nI_ge (b := 4) (by omega) (by decide)), e_at11 (by omega), b1s, e_put11 (by omega), b1s, nI_1]
    refine ⟨_, rfl, x2, ⟨x3, x4, fun j h1 h2 => by rw [uA3, if_neg h1]; exact x5 j h1 h2⟩, ?_⟩
    rw [uA3, if_pos rfl]
    funext j
    rw [updE, x6]
    by_cases e : j = m
    · rw [if_pos e, e]; simp only [if_neg (Nat.lt_irrefl m), if_pos (Nat.lt_succ_self m), Int32.add_zero]
    · rw [if_neg e]
      by_cases q : j < m
      · simp only [if_pos q, if_pos (show j < m + 1 by omega)]
      · simp only [if_neg q, if_neg (show ¬ j < m + 1 by omega)]
theorem e_give (S : tk_ST) : ∃ S', f_X4_giveRadli S = some S' ∧ S'.1 = S.1 ∧ Same S S' 3 3 ∧ S'.2.2.1 3 = fun j => S.2.2.1 3 j + if j < 4 then 1 else 0 := by
  obtain ⟨A, x1, x2, x3, x4⟩ := L_give (S := S) 4 (by omega)
  refine ⟨A, ?_, x2, x3, x4⟩
  unfold f_X4_giveRadli
  rw [x1, show 64 - 4 = 59 + 1 from rfl, f_X4_giveRadli_2_s, if_pos (show (4 : Int32) ≤ nI 4 by decide)]
theorem upd_same (f : Nat → Int32) (d : Nat) : upd f d (f d - 0) = f := by
  funext j
  rw [updE]
  by_cases e : j = d
  · rw [if_pos e, e, Int32.sub_zero]
  · rw [if_neg e]
def resR (f : Nat → Int32) (d : Nat) (pts : Int32) : Int32 := if f d ≤ 0 then pts else pts * 2
def resA (f : Nat → Int32) (d t : Nat) : Nat → Int32 := if f d ≤ 0 then f else if t ≤ 105 then f else upd f d (f d - 1)
theorem e_enter {d t : Nat} (hd : d < 4) (ht : t ≤ 702) (q pts : Int32) (S : tk_ST) : ∃ X, f_X4_enter (nI d) q pts (if t ≤ 105 then 0 else 1) S = f_X4_enter_62 (nI d) q X ∧ X.1 15 = resR (S.2.2.1 3) d pts ∧ (∀ i, i ≠ 15 → X.1 i = S.1 i) ∧ Same S X 3 3 ∧ X.2.2.1 3 = resA (S.2.2.1 3) d t := by
  unfold f_X4_enter f_X4_enter_16 f_X4_enter_31 resR resA
  rw [e_at11 hd, b1s]
  by_cases r : S.2.2.1 3 d ≤ 0
  · rw [if_pos r, if_pos rfl, if_pos rfl, if_pos r, if_pos r]
    exact ⟨_, rfl, rfl, fun i hi => by rw [uI1, if_neg hi], ⟨rfl, rfl, fun _ _ _ => rfl⟩, rfl⟩
  · rw [if_neg r, if_neg n10, if_neg n10, if_neg r, if_neg r]
    by_cases w : t ≤ 105
    · rw [if_pos w, if_pos rfl, if_pos w]
      exact ⟨_, rfl, Int32.mul_comm _ _, fun i hi => by rw [uI1, if_neg hi], ⟨rfl, rfl, fun _ _ _ => rfl⟩, rfl⟩
    · rw [if_neg w, if_neg n10, if_neg w, e_at11 hd, b1s, e_put11 hd, b1s]
      exact ⟨_, rfl, Int32.mul_comm _ _, fun i hi => by rw [uA1, uI1, if_neg hi], ⟨rfl, rfl, fun j h1 _ => by rw [uA3, if_neg h1]; rfl⟩, by rw [uA3, if_pos rfl]; rfl⟩
theorem e_won {t : Nat} (ht : t ≤ 702) : f_X6_isWon (nI t) = some (if t ≤ 105 then 0 else 1) := by
  unfold f_X6_isWon
  by_cases w : t ≤ 105
  · rw [if_pos (show nI t ≤ 105 from nI_le (b := 105) w (by decide)), if_pos w]
  · rw [if_neg (show ¬ nI t ≤ 105 from nI_ge (a := 105) (by omega) (by omega)), if_neg w]
theorem orA (x y z : Int64) : (x ||| y) ||| z = x ||| (y ||| z) := tbX fun c => by
  rw [tbO, tbO, tbO, tbO]
  exact ⟨fun e => e.elim (fun e => e.elim Or.inl (fun e => Or.inr (Or.inl e))) (fun e => Or.inr (Or.inr e)), fun e => e.elim (fun e => Or.inl (Or.inl e)) (fun e => e.elim (fun e => Or.inl (Or.inr e)) Or.inr)⟩
def sn (s : Int32) : Nat := if s = 0 then 0 else 1
theorem e_endTrick {S : tk_ST} {w T : Nat} (e14 : S.1 14 = nI 4) (e9 : S.1 9 = nI T) : f_X6_endTrick (nI w) S = (fun S15 : tk_ST => if nI (T + 1) = 12 then (tk_b1 (f_X6_enterResult (nI w) (tk_I (tk_I S15 9 (nI (T + 1))) 2 (nI w))) fun S19 => some (tk_I (tk_I (tk_I (tk_I S19 1 0) 2 (-1)) 13 (nI w)) 14 0)) else some (tk_I (tk_I (tk_I (tk_I S15 9 (nI (T + 1))) 2 (nI w)) 13 (nI w)) 14 0)) (tk_B S 1 (vp_updL (S.2.2.2 1) (sn (sd (nI w) (S.1 3) (S.1 6))) (S.2.2.2 1 (sn (sd (nI w) (S.1 3) (S.1 6))) ||| orr (S.2.2.1 1) 0 4))) := by
  have hs : sd (nI w) (S.1 3) (S.1 6) = nI (sn (sd (nI w) (S.1 3) (S.1 6))) := by
    unfold sn
    rcases sd01 (nI w) (S.1 3) (S.1 6) with r | r
    · rw [r]; rfl
    · rw [r]; rfl
  have hs2 : sn (sd (nI w) (S.1 3) (S.1 6)) < 2 := by unfold sn; split <;> omega
  unfold f_X6_endTrick f_X6_endTrick_63 f_X5_begin f_X6_endDeal
  rw [e_side, b1s]
  generalize hg : sn (sd (nI w) (S.1 3) (S.1 6)) = s at hs hs2
  rw [hs, e_at15 hs2, b1s, e_set e14, b1s, e_put15 hs2, b1s, show (tk_B S 1 (vp_updL (S.2.2.2 1) s (S.2.2.2 1 s ||| orr (S.2.2.1 1) 0 4))).1 9 = nI T from e9, nI_1]
  rfl
theorem e_first {S : tk_ST} {c t z : Nat} (ht : t < 4) (hz : z < 4) (et : S.1 2 = nI t) (ez : S.1 14 = nI z) : f_X6_addToTrick (nI c) S = (fun SA : tk_ST => if (4 : Int32) ≤ nI (z + 1) then (tk_b1 (f_X5_winner SA) fun r14 => (tk_b1 (f_X6_endTrick r14 SA) fun S19 => some (r14, S19))) else some (-1, tk_I SA 2 (nI ((t + 1) % 4)))) (tk_I (tk_A (tk_B S 0 (less (S.2.2.2 0) t c)) 1 (upd (S.2.2.1 1) z (nI c))) 14 (nI (z + 1))) := by
  unfold f_X6_addToTrick f_X5_add
  rw [et, e_at13 ht, b1s, show f_X6_only (nI c) = some (jb c) from rfl, b1s, e_put13 ht, b1s, show (tk_B S 0 (vp_updL (S.2.2.2 0) t (S.2.2.2 0 t &&& (jb c ^^^ -1)))).1 14 = nI z from ez, e_put6 hz, b1s, b1s, show (tk_A (tk_B S 0 (vp_updL (S.2.2.2 0) t (S.2.2.2 0 t &&& (jb c ^^^ -1)))) 1 (upd ((tk_B S 0 (vp_updL (S.2.2.2 0) t (S.2.2.2 0 t &&& (jb c ^^^ -1)))).2.2.1 1) z (nI c))).1 14 = nI z from ez, nI_1]
  rw [show (tk_I (tk_A (tk_B S 0 (vp_updL (S.2.2.2 0) t (S.2.2.2 0 t &&& (jb c ^^^ -1)))) 1 (upd ((tk_B S 0 (vp_updL (S.2.2.2 0) t (S.2.2.2 0 t &&& (jb c ^^^ -1)))).2.2.1 1) z (nI c))) 14 (nI (z + 1))).1 2 = nI t from et, e_behind ht, b1s]
  rfl
theorem cn_play {h : Nat → Int64} {L z T c t : Nat} (hL : L < 4) (hz : z < 4) (hT : T < 12) (hc : c < 54) (et : t = (L + z) % 4) (hh : tb (h t) c = true) (hcn : ∀ p, p < 4 → cn (h p) = 12 - T - (if (p + 4 - L) % 4 < z then 1 else 0)) : ∀ p, p < 4 → cn (less h t c p) = 12 - T - (if (p + 4 - L) % 4 < z + 1 then 1 else 0) := by
  intro p hp
  have h1 := hcn p hp
  by_cases e : p = t
  · have h2 := less_cn (h := h) (d := t) hc hh
    rw [e] at h1 ⊢
    rw [if_neg (by omega)] at h1
    rw [if_pos (by omega)]
    omega
  · rw [less_ne e, h1]
    have e2 : (p + 4 - L) % 4 ≠ z := by omega
    by_cases q : (p + 4 - L) % 4 < z
    · rw [if_pos q, if_pos (by omega)]
    · rw [if_neg q, if_neg (by omega)]
theorem least (x : Int64) : ∀ n, (∀ i, i < n → ¬ tb x i = true) ∨ ∃ c, c < n ∧ tb x c = true ∧ ∀ i, i < c → ¬ tb x i = true
  | 0 => Or.inl fun i hi => absurd hi (Nat.not_lt_zero i)
  | n + 1 => by
    rcases least x n with h | ⟨c, h1, h2, h3⟩
    · by_cases e : tb x n = true
      · exact Or.inr ⟨n, by omega, e, h⟩
      · refine Or.inl fun i hi => ?_
        by_cases q : i = n
        · rw [q]; exact e
        · exact h i (by omega)
    · exact Or.inr ⟨c, by omega, h2, h3⟩
theorem L_low {x : Int64} {c : Nat} (hc : c < 54) (h : tb x c = true) (hm : ∀ i, i < c → ¬ tb x i = true) : ∀ n j, j ≤ c → c - j < n → f_X6_lowestOf_2 n x (nI j) = some (nI c)
  | 0, _, _, g => absurd g (Nat.not_lt_zero _)
  | n + 1, j, hj, g => by
    rw [f_X6_lowestOf_2_s, if_neg (show ¬ (54 : Int32) ≤ nI j from nI_ge (b := 54) (by omega) (by decide)), e_holds (by omega), b1s]
    by_cases q : j = c
    · subst q; rw [if_pos h, if_neg n10]
    · rw [if_neg (hm j (by omega)), if_pos rfl, nI_1, L_low hc h hm n (j + 1) (by omega) (by omega)]
