/-! deal: the row of cards -/
theorem tk_up_up {α : Type} (f : Nat → α) (k : Nat) (a b : α) : tk_up (tk_up f k a) k b = tk_up f k b := by
  funext j
  rw [up_eq, up_eq, up_eq]
  by_cases e : j = k
  · rw [if_pos e, if_pos e]
  · rw [if_neg e, if_neg e, if_neg e]
theorem tk_up_id {α : Type} (f : Nat → α) (k : Nat) : tk_up f k (f k) = f := by
  funext j
  rw [up_eq]
  by_cases e : j = k
  · rw [if_pos e, e]
  · rw [if_neg e]
theorem tk_AA (S : tk_ST) (k : Nat) (a b : Nat → Int32) : tk_A (tk_A S k a) k b = tk_A S k b := by
  show (S.1, S.2.1, tk_up (tk_up S.2.2.1 k a) k b, S.2.2.2) = (S.1, S.2.1, tk_up S.2.2.1 k b, S.2.2.2)
  rw [tk_up_up]
theorem tk_Aid (S : tk_ST) (k : Nat) : tk_A S k (S.2.2.1 k) = S := by
  show (S.1, S.2.1, tk_up S.2.2.1 k (S.2.2.1 k), S.2.2.2) = S
  rw [tk_up_id]
def rnd (X : Nat) : Nat := (25173 * X + 13849) % 65536
def swp (f : Nat → Int32) (a b : Nat) : Nat → Int32 := upd (upd f a (f b)) b (f a)
def shf : Nat → Nat → (Nat → Int32) → Nat → Int32
  | 0, _, f => f
  | i + 1, X, f => shf i (rnd X) (swp f (i + 1) (rnd X % (i + 2)))
def ini (f : Nat → Int32) : Nat → Nat → Int32
  | 0 => f
  | n + 1 => upd (ini f n) n (nI n)
theorem ini_at (f : Nat → Int32) : ∀ n j, j < n → ini f n j = nI j
  | 0, j, h => absurd h (Nat.not_lt_zero j)
  | n + 1, j, h => by
    show upd (ini f n) n (nI n) j = _
    rw [updE]
    by_cases e : j = n
    · rw [if_pos e, e]
    · rw [if_neg e, ini_at f n j (by omega)]
theorem row_ini (f : Nat → Int32) : Row (ini f 54) := ⟨id, fun i hi => ⟨hi, ini_at f 54 i hi⟩, fun _ _ _ _ e => e⟩
theorem row_swp {f : Nat → Int32} (h : Row f) {a b : Nat} (ha : a < 54) (hb : b < 54) : Row (swp f a b) := by
  obtain ⟨v, hv, hi⟩ := h
  refine ⟨fun i => if i = b then v a else if i = a then v b else v i, fun i hi => ?_, fun i j h1 h2 e => ?_⟩
  · unfold swp
    rw [updE, updE]
    by_cases e : i = b
    · rw [if_pos e]; simp only [if_pos e]; exact hv a ha
    · rw [if_neg e]; simp only [if_neg e]
      by_cases e' : i = a
      · rw [if_pos e']; simp only [if_pos e']; exact hv b hb
      · rw [if_neg e']; simp only [if_neg e']; exact hv i hi
  · have key : ∀ i, i < 54 → (if i = b then v a else if i = a then v b else v i) = v (if i = b then a else if i = a then b else i) := by
      intro i _
      by_cases e : i = b
      · rw [if_pos e, if_pos e]
      · rw [if_neg e, if_neg e]
        by_cases e' : i = a
        · rw [if_pos e', if_pos e']
        · rw [if_neg e', if_neg e']
    have e2 : v (if i = b then a else if i = a then b else i) = v (if j = b then a else if j = a then b else j) := by
      rw [← key i h1, ← key j h2]; exact e
    have bd : ∀ i, i < 54 → (if i = b then a else if i = a then b else i) < 54 := by
      intro i h
      by_cases e : i = b
      · rw [if_pos e]; exact ha
      · rw [if_neg e]
        by_cases e' : i = a
        · rw [if_pos e']; exact hb
        · rw [if_neg e']; exact h
    have e3 := hi _ _ (bd i h1) (bd j h2) e2
    revert e3
    split <;> split <;> (try split) <;> (try split) <;> intro e3 <;> omega
theorem row_shf : ∀ i X f, i < 54 → Row f → Row (shf i X f)
  | 0, _, _, _, h => h
  | i + 1, X, f, hi, h => row_shf i (rnd X) _ (by omega) (row_swp h hi (Nat.lt_of_lt_of_le (Nat.mod_lt _ (by omega)) (by omega)))
theorem mul_nI (a b : Nat) : nI a * nI b = nI (a * b) := (Int32.ofNat_mul a b).symm
theorem e_rnd {X : Nat} (h : X < 65536) : tk_rem (((25173 : Int32) * nI X) + 13849) 65536 = nI (rnd X) := by
  rw [show (25173 : Int32) = nI 25173 from rfl, show (13849 : Int32) = nI 13849 from rfl, show (65536 : Int32) = nI 65536 from rfl, mul_nI, nI_add, e_rem (by omega) (by decide) (by decide)]
  rfl
theorem rnd_lt (X : Nat) : rnd X < 65536 := Nat.mod_lt _ (by decide)
theorem e_swap {a b : Nat} (ha : a < 54) (hb : b < 54) (S : tk_ST) : f_X1_swap (nI a) (nI b) S = some (tk_A S 0 (swp (S.2.2.1 0) a b)) := by
  unfold f_X1_swap
  rw [e_at2 ha, b1s, e_at2 hb, b1s, e_put2 ha, b1s, e_put2 hb, b1s, tk_AA]
  rfl
theorem nI_p1 (i : Nat) : nI (i + 1) + (-1 : Int32) = nI i := by
  rw [nI_succ]
  have : nI i + 1 + (-1 : Int32) = nI i := by rw [Int32.add_assoc, show (1 : Int32) + -1 = 0 from by decide, Int32.add_zero]
  exact this
theorem L_shH : ∀ n i X (S : tk_ST), i < n → i < 54 → X < 65536 → f_X1_shuffle_28 n (nI X) (nI i) S = some (tk_A S 0 (shf i X (S.2.2.1 0)))
  | 0, i, _, _, h, _, _ => absurd h (Nat.not_lt_zero i)
  | n + 1, 0, X, S, _, _, _ => by
    rw [f_X1_shuffle_28_s, if_pos (show nI 0 < 1 by decide)]
    exact congrArg some (tk_Aid S 0).symm
  | n + 1, i + 1, X, S, h, hi, hX => by
    have hm : rnd X % (i + 1 + 1) < i + 1 + 1 := Nat.mod_lt _ (by omega)
    rw [f_X1_shuffle_28_s, if_neg (show ¬ nI (i + 1) < 1 from nI_nlt (b := 1) (by omega) (by omega)), e_rnd hX, b1s, nI_1, if_neg (nI_ne0 (by omega) (by omega)), e_rem (by have := rnd_lt X; omega) (by omega) (by omega), e_swap hi (by omega), b1s, nI_p1, L_shH n i (rnd X) _ (by omega) (by omega) (rnd_lt X), tk_AA]
    rfl
theorem e_shH {X : Nat} (hX : X < 65536) (S : tk_ST) : f_X1_shuffle (nI X) S = some (tk_A S 0 (shf 53 X (ini (S.2.2.1 0) 54))) := by
  have key : ∀ m, m ≤ 54 → f_X1_shuffle_2 64 (nI X) 0 S = f_X1_shuffle_2 (64 - m) (nI X) (nI m) (tk_A S 0 (ini (S.2.2.1 0) m)) := by
    intro m
    induction m with
    | zero => intro _; show _ = f_X1_shuffle_2 64 (nI X) (nI 0) (tk_A S 0 (S.2.2.1 0)); rw [tk_Aid]; rfl
    | succ m ih =>
      intro hm
      rw [ih (by omega), show 64 - m = (64 - (m + 1)) + 1 by omega, f_X1_shuffle_2_s, if_neg (show ¬ (54 : Int32) ≤ nI m from nI_ge (b := 54) (by omega) (by decide)), e_put2 (by omega), b1s, nI_1, tk_AA]
      rfl
  unfold f_X1_shuffle
  rw [key 54 (by omega), show 64 - 54 = 9 + 1 from rfl, f_X1_shuffle_2_s, if_pos (show (54 : Int32) ≤ nI 54 by decide), show (53 : Int32) = nI 53 from rfl, L_shH 64 53 X _ (by omega) (by omega) hX, tk_AA]
  rfl
theorem L_shM : ∀ n i X (S : tk_ST), i < n → i < 54 → X < 65536 → f_X7_deal_61 n (nI X) (nI i) S = f_X7_deal_142 64 0 (tk_I (tk_I (tk_A S 0 (shf i X (S.2.2.1 0))) 3 (tk_rem (S.1 2) 4)) 2 (S.1 2 + 1))
  | 0, i, _, _, h, _, _ => absurd h (Nat.not_lt_zero i)
  | n + 1, 0, X, S, _, _, _ => by
    rw [f_X7_deal_61_s, if_pos (show nI 0 ≤ 0 by decide)]
    show _ = f_X7_deal_142 64 0 (tk_I (tk_I (tk_A S 0 (S.2.2.1 0)) 3 (tk_rem (S.1 2) 4)) 2 (S.1 2 + 1))
    rw [tk_Aid]
  | n + 1, i + 1, X, S, h, hi, hX => by
    have hm : rnd X % (i + 1 + 1) < i + 1 + 1 := Nat.mod_lt _ (by omega)
    rw [f_X7_deal_61_s, if_neg (show ¬ nI (i + 1) ≤ 0 from nI_nle (by omega) (by omega)), e_rnd hX, b1s, if_neg (inR hi (by decide)), nI_1, if_neg (nI_ne0 (by omega) (by omega)), e_rem (by have := rnd_lt X; omega) (by omega) (by omega), if_neg (inR (show rnd X % (i + 1 + 1) < 54 by omega) (by decide)), cl (by omega), cl (by omega), if_neg (inR2 hi (by omega)), b1s, if_neg (nI_ne0 (by omega) (by omega)), if_neg (inR2 (show rnd X % (i + 1 + 1) < 54 by omega) (by omega)), b1s, nI_p1, L_shM n i (rnd X) _ (by omega) (by omega) (rnd_lt X), tk_AA, tk_AA]
    rfl
theorem e_shM {X : Nat} (hX : X < 65536) (S : tk_ST) : f_X7_deal_37 64 (nI X) 0 S = f_X7_deal_142 64 0 (tk_I (tk_I (tk_A S 0 (shf 53 X (ini (S.2.2.1 0) 54))) 3 (tk_rem (S.1 2) 4)) 2 (S.1 2 + 1)) := by
  have key : ∀ m, m ≤ 54 → f_X7_deal_37 64 (nI X) 0 S = f_X7_deal_37 (64 - m) (nI X) (nI m) (tk_A S 0 (ini (S.2.2.1 0) m)) := by
    intro m
    induction m with
    | zero => intro _; show _ = f_X7_deal_37 64 (nI X) (nI 0) (tk_A S 0 (S.2.2.1 0)); rw [tk_Aid]; rfl
    | succ m ih =>
      intro hm
      rw [ih (by omega), show 64 - m = (64 - (m + 1)) + 1 by omega, f_X7_deal_37_s, if_neg (show ¬ (54 : Int32) ≤ nI m from nI_ge (b := 54) (by omega) (by decide)), if_neg (inR (show m < 54 by omega) (by decide)), cl (by omega), b1s, nI_1, tk_AA]
      rfl
  rw [key 54 (by omega), show 64 - 54 = 9 + 1 from rfl, f_X7_deal_37_s, if_pos (show (54 : Int32) ≤ nI 54 by decide), show (53 : Int32) = nI 53 from rfl, L_shM 64 53 X _ (by omega) (by omega) hX, tk_AA]
  rfl
