/-! deal: the hands -/
theorem tk_BB (S : tk_ST) (k : Nat) (a b : Nat → Int64) : tk_B (tk_B S k a) k b = tk_B S k b := by
  show (S.1, S.2.1, S.2.2.1, tk_up (tk_up S.2.2.2 k a) k b) = (S.1, S.2.1, S.2.2.1, tk_up S.2.2.2 k b)
  rw [tk_up_up]
theorem tk_Bid (S : tk_ST) (k : Nat) : tk_B S k (S.2.2.2 k) = S := by
  show (S.1, S.2.1, S.2.2.1, tk_up S.2.2.2 k (S.2.2.2 k)) = S
  rw [tk_up_id]
def hH (f : Nat → Int32) (F : Nat) (h : Nat → Int64) : Nat → Nat → Int64
  | 0 => h
  | m + 1 => vp_updL (hH f F h m) ((F + m) % 4) (orr f (m * 12) 12)
def rr (F p : Nat) : Nat := (p + 4 - F) % 4
theorem hH_at (f : Nat → Int32) {F : Nat} (hF : F < 4) (h : Nat → Int64) (p : Nat) : ∀ m, m ≤ 4 → hH f F h m p = if p < 4 ∧ rr F p < m then orr f (rr F p * 12) 12 else h p
  | 0, _ => by rw [if_neg (fun e => Nat.not_lt_zero _ e.2)]; rfl
  | m + 1, hm => by
    show vp_updL (hH f F h m) ((F + m) % 4) (orr f (m * 12) 12) p = _
    rw [updLE, hH_at f hF h p m (by omega)]
    by_cases e : p = (F + m) % 4
    · have e2 : rr F p = m := by unfold rr; omega
      rw [if_pos e, if_pos ⟨by omega, by omega⟩, e2]
    · rw [if_neg e]
      have e2 : p < 4 → rr F p ≠ m := by unfold rr; omega
      by_cases q : p < 4 ∧ rr F p < m
      · rw [if_pos q, if_pos ⟨q.1, by omega⟩]
      · rw [if_neg q, if_neg (fun y => q ⟨y.1, by have := e2 y.1; omega⟩)]
theorem e_handOut {S : tk_ST} {F : Nat} (hF : F < 4) (e : S.1 0 = nI F) : f_X6_handOut S = some (tk_L (tk_B S 0 (hH (S.2.2.1 0) F (S.2.2.2 0) 4)) 1 (orr (S.2.2.1 0) 48 6)) := by
  unfold f_X6_handOut
  rw [e]
  have key : ∀ m, m ≤ 4 → f_X6_handOut_7 64 (nI F) 0 S = f_X6_handOut_7 (64 - m) (nI ((F + m) % 4)) (nI m) (tk_B S 0 (hH (S.2.2.1 0) F (S.2.2.2 0) m)) := by
    intro m
    induction m with
    | zero => intro _; show _ = f_X6_handOut_7 64 (nI ((F + 0) % 4)) (nI 0) (tk_B S 0 (S.2.2.2 0)); rw [tk_Bid, Nat.add_zero, Nat.mod_eq_of_lt hF]; rfl
    | succ m ih =>
      intro hm
      rw [ih (by omega), show 64 - m = (64 - (m + 1)) + 1 by omega, f_X6_handOut_7_s, if_neg (show ¬ (4 : Int32) ≤ nI m from nI_ge (b := 4) (by omega) (by decide)), show (12 : Int32) = nI 12 from rfl, mul_nI, e_from (by omega), b1s, e_put13 (by omega), b1s, e_behind (by omega), b1s, nI_1, tk_BB, show ((F + m) % 4 + 1) % 4 = (F + (m + 1)) % 4 by omega]
      rfl
  rw [key 4 (by omega), show 64 - 4 = 59 + 1 from rfl, f_X6_handOut_7_s, if_pos (show (4 : Int32) ≤ nI 4 by decide), show (48 : Int32) = nI 48 from rfl, show (6 : Int32) = nI 6 from rfl, e_from (by omega), b1s]
  rfl
theorem L_142 {S : tk_ST} : ∀ m, m ≤ 4 → ∃ S', f_X7_deal_142 64 0 S = f_X7_deal_142 (64 - m) (nI m) S' ∧ S'.1 = S.1 ∧ S'.2.1 = S.2.1 ∧ (∀ j, j ≠ 1 → S'.2.2.1 j = S.2.2.1 j) ∧ (∀ p, p < m → S'.2.2.1 1 p = 0) ∧ (∀ p, S'.2.2.2 0 p = if p < m then 0 else S.2.2.2 0 p) ∧ ∀ p, p < m → S'.2.2.2 1 p = 0
  | 0, _ => ⟨S, rfl, rfl, rfl, fun _ _ => rfl, fun p hp => absurd hp (Nat.not_lt_zero p), fun p => by rw [if_neg (Nat.not_lt_zero p)], fun p hp => absurd hp (Nat.not_lt_zero p)⟩
  | m + 1, h => by
    obtain ⟨A, x1, x2, x3, x4, x5, x6, x7⟩ := L_142 (S := S) m (by omega)
    rw [x1, show 64 - m = (64 - (m + 1)) + 1 by omega, f_X7_deal_142_s, if_neg (show ¬ (4 : Int32) ≤ nI m from nI_ge (b := 4) (by omega) (by decide)), if_neg (inR (show m < 4 by omega) (by decide)), cl (by omega), b1s, if_neg (inR2 (show m < 4 by omega) (by omega)), b1s, if_neg (inR2 (show m < 4 by omega) (by omega)), b1s, nI_1]
    refine ⟨_, rfl, x2, x3, fun j hj => ?_, fun p hp => ?_, fun p => ?_, fun p hp => ?_⟩
    · rw [uA3, if_neg hj]; exact x4 j hj
    · rw [uA3, if_pos rfl, updE]
      by_cases e : p = m
      · rw [if_pos e]
      · rw [if_neg e]; exact x5 p (by omega)
    · show vp_updL (A.2.2.2 0) m 0 p = _
      rw [updLE]
      by_cases e : p = m
      · rw [if_pos e, if_pos (by omega)]
      · rw [if_neg e, x6 p]
        by_cases q : p < m
        · rw [if_pos q, if_pos (by omega)]
        · rw [if_neg q, if_neg (by omega)]
    · show vp_updL (A.2.2.2 1) m 0 p = _
      rw [updLE]
      by_cases e : p = m
      · rw [if_pos e]
      · rw [if_neg e]; exact x7 p (by omega)
theorem div12 : ∀ m, m < 48 → nI m / 12 = nI (m / 12) := by decide +kernel
theorem L_176 {S : tk_ST} {F : Nat} (hF : F < 4) (e : S.1 3 = nI F) (h0 : ∀ p, p < 4 → S.2.2.2 0 p = 0) : ∀ m, m ≤ 48 → ∃ S', f_X7_deal_176 64 0 S = f_X7_deal_176 (64 - m) (nI m) S' ∧ S'.1 = S.1 ∧ S'.2.1 = S.2.1 ∧ S'.2.2.1 = S.2.2.1 ∧ S'.2.2.2 1 = S.2.2.2 1 ∧ ∀ p, S'.2.2.2 0 p = if p < 4 then orr (S.2.2.1 0) (rr F p * 12) (min 12 (m - rr F p * 12)) else S.2.2.2 0 p
  | 0, _ => ⟨S, rfl, rfl, rfl, rfl, rfl, fun p => by
      by_cases q : p < 4
      · rw [if_pos q, h0 p q, Nat.zero_sub]; rfl
      · rw [if_neg q]⟩
  | m + 1, h => by
    obtain ⟨A, x1, x2, x3, x4, x5, x6⟩ := L_176 hF e h0 m (by omega)
    have hq : (F + m / 12) % 4 < 4 := Nat.mod_lt _ (by decide)
    rw [x1, show 64 - m = (64 - (m + 1)) + 1 by omega, f_X7_deal_176_s, if_neg (show ¬ (48 : Int32) ≤ nI m from nI_ge (b := 48) (by omega) (by decide)), x2, e, div12 m (by omega), nI_add, show (4 : Int32) = nI 4 from rfl, e_rem (by omega) (by decide) (by decide), if_neg (inR hq (by decide)), if_neg (inR (show m < 54 by omega) (by decide)), cl (by omega), show f_X7_bit (A.2.2.1 0 m) = some (jbI (A.2.2.1 0 m)) from rfl, b1s, cl (by omega), if_neg (inR2 hq (by omega)), b1s, nI_1]
    refine ⟨_, rfl, x2, x3, x4, x5, fun p => ?_⟩
    show vp_updL (A.2.2.2 0) ((F + m / 12) % 4) (A.2.2.2 0 ((F + m / 12) % 4) ||| jbI (A.2.2.1 0 m)) p = _
    rw [updLE]
    by_cases ep : p = (F + m / 12) % 4
    · have e2 : rr F p = m / 12 := by unfold rr; omega
      rw [if_pos ep, ← ep, x6 p, if_pos (by omega), if_pos (by omega), e2, x4, show min 12 (m - m / 12 * 12) = m - m / 12 * 12 by omega, show min 12 (m + 1 - m / 12 * 12) = (m - m / 12 * 12) + 1 by omega]
      show _ = orr _ _ _ ||| jbI (S.2.2.1 0 (m / 12 * 12 + (m - m / 12 * 12)))
      rw [show m / 12 * 12 + (m - m / 12 * 12) = m by omega]
    · rw [if_neg ep, x6 p]
      by_cases q : p < 4
      · have e2 : rr F p ≠ m / 12 := by unfold rr; omega
        rw [if_pos q, if_pos q, show min 12 (m + 1 - rr F p * 12) = min 12 (m - rr F p * 12) by omega]
      · rw [if_neg q, if_neg q]
