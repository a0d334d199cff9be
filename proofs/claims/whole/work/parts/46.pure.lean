/-! the whole law -/
theorem end_iff {L a : Nat} (hL : L ≤ 1536) (ha : a ≤ 1536) : (Int32.ofNat L - (3 : Int32)) < nI a ↔ L < a + 3 := by
  by_cases q : 3 ≤ L
  · obtain ⟨m, rfl⟩ : ∃ m, L = m + 3 := ⟨L - 3, by omega⟩
    have e : Int32.ofNat (m + 3) - (3 : Int32) = nI m := by
      show nI (m + 3) - 3 = _
      rw [← nI_add m 3]
      exact Int32.add_sub_cancel _ _
    rw [e, nI_ltI (by omega) (by omega)]
    omega
  · refine ⟨fun _ => by omega, fun _ => ?_⟩
    rw [Int32.lt_iff_toInt_lt, nI_toInt (by omega)]
    rcases (show L = 0 ∨ L = 1 ∨ L = 2 by omega) with rfl | rfl | rfl
    · rw [show (Int32.ofNat 0 - (3 : Int32)).toInt = -3 from by decide]; omega
    · rw [show (Int32.ofNat 1 - (3 : Int32)).toInt = -2 from by decide]; omega
    · rw [show (Int32.ofNat 2 - (3 : Int32)).toInt = -1 from by decide]; omega
theorem law_all {L : Nat} {xs : Nat → Int32} (hL : L ≤ 1536) : ∀ n a k S o M, Rel k S M → a ≤ L → L < a + 3 * n → 3 * k ≤ a → f_law L xs n (nI a) S o M = some 1
  | 0, a, _, _, _, _, _, h1, h2, _ => by omega
  | n + 1, a, k, S, o, M, h, h1, h2, h3 => by
    rw [f_law_s]
    by_cases q : L < a + 3
    · rw [if_pos ((end_iff hL (by omega)).mpr q)]
    · rw [if_neg (fun y => q ((end_iff hL (by omega)).mp y)), if_neg (inR (show a < L by omega) (by omega))]
      have r1 : ¬ (nI a + 1 < 0 ∨ L ≤ (nI a + 1).toNatClampNeg) := by
        rw [nI_1]; exact inR (show a + 1 < L by omega) (by omega)
      have r2 : ¬ (nI a + 2 < 0 ∨ L ≤ (nI a + 2).toNatClampNeg) := by
        rw [show nI a + 2 = nI (a + 2) from nI_add a 2]; exact inR (show a + 2 < L by omega) (by omega)
      have hk : k < 1000 := by omega
      have key : ∀ X, (∃ S' o' M', Rel (k + 1) S' M' ∧ X = f_law L xs n (nI a + (3 : Int32)) S' o' M') → X = some 1 := by
        rintro X ⟨S', o', M', hR, rfl⟩
        rw [show nI a + (3 : Int32) = nI (a + 3) from nI_add a 3]
        exact law_all hL n (a + 3) (k + 1) S' o' M' hR (by omega) (by omega) (by omega)
      generalize xs (nI a).toNatClampNeg &&& (31 : Int32) = x
      by_cases q0 : x = (0 : Int32)
      · rw [if_pos q0]; exact key _ (pl_c0 hk h r1 r2 o _)
      rw [if_neg q0]
      by_cases q1 : x = (1 : Int32)
      · rw [if_pos q1]; exact key _ (pl_c1 hk h r1 r2 o _)
      rw [if_neg q1]
      by_cases q2 : x = (2 : Int32)
      · rw [if_pos q2]; exact key _ (pl_c2 hk h r1 r2 o _)
      rw [if_neg q2]
      by_cases q3 : x = (3 : Int32)
      · rw [if_pos q3]; exact key _ (pl_c3 hk h r1 r2 o _)
      rw [if_neg q3]
      by_cases q4 : x = (4 : Int32)
      · rw [if_pos q4]; exact key _ (pl_c4 hk h r1 r2 o _)
      rw [if_neg q4]
      by_cases q5 : x = (5 : Int32)
      · rw [if_pos q5]; exact key _ (pl_c5 hk h r1 r2 o _)
      rw [if_neg q5]
      by_cases q6 : x = (6 : Int32)
      · rw [if_pos q6]; exact key _ (pl_c6 hk h r1 r2 o _)
      rw [if_neg q6]
      by_cases q7 : x = (7 : Int32)
      · rw [if_pos q7]; exact key _ (pl_c7 hk h r1 r2 o _)
      rw [if_neg q7]
      by_cases q8 : x = (8 : Int32)
      · rw [if_pos q8]; exact key _ (pl_c8 hk h r1 r2 o _)
      rw [if_neg q8]
      by_cases q9 : x = (9 : Int32)
      · rw [if_pos q9]; exact key _ (pl_c9 hk h r1 r2 o _)
      rw [if_neg q9]
      by_cases q10 : x = (10 : Int32)
      · rw [if_pos q10]; exact key _ (pl_c10 hk h r1 r2 o _)
      rw [if_neg q10]
      by_cases q11 : x = (11 : Int32)
      · rw [if_pos q11]; exact key _ (pl_c11 hk h r1 r2 o _)
      rw [if_neg q11]
      by_cases q12 : x = (12 : Int32)
      · rw [if_pos q12]; exact key _ (pl_c12 hk h r1 r2 o _)
      rw [if_neg q12]
      by_cases q13 : x = (13 : Int32)
      · rw [if_pos q13]; exact key _ (pl_c13 hk h r1 r2 o _)
      rw [if_neg q13]
      by_cases q14 : x = (14 : Int32)
      · rw [if_pos q14]; exact key _ (pl_c14 hk h r1 r2 o _)
      rw [if_neg q14]
      by_cases q15 : x = (15 : Int32)
      · rw [if_pos q15]; exact key _ (pl_c15 hk h r1 r2 o _)
      rw [if_neg q15]
      by_cases q16 : x = (16 : Int32)
      · rw [if_pos q16]; exact key _ (pl_c16 hk h r1 r2 o _)
      rw [if_neg q16]
      by_cases q17 : x = (17 : Int32)
      · rw [if_pos q17]; exact key _ (pl_c17 hk h r1 r2 o _)
      rw [if_neg q17]
      by_cases q18 : x = (18 : Int32)
      · rw [if_pos q18]; exact key _ (pl_c18 hk h r1 r2 o _)
      rw [if_neg q18]
      by_cases q19 : x = (19 : Int32)
      · rw [if_pos q19]; exact key _ (pl_c19 hk h r1 r2 o _)
      rw [if_neg q19]
      by_cases q20 : x = (20 : Int32)
      · rw [if_pos q20]; exact key _ (pl_c20 hk h r1 r2 o _)
      rw [if_neg q20]
      by_cases q21 : x = (21 : Int32)
      · rw [if_pos q21]; exact key _ (pl_c21 hk h r1 r2 o _)
      rw [if_neg q21]
      by_cases q22 : x = (22 : Int32)
      · rw [if_pos q22]; exact key _ (pl_c22 hk h r1 r2 o _)
      rw [if_neg q22]
      by_cases q23 : x = (23 : Int32)
      · rw [if_pos q23]; exact key _ (pl_c23 hk h r1 r2 o _)
      rw [if_neg q23]
      by_cases q24 : x = (24 : Int32)
      · rw [if_pos q24]; exact key _ (pl_c24 hk h r1 r2 o _)
      rw [if_neg q24]
      by_cases q25 : x = (25 : Int32)
      · rw [if_pos q25]; exact key _ (pl_c25 hk h r1 r2 o _)
      rw [if_neg q25]
      by_cases q26 : x = (26 : Int32)
      · rw [if_pos q26]; exact key _ (pl_c26 hk h r1 r2 o _)
      rw [if_neg q26]
      exact key _ ⟨S, o, M, h.mono (Nat.le_succ k), rfl⟩
theorem rel0 : Rel 0 tk_S0 tk_M0 := by
  refine ⟨⟨rfl, rfl, rfl, rfl, rfl, rfl, rfl, rfl, rfl, rfl, rfl, rfl, rfl, rfl, rfl, rfl, rfl⟩, ⟨0, 0, by decide, by decide, rfl, rfl, rfl⟩, ⟨0, Nat.le_refl 0, rfl, Or.inl ⟨rfl, rfl⟩⟩, Or.inl rfl, Or.inl rfl, ⟨fun e => absurd rfl e, Or.inl rfl, Or.inl rfl, fun s o hs ho es eo => absurd (es : (-1 : Int32) = nI s).symm (n1I (by omega))⟩, ⟨fun p hp c hc => absurd hc (tbZ c), fun p q _ _ _ c hc => absurd hc.1 (tbZ c)⟩, Or.inl ⟨rfl, rfl, rfl, fun _ _ => rfl⟩, ⟨0, by decide, rfl⟩, Or.inl ⟨rfl, rfl⟩⟩
theorem tk_pure (L : Nat) (xs : Nat → Int32) (hL : L ≤ 1536) : f_law L xs 600 0 tk_S0 (fun _ => 0) tk_M0 = some 1 := law_all hL 600 0 0 tk_S0 _ tk_M0 rel0 (Nat.zero_le L) (by omega) (Nat.le_refl 0)
