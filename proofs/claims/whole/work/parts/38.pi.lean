/-! the result of a game -/
theorem dif3 : ∀ n, n < 703 → ((if (0 : Int32) ≤ nI n - 105 then nI n - 105 else 0 - (nI n - 105)) / 3 : Int32) = (if n ≤ 105 then 105 - nI n else nI n - 105) / 3 := by decide +kernel
theorem e_game {M : tk_ST} {n l : Nat} (hn : n ≤ 702) (l1 : 1 ≤ l) (l5 : l ≤ 5) (e : M.1 6 = nI l) : ∃ v, f_X6_gamePoints (nI l) (nI n) = some v ∧ f_X7_gameCount (nI n) M = some v := by
  have hd := dif3 n (by omega)
  unfold f_X6_gamePoints f_X6_gamePoints_22 f_X6_isWon f_X7_gameCount f_X7_gameCount_29 f_X7_gameCount_31 f_X7_gameCount_66
  rw [e, hd]
  by_cases q : n ≤ 105
  · rw [if_pos q]
    simp only [if_pos (show nI n ≤ 105 from nI_le (b := 105) q (by decide)), b1s, if_true]
    rcases (show l = 1 ∨ l = 2 ∨ l = 3 ∨ l = 4 ∨ l = 5 by omega) with rfl | rfl | rfl | rfl | rfl
    · refine ⟨-(10 + (105 - nI n) / 3), rfl, ?_⟩
      rw [Int32.add_comm 10]; rfl
    · refine ⟨-(20 + (105 - nI n) / 3), rfl, ?_⟩
      rw [Int32.add_comm 20]; rfl
    · refine ⟨-(30 + (105 - nI n) / 3), rfl, ?_⟩
      rw [Int32.add_comm 30]; rfl
    · refine ⟨-(50 + (105 - nI n) / 3), rfl, ?_⟩
      rw [Int32.add_comm 50]; rfl
    · exact ⟨-80, rfl, rfl⟩
  · rw [if_neg q]
    simp only [if_neg (show ¬ nI n ≤ 105 from nI_ge (a := 105) (by omega) (by omega)), b1s, if_neg n10]
    rcases (show l = 1 ∨ l = 2 ∨ l = 3 ∨ l = 4 ∨ l = 5 by omega) with rfl | rfl | rfl | rfl | rfl
    · refine ⟨10 + (nI n - 105) / 3, rfl, ?_⟩
      rw [Int32.add_comm 10]; rfl
    · refine ⟨20 + (nI n - 105) / 3, rfl, ?_⟩
      rw [Int32.add_comm 20]; rfl
    · refine ⟨30 + (nI n - 105) / 3, rfl, ?_⟩
      rw [Int32.add_comm 30]; rfl
    · refine ⟨50 + (nI n - 105) / 3, rfl, ?_⟩
      rw [Int32.add_comm 50]; rfl
    · exact ⟨80, rfl, rfl⟩
