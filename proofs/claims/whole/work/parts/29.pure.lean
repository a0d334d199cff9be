theorem tk_pure (L : Nat) (xs : Nat → Int32) (hL : L ≤ 1536) : f_law L xs 600 0 tk_S0 (fun _ => 0) tk_M0 = some 1 := sorry
