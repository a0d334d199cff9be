theorem tk_inv0 : Inv 0 tk_S0 := ⟨Or.inl ⟨rfl, rfl⟩, ⟨0, 0, by decide, by decide, rfl⟩, ⟨Or.inl rfl, Or.inl rfl, Or.inl rfl, Or.inl rfl, 0, by decide, rfl, fun e => absurd rfl e, fun e => absurd rfl e⟩, ⟨⟨fun p hp c hc => absurd hc (tbZ c), fun p q _ _ _ c e => tbZ c e.1⟩, 0, by decide, rfl, (by
  show th 0 + th 0 ≤ 210
  rw [th_zero]; decide), fun e => absurd e (by decide)⟩, Or.inl ⟨rfl, rfl, rfl, fun p hp => ⟨0, Nat.le_refl 0, rfl⟩⟩⟩
theorem tk_pure (L : Nat) (xs : Nat → Int32) (hL : L ≤ 260) : f_law L xs tk_S0 = some 1 := law_all hL tk_inv0
