/-! deal -/
theorem five {f : Int64 → Nat} (hf : ∀ x y, (∀ c, ¬ (tb x c = true ∧ tb y c = true)) → f (x ||| y) = f x + f y) {h : Nat → Int64} {x : Int64} (hC : Crd h) (hx : ∀ p, p < 4 → ∀ c, ¬ (tb x c = true ∧ tb (h p) c = true)) : f ((((x ||| h 0) ||| h 1) ||| h 2) ||| h 3) = f x + f (h 0) + f (h 1) + f (h 2) + f (h 3) := by
  have d : ∀ p q, p < 4 → q < 4 → p ≠ q → ∀ c, tb (h p) c = true → ¬ tb (h q) c = true := fun p q hp hq hpq c e1 e2 => hC.2 p q hp hq hpq c ⟨e1, e2⟩
  rw [hf, hf, hf, hf]
  · exact hx 0 (by omega)
  · intro c ⟨e1, e2⟩
    rw [tbO] at e1
    rcases e1 with e1 | e1
    · exact hx 1 (by omega) c ⟨e1, e2⟩
    · exact d 0 1 (by omega) (by omega) (by omega) c e1 e2
  · intro c ⟨e1, e2⟩
    rw [tbO, tbO] at e1
    rcases e1 with (e1 | e1) | e1
    · exact hx 2 (by omega) c ⟨e1, e2⟩
    · exact d 0 2 (by omega) (by omega) (by omega) c e1 e2
    · exact d 1 2 (by omega) (by omega) (by omega) c e1 e2
  · intro c ⟨e1, e2⟩
    rw [tbO, tbO, tbO] at e1
    rcases e1 with ((e1 | e1) | e1) | e1
    · exact hx 3 (by omega) c ⟨e1, e2⟩
    · exact d 0 3 (by omega) (by omega) (by omega) c e1 e2
    · exact d 1 3 (by omega) (by omega) (by omega) c e1 e2
    · exact d 2 3 (by omega) (by omega) (by omega) c e1 e2
theorem ct_full {p : Nat → Bool} : ∀ n, ct p n ≤ n ∧ (ct p n = n → ∀ i, i < n → p i = true)
  | 0 => ⟨Nat.le_refl 0, fun _ i hi => absurd hi (Nat.not_lt_zero i)⟩
  | n + 1 => by
    have h := ct_full (p := p) n
    have hs : ct p (n + 1) = ct p n + (if p n = true then 1 else 0) := rfl
    by_cases q : p n = true
    · rw [if_pos q] at hs
      refine ⟨by omega, fun e i hi => ?_⟩
      by_cases r : i = n
      · rw [r]; exact q
      · exact h.2 (by omega) i (by omega)
    · rw [if_neg q] at hs
      exact ⟨by omega, fun e => by omega⟩
theorem wt_all : wt (fun _ => true) 54 = 210 := by decide +kernel
theorem th_all {x : Int64} (h : cn x = 54) : th x = 210 := by
  rw [← wt_all]
  exact wt_congr 54 (fun i hi => ⟨fun _ => rfl, fun _ => (ct_full 54).2 h i hi⟩)
theorem mkDj {h : Nat → Int64} {a b : Int64} {kc : Nat → Nat} (hC : Crd h) (ha : ∀ c, tb a c = true → c < 54) (hb : ∀ c, tb b c = true → c < 54) (hab : ∀ c, ¬ (tb a c = true ∧ tb b c = true)) (hha : ∀ p, p < 4 → ∀ c, ¬ (tb (h p) c = true ∧ tb a c = true)) (hhb : ∀ p, p < 4 → ∀ c, ¬ (tb (h p) c = true ∧ tb b c = true)) : Dj h a b 0 kc := by
  refine ⟨fun c => if tb (h 0) c = true then 0 else if tb (h 1) c = true then 1 else if tb (h 2) c = true then 2 else if tb (h 3) c = true then 3 else if tb a c = true then 4 else 5, fun p hp c hc => ⟨hC.1 p hp c hc, ?_⟩, fun c hc => ⟨ha c hc, ?_⟩, fun c hc => ⟨hb c hc, ?_⟩, fun j hj => absurd hj (Nat.not_lt_zero j)⟩
  · have n : ∀ q, q < 4 → q ≠ p → ¬ tb (h q) c = true := fun q hq e e1 => hC.2 q p hq hp e c ⟨e1, hc⟩
    rcases (show p = 0 ∨ p = 1 ∨ p = 2 ∨ p = 3 by omega) with rfl | rfl | rfl | rfl
    · simp only [if_pos hc]
    · simp only [if_neg (n 0 (by omega) (by omega)), if_pos hc]
    · simp only [if_neg (n 0 (by omega) (by omega)), if_neg (n 1 (by omega) (by omega)), if_pos hc]
    · simp only [if_neg (n 0 (by omega) (by omega)), if_neg (n 1 (by omega) (by omega)), if_neg (n 2 (by omega) (by omega)), if_pos hc]
  · have n : ∀ q, q < 4 → ¬ tb (h q) c = true := fun q hq e1 => hha q hq c ⟨e1, hc⟩
    simp only [if_neg (n 0 (by omega)), if_neg (n 1 (by omega)), if_neg (n 2 (by omega)), if_neg (n 3 (by omega)), if_pos hc]
  · have n : ∀ q, q < 4 → ¬ tb (h q) c = true := fun q hq e1 => hhb q hq c ⟨e1, hc⟩
    simp only [if_neg (n 0 (by omega)), if_neg (n 1 (by omega)), if_neg (n 2 (by omega)), if_neg (n 3 (by omega)), if_neg (fun e => hab c ⟨e, hc⟩)]
theorem S_deal {D X : Nat} {S : tk_ST} (hX : X < 65536) (h1 : S.1 1 = 0) (hF : Fo D S) (hB : Bef (D + 1) S) : ∃ S', f0_X6_deal (nI X) S = some (nI (D % 4), S') ∧ Inv (D + 1) S' ∧ S'.1 0 = nI (D % 4) ∧ S'.1 2 = nI (D % 4) ∧ S'.1 11 = 0 ∧ S'.1 9 = 0 ∧ cn ((((orr (S'.2.2.1 0) 48 6 ||| S'.2.2.2 0 0) ||| S'.2.2.2 0 1) ||| S'.2.2.2 0 2) ||| S'.2.2.2 0 3) = 54 := by
  unfold f0_X6_deal f_X6_deal
  rw [if_neg (nneg (by omega)), if_pos (show nI X < 65536 from nI_lt hX (by decide)), if_pos h1]
  have hb : f_X6_behind (S.1 0) = some (nI (D % 4)) := by
    rcases hF with ⟨rfl, d4⟩ | ⟨d0, d4⟩
    · rw [d4]; decide
    · rw [d4, e_behind (by omega), show ((D - 1) % 4 + 1) % 4 = D % 4 by omega]
  have hF4 : D % 4 < 4 := Nat.mod_lt _ (by decide)
  rw [hb, b1s]
  obtain ⟨C, c0, c1, c2, c3, c4, c5, c6, c8, c9, c10, c11, c12, c13, c14, c15, cl0, cA, ch, cp0, cp1⟩ := e_clear (tk_I S 0 (nI (D % 4)))
  have c1' : C.1 0 = nI (D % 4) := c1
  have cA' : C.2.2.1 = S.2.2.1 := cA
  have c13' : C.1 13 = nI (D % 4) := c13
  rw [c0, b1s, e_shH hX, b1s, cA']
  have hrow : Row (shf 53 X (ini (S.2.2.1 0) 54)) := row_shf 53 X _ (by omega) (row_ini _)
  generalize hg : shf 53 X (ini (S.2.2.1 0) 54) = g at hrow
  rw [e_handOut hF4 (S := tk_A C 0 g) c1', b1s, b3s, if_pos rfl, show (tk_A C 0 g).2.2.1 0 = g from rfl, show (tk_A C 0 g).2.2.2 0 = C.2.2.2 0 from rfl]
  obtain ⟨v, hv, hi⟩ := id hrow
  have hr : ∀ p, p < 4 → rr (D % 4) p < 4 := fun p _ => Nat.mod_lt _ (by decide)
  have hHp : ∀ p, p < 4 → hH g (D % 4) (C.2.2.2 0) 4 p = orr g (rr (D % 4) p * 12) 12 := fun p hp => by
    rw [hH_at g hF4 _ p 4 (by omega), if_pos ⟨hp, Nat.mod_lt _ (by decide)⟩]
  have hC : Crd (hH g (D % 4) (C.2.2.2 0) 4) := by
    refine ⟨fun p hp c hc => ?_, fun p q hp hq hpq c hc => ?_⟩
    · rw [hHp p hp, tb_orr hv 12 (by have := hr p hp; omega)] at hc
      obtain ⟨i, i1, i2⟩ := hc
      rw [← i2]; exact (hv _ (by have := hr p hp; omega)).1
    · have r1 := hr p hp
      have r2 := hr q hq
      rw [hHp p hp, hHp q hq, tb_orr hv 12 (by omega), tb_orr hv 12 (by omega)] at hc
      obtain ⟨⟨i, i1, i2⟩, j, j1, j2⟩ := hc
      have := hi _ _ (by omega) (by omega) (i2.trans j2.symm)
      have e2 : rr (D % 4) p ≠ rr (D % 4) q := by unfold rr; omega
      omega
  have hT : ∀ p, p < 4 → ∀ c, ¬ (tb (orr g 48 6) c = true ∧ tb (hH g (D % 4) (C.2.2.2 0) 4 p) c = true) := by
    intro p hp c hc
    have r1 := hr p hp
    rw [hHp p hp, tb_orr hv 12 (by omega), tb_orr hv 6 (by omega)] at hc
    obtain ⟨⟨j, j1, j2⟩, i, i1, i2⟩ := hc
    have := hi _ _ (by omega) (by omega) (i2.trans j2.symm)
    omega
  have hcn : ∀ p, p < 4 → cn (hH g (D % 4) (C.2.2.2 0) 4 p) = 12 := fun p hp => by
    rw [hHp p hp]
    exact cn_orr hv hi 12 (by have := hr p hp; omega)
  have h54 : cn ((((orr g 48 6 ||| hH g (D % 4) (C.2.2.2 0) 4 0) ||| hH g (D % 4) (C.2.2.2 0) 4 1) ||| hH g (D % 4) (C.2.2.2 0) 4 2) ||| hH g (D % 4) (C.2.2.2 0) 4 3) = 54 := by
    rw [five (f := cn) (fun x y h => cn_or h) hC hT, hcn 0 (by omega), hcn 1 (by omega), hcn 2 (by omega), hcn 3 (by omega), cn_orr hv hi 6 (by omega)]
  have h210 := th_all h54
  rw [five (f := th) (fun x y h => th_or h) hC hT] at h210
  generalize hH g (D % 4) (C.2.2.2 0) 4 = hh at hC hT hcn h54 h210 ⊢
  have e15 : (tk_L (tk_B (tk_A C 0 g) 0 hh) 1 (orr g 48 6)).1 0 = nI (D % 4) := c1'
  refine ⟨tk_I (tk_I (tk_L (tk_B (tk_A C 0 g) 0 hh) 1 (orr g 48 6)) 1 1) 2 (nI (D % 4)), ?_, ⟨Or.inr ⟨by omega, ?_⟩, ⟨0, 0, by decide, by decide, c8⟩, ⟨Or.inl c3, Or.inl c6, Or.inl c4, Or.inl c5, 0, by omega, c11, fun e => absurd c3 e, fun e => absurd c4 e⟩, ⟨hC, 0, by omega, c9, ?_, fun e => absurd e (by decide)⟩, Or.inr (Or.inl ⟨rfl, 0, D % 4, by decide, hF4, c10, rfl, Nat.zero_testBit _, c3, c4, c5, c6, Or.inl ⟨c11, c12⟩, ⟨hrow, hcn, rfl⟩, c14, c9, cp0, cp1, ?_, ?_, ⟨D % 4, hF4, c1', c13'⟩, ?_⟩)⟩, c1', rfl, c11, c9, h54⟩
  · show some ((tk_L (tk_B (tk_A C 0 g) 0 hh) 1 (orr g 48 6)).1 0, tk_I (tk_I (tk_L (tk_B (tk_A C 0 g) 0 hh) 1 (orr g 48 6)) 1 1) 2 ((tk_L (tk_B (tk_A C 0 g) 0 hh) 1 (orr g 48 6)).1 0)) = _
    rw [e15]
  · rw [show (D + 1 - 1) % 4 = D % 4 by omega]; exact c1'
  · show th (C.2.2.2 1 0) + th (C.2.2.2 1 1) ≤ 210
    rw [cp0, cp1, th_zero]; omega
  · show Dj hh (C.2.1 0) (orr g 48 6) 0 (fun _ => 0)
    rw [cl0]
    refine mkDj hC (fun c e => absurd e (tbZ c)) (fun c hc => ?_) (fun c e => tbZ c e.1) (fun p hp c e => tbZ c e.2) (fun p hp c e => hT p hp c ⟨e.2, e.1⟩)
    obtain ⟨i, i1, i2⟩ := (tb_orr hv 6 (by omega) c).mp hc
    rw [← i2]; exact (hv _ (by omega)).1
  · show th (hh 0) + th (hh 1) + th (hh 2) + th (hh 3) + th (C.2.1 0) + th (orr g 48 6) + 0 = 210
    rw [cl0, th_zero]; omega
  · intro p hp
    show C.2.2.1 4 p = C.2.2.1 2 p ∧ C.2.2.1 4 (4 + p) = C.2.2.1 3 p ∧ ∃ n, n + 1 ≤ D + 1 ∧ C.2.2.1 3 p = nI n
    rw [cA']; exact hB p hp
