/-! the law's look at the hands -/
theorem s248 {K : Int32 → Int32 → Int64 → Int32 → Int32 → Int32 → Int32 → Int32 → tk_ST → Option Int32} {c o : Nat} (hc : c < 54) (ho : o < 2) (M x4 led x8 kf : Int32) (hd X : Int64) (S : tk_ST) : ∃ o', o' < 2 ∧ (o = 0 → (tb X c = true → nI (su c) = led) → o' = 0) ∧ f_L_areHands_248 K M x4 hd led x8 (nI o) (nI c) (if tb X c = true then 1 else 0) kf S = K M x4 hd led x8 kf (nI o') (nI (c + 1)) S := by
  unfold f_L_areHands_248 f_L_areHands_274 f_L_areHands_270 f_L_areHands_275
  rw [nI_1]
  by_cases q : o = 0
  · subst q
    rw [if_pos (show nI 0 = 0 from rfl)]
    by_cases t : tb X c = true
    · rw [if_pos t, if_neg n10, e_Lsuit c hc, b1s]
      by_cases e : nI (su c) = led
      · rw [if_pos e]; exact ⟨0, by decide, fun _ _ => rfl, rfl⟩
      · rw [if_neg e]; exact ⟨1, by decide, fun _ g => absurd (g t) e, rfl⟩
    · rw [if_neg t, if_pos rfl]; exact ⟨0, by decide, fun _ _ => rfl, rfl⟩
  · obtain rfl : o = 1 := by omega
    rw [if_neg (show ¬ nI 1 = 0 from n10)]
    exact ⟨1, by decide, fun e => absurd e (by decide), rfl⟩
theorem s216 {K : Int32 → Int32 → Int64 → Int32 → Int32 → Int32 → Int32 → Int32 → tk_ST → Option Int32} {c f : Nat} (hc : c < 54) (hf : f < 2) (M led x8 x10 x12 k0 : Int32) (hd : Int64) (S : tk_ST) : ∃ f', f' < 2 ∧ (f = 0 → ¬ (tb hd c = true ∧ nI (su c) = led) → f' = 0) ∧ f_L_areHands_216 K M hd led x8 (nI f) x10 (nI c) x12 k0 S = f_L_areHands_248 K M k0 hd led x8 x10 (nI c) x12 (nI f') S := by
  unfold f_L_areHands_216 f_L_areHands_247 f_L_areHands_243
  by_cases q : f = 0
  · subst q
    rw [if_pos (show nI 0 = 0 from rfl), e_Lhas (by omega), b1s]
    by_cases t : tb hd c = true
    · rw [if_pos t, if_neg n10, e_Lsuit c hc, b1s]
      by_cases e : nI (su c) = led
      · rw [if_pos e]; exact ⟨1, by decide, fun _ g => absurd ⟨t, e⟩ g, rfl⟩
      · rw [if_neg e]; exact ⟨0, by decide, fun _ _ => rfl, rfl⟩
    · rw [if_neg t, if_pos rfl]; exact ⟨0, by decide, fun _ _ => rfl, rfl⟩
  · obtain rfl : f = 1 := by omega
    rw [if_neg (show ¬ nI 1 = 0 from n10)]
    exact ⟨1, by decide, fun e => absurd e (by decide), rfl⟩
theorem L_161 {S : tk_ST} {hd X : Int64} {M led : Int32} (hX : f_X6_playableNow S = some X) (hsub : ∀ c, tb X c = true → tb hd c = true) (hpos : 0 < cn X) (hled : led = -1 ∨ ∃ s, s < 5 ∧ led = nI s) (hfree : led = -1 → X = hd) (hM : M = ((48 : Int32) - ((4 : Int32) * S.1 9)) - S.1 14) : ∀ n c f o : Nat, c ≤ 54 → 54 < c + n → f < 2 → o < 2 → ((f = 0 ∧ ∀ d, d < 54 → ¬ (tb hd d = true ∧ nI (su d) = led)) ∨ (o = 0 ∧ ∀ d, d < 54 → tb X d = true → nI (su d) = led) ∨ led = -1) → f_L_areHands_161 n M 1 hd led (nI (ct (tb X) c)) (nI f) (nI o) (nI c) S = some 1 := by
  intro n
  induction n with
  | zero => intro c f o h1 h2; omega
  | succ n ih =>
    intro c f o h54 hn hf ho hA
    rw [f_L_areHands_161_s]
    have hle : cn X ≤ 54 := by
      have : ∀ (p : Nat → Bool) m, ct p m ≤ m := by
        intro p m
        induction m with
        | zero => exact Nat.le_refl 0
        | succ m im =>
          show ct p m + _ ≤ _
          split <;> omega
      exact this _ 54
    by_cases q : c = 54
    · subst q
      have e321 : f_L_areHands_321 M S = some 1 := by
        unfold f_L_areHands_321 f_X6_tricks f_X6_inTrick
        rw [b1s, b1s, if_pos hM]
      rw [if_pos (show (54 : Int32) ≤ nI 54 from nI_le (Nat.le_refl _) (by decide)), if_neg n10, show ct (tb X) 54 = cn X from rfl, if_neg (nI_nle hpos (by omega)), e321]
      rcases hled with e | ⟨s, hs, e⟩
      · rw [if_neg (by rw [e]; decide), e_bits, b1s, hfree e, if_pos rfl]
      · rw [if_pos (by rw [e]; exact nI_le (a := 0) (Nat.zero_le s) (by omega))]
        rcases hA with ⟨e1, -⟩ | ⟨e1, -⟩ | e1
        · rw [if_pos (by rw [e1]; rfl)]
        · by_cases r : nI f = 0
          · rw [if_pos r]
          · rw [if_neg r, if_pos (by rw [e1]; rfl)]
        · rw [e] at e1; exact absurd e1 (nm1 (by omega))
    · have hc : c < 54 := by omega
      rw [if_neg (nge hc (by decide)), r_canPlay hX hc, b1s]
      have hs : ct (tb X) (c + 1) = ct (tb X) c + (if tb X c = true then 1 else 0) := rfl
      have key : ∀ k1 : Int32, nI (ct (tb X) c) + k1 = nI (ct (tb X) (c + 1)) → f_L_areHands_188 (f_L_areHands_161 n) M 1 hd led (nI f) (nI o) (nI c) (if tb X c = true then 1 else 0) (nI (ct (tb X) c)) k1 S = some 1 := by
        intro k1 hk1
        have e211 : f_L_areHands_211 (f_L_areHands_161 n) M hd led (nI (ct (tb X) (c + 1))) (nI f) (nI o) (nI c) (if tb X c = true then 1 else 0) S = some 1 := by
          unfold f_L_areHands_211
          obtain ⟨f', f1, f2, f3⟩ := s216 (K := f_L_areHands_161 n) hc hf M led (nI (ct (tb X) (c + 1))) (nI o) (if tb X c = true then 1 else 0) 1 hd S
          obtain ⟨o', o1, o2, o3⟩ := s248 (K := f_L_areHands_161 n) hc ho M 1 led (nI (ct (tb X) (c + 1))) (nI f') hd X S
          rw [f3, o3]
          refine ih (c + 1) f' o' (by omega) (by omega) f1 o1 ?_
          rcases hA with ⟨e1, g⟩ | ⟨e1, g⟩ | e1
          · exact Or.inl ⟨f2 e1 (g c hc), g⟩
          · exact Or.inr (Or.inl ⟨o2 e1 (g c hc), g⟩)
          · exact Or.inr (Or.inr e1)
        unfold f_L_areHands_188
        rw [if_neg n10, hk1]
        by_cases t : tb X c = true
        · rw [if_pos t] at e211 ⊢
          rw [if_neg n10, e_Lhas (by omega), b1s, if_pos (hsub c t), if_neg n10]
          exact e211
        · rw [if_neg t] at e211 ⊢
          rw [if_pos rfl]
          exact e211
      by_cases t : tb X c = true
      · have k := key 1 (by rw [hs, if_pos t, nI_1])
        rw [if_pos t] at k ⊢
        rw [if_neg n10]
        exact k
      · have k := key 0 (by rw [hs, if_neg t, Int32.add_zero]; rfl)
        rw [if_neg t] at k ⊢
        rw [if_pos rfl]
        exact k
theorem L_66 {S : tk_ST} (h5 : ¬ S.1 1 = 5) (hz : S.1 14 = 0) : ∀ n c : Nat, c ≤ 54 → 54 < c + n → f_L_areHands_66 n 1 (nI c) S = some 1 := by
  intro n
  induction n with
  | zero => intro c h1 h2; omega
  | succ n ih =>
    intro c h54 hn
    rw [f_L_areHands_66_s]
    by_cases q : c = 54
    · subst q
      unfold f_X6_inTrick
      rw [if_pos (show (54 : Int32) ≤ nI 54 from nI_le (Nat.le_refl _) (by decide)), if_neg n10, b1s, if_pos hz]
    · rw [if_neg (nge (show c < 54 by omega) (by decide)), if_neg n10, r_canPlay (e_nowN h5) (by omega), if_neg (tbZ c), b1s, if_pos rfl]
      unfold f_L_areHands_92
      rw [nI_1]
      exact ih (c + 1) (by omega) (by omega)
theorem L_7 (S : tk_ST) (n : Nat) {p : Nat} (hp : p < 4) (x : Int64) (m : Nat) : f_L_areHands_7 (n + 1) x (nI m) (nI p) S = f_L_areHands_7 n (x ||| S.2.2.2 0 p) (nI (m + cn (S.2.2.2 0 p))) (nI (p + 1)) S := by
  rw [f_L_areHands_7_s, if_neg (nge hp (by decide)), r_hand hp, b1s, b1s, e_bits, b1s, nI_add, nI_1]
theorem cn_four {h : Nat → Int64} (hC : Crd h) : cn ((((0 ||| h 0) ||| h 1) ||| h 2) ||| h 3) = 0 + cn (h 0) + cn (h 1) + cn (h 2) + cn (h 3) := by
  have d : ∀ p q, p < 4 → q < 4 → p ≠ q → ∀ c, tb (h p) c = true → ¬ tb (h q) c = true := fun p q hp hq hpq c e1 e2 => hC.2 p q hp hq hpq c ⟨e1, e2⟩
  rw [cn_or, cn_or, cn_or, cn_or, cn_zero]
  · exact fun c e => tbZ c e.1
  · intro c ⟨e1, e2⟩
    rw [tbO] at e1
    rcases e1 with e1 | e1
    · exact tbZ c e1
    · exact d 0 1 (by omega) (by omega) (by omega) c e1 e2
  · intro c ⟨e1, e2⟩
    rw [tbO, tbO] at e1
    rcases e1 with (e1 | e1) | e1
    · exact tbZ c e1
    · exact d 0 2 (by omega) (by omega) (by omega) c e1 e2
    · exact d 1 2 (by omega) (by omega) (by omega) c e1 e2
  · intro c ⟨e1, e2⟩
    rw [tbO, tbO, tbO] at e1
    rcases e1 with ((e1 | e1) | e1) | e1
    · exact tbZ c e1
    · exact d 0 3 (by omega) (by omega) (by omega) c e1 e2
    · exact d 1 3 (by omega) (by omega) (by omega) c e1 e2
    · exact d 2 3 (by omega) (by omega) (by omega) c e1 e2
/-- how many cards are in the hands while one plays -/
theorem pl_many {S : tk_ST} {D l d L z T : Nat} {kc : Nat → Nat} (h : PlX D l d L z T kc S) : cn (S.2.2.2 0 0) + cn (S.2.2.2 0 1) + cn (S.2.2.2 0 2) + cn (S.2.2.2 0 3) = 48 - 4 * T - z := by
  obtain ⟨-, -, -, hL, hz, hT, -, -, -, -, -, -, hcn, -⟩ := h
  rw [hcn 0 (by omega), hcn 1 (by omega), hcn 2 (by omega), hcn 3 (by omega)]
  rcases (show L = 0 ∨ L = 1 ∨ L = 2 ∨ L = 3 by omega) with rfl | rfl | rfl | rfl <;> rcases (show z = 0 ∨ z = 1 ∨ z = 2 ∨ z = 3 by omega) with rfl | rfl | rfl | rfl <;> simp <;> omega
theorem pl_hand {S : tk_ST} {D l d L z T : Nat} {kc : Nat → Nat} (h : PlX D l d L z T kc S) : ∃ c, c < 54 ∧ tb (S.2.2.2 0 ((L + z) % 4)) c = true := by
  obtain ⟨-, -, -, hL, hz, hT, -, -, -, -, -, -, hcn, -⟩ := h
  have h1 := hcn ((L + z) % 4) (by omega)
  rw [if_neg (show ¬ ((L + z) % 4 + 4 - L) % 4 < z by omega)] at h1
  exact cn_pos (by omega)
theorem areHands_ok {D : Nat} {S : tk_ST} (h : Inv D S) : f_L_areHands S = some 1 := by
  obtain ⟨-, -, -, ⟨hC, -⟩, -⟩ := id h
  have e1 : f_L_areHands S = f_L_areHands_53 (nI (0 + cn (S.2.2.2 0 0) + cn (S.2.2.2 0 1) + cn (S.2.2.2 0 2) + cn (S.2.2.2 0 3))) 1 S := by
    show f_L_areHands_7 (63 + 1) 0 (nI 0) (nI 0) S = _
    rw [L_7 S 63 (p := 0) (by omega), L_7 S 62 (p := 1) (by omega), L_7 S 61 (p := 2) (by omega), L_7 S 60 (p := 3) (by omega), show 60 = 59 + 1 from rfl, f_L_areHands_7_s, if_pos (show (4 : Int32) ≤ nI (3 + 1) by decide), e_bits, b1s, cn_four hC, if_pos rfl]
  rw [e1]
  unfold f_L_areHands_53 f_X6_phase f_X6_turn f_X6_inTrick
  rw [b1s]
  by_cases h5 : S.1 1 = 5
  · rw [if_pos h5, b1s]
    obtain ⟨l, d, L, z, T, kc, hP⟩ := h.p h5
    have hm := pl_many hP
    have hh := pl_hand hP
    obtain ⟨l1, l5, d4, hL, hz, hT, el, ed, eL, ez, eT, et, hcn, hkc, hDj, hTot, hB⟩ := hP
    have ht : (L + z) % 4 < 4 := Nat.mod_lt _ (by decide)
    obtain ⟨loc, -, -, -, hl4⟩ := id hDj
    obtain ⟨x, x1, x2, x3, x4, x5⟩ := r_now (c0 := kc 0) h5 hC ht hz et ez (fun q => ⟨(hl4 0 q).1, hkc 0 q⟩)
    have xp : 0 < cn x := by
      obtain ⟨c, hc⟩ := x3 (by obtain ⟨c, -, hc⟩ := hh; exact ⟨c, hc⟩)
      have h54 := hC.1 _ ht c (x2 c hc)
      have := cn_rem h54 hc
      omega
    have hM : nI (0 + cn (S.2.2.2 0 0) + cn (S.2.2.2 0 1) + cn (S.2.2.2 0 2) + cn (S.2.2.2 0 3)) = ((48 : Int32) - ((4 : Int32) * S.1 9)) - S.1 14 := by
      rw [eT, ez, show (4 : Int32) * nI T = nI (4 * T) from pk_mul 4 T, show (48 : Int32) - nI (4 * T) = nI (48 - 4 * T) from pk_sub (a := 48) (by omega), pk_sub (by omega), ← hm, Nat.zero_add]
    rw [et, r_hand ht, b1s, b1s, ez]
    unfold f_L_areHands_147
    by_cases qz : z = 0
    · subst qz
      rw [if_pos (show nI 0 = 0 from rfl)]
      exact L_161 x1 x2 xp (Or.inl rfl) (fun _ => x4 rfl) hM 64 0 0 0 (by omega) (by omega) (by omega) (by omega) (Or.inr (Or.inr rfl))
    · have hk0 := (hl4 0 (by omega)).1
      rw [if_neg (nI_ne0 (by omega) (by omega)), show f0_X6_trickAt (0 : Int32) S = some (S.2.2.1 1 0) from r_trickAt (j := 0) (by omega) (by omega) ez, b1s, hkc 0 (by omega), e_Lsuit _ hk0, b1s]
      have h5' := su_lt _ hk0
      refine L_161 x1 x2 xp (Or.inr ⟨_, h5', rfl⟩) (fun e => absurd e (nm1 (by omega))) hM 64 0 0 0 (by omega) (by omega) (by omega) (by omega) ?_
      by_cases g : Has (S.2.2.2 0 ((L + z) % 4)) (su (kc 0))
      · exact Or.inr (Or.inl ⟨rfl, fun d _ hd => by rw [x5 (by omega) g d hd]⟩)
      · refine Or.inl ⟨rfl, fun d hd54 ⟨a, b⟩ => g ⟨d, a, ?_⟩⟩
        have s5 := su_lt d hd54
        exact (nI_eq (by omega) (by omega)).mp b
  · rw [if_neg h5]
    exact L_66 h5 (h.z h5) 64 0 (by omega) (by omega)
