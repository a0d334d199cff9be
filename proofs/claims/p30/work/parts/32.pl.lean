/-! play and playLowest -/
theorem now_ok {D : Nat} {S : tk_ST} (h : Inv D S) (h5 : S.1 1 = 5) {l d L z T : Nat} {kc : Nat → Nat} (hP : PlX D l d L z T kc S) : ∃ x, f_X6_playableNow S = some x ∧ (∀ c, tb x c = true → c < 54 ∧ tb (S.2.2.2 0 ((L + z) % 4)) c = true) ∧ ∃ c, c < 54 ∧ tb x c = true := by
  have hh := pl_hand hP
  obtain ⟨l1, l5, d4, hL, hz, hT, el, ed, eL, ez, eT, et, hcn, hkc, hDj, hTot, hB⟩ := id hP
  have hC := hDj.crd
  have ht : (L + z) % 4 < 4 := Nat.mod_lt _ (by decide)
  obtain ⟨loc, -, -, -, hl4⟩ := id hDj
  obtain ⟨x, x1, x2, x3, -, -⟩ := r_now (c0 := kc 0) h5 hC ht hz et ez (fun q => ⟨(hl4 0 q).1, hkc 0 q⟩)
  obtain ⟨c, c1, c2⟩ := hh
  obtain ⟨e, he⟩ := x3 ⟨c, c2⟩
  exact ⟨x, x1, fun c hc => ⟨hC.1 _ ht c (x2 c hc), x2 c hc⟩, e, hC.1 _ ht e (x2 e he), he⟩
theorem L_plow {D l d x : Nat} (hD : D < 2 ^ 29) (hx : x ≤ 48) : ∀ (n m : Nat) (S : tk_ST) (left : Nat), Inv D S → ((S.1 1 = 5 ∧ ∃ (L z T : Nat) (kc : Nat → Nat), PlX D l d L z T kc S ∧ left = 48 - 4 * T - z) ∨ (S.1 1 = 0 ∧ left = 0 ∧ Scd S)) → m ≤ x → x - m < n → ∃ S', f_X6_playLowest_43 n (nI x) (nI m) (nI m) S = some (0, nI (min x (m + left)), S') ∧ Inv D S' ∧ (S'.1 1 = 0 → Scd S') := by
  intro n
  induction n with
  | zero => intro m S left h g h1 h2; omega
  | succ n ih =>
    intro m S left h g hm hn
    rw [f_X6_playLowest_43_s]
    have hend : S.1 1 = 0 → Scd S := fun e => g.elim (fun y => absurd (y.1.symm.trans e) (by decide)) (fun y => y.2.2)
    by_cases q : m = x
    · subst q
      rw [if_pos (nI_le (Nat.le_refl m) (by omega)), show min m (m + left) = m by omega]
      exact ⟨S, rfl, h, hend⟩
    · rw [if_neg (nI_ge (by omega) (by omega))]
      rcases g with ⟨h5, L, z, T, kc, hP, hl⟩ | ⟨h0, hl, hs⟩
      · obtain ⟨X, x1, x2, x3⟩ := now_ok h h5 hP
        rw [if_pos h5, x1, b1s]
        rcases least X 54 with y | ⟨c, c1, c2, c3⟩
        · obtain ⟨e, e1, e2⟩ := x3
          exact absurd e2 (y e e1)
        · rw [show f_X6_lowestOf X = some (nI c) from L_low c1 c2 c3 64 0 (by omega) (by omega), b1s]
          obtain ⟨r, S', a1, a2, -, -, -, a6⟩ := S_card h hD h5 hP c1 (x2 c c2).2
          rw [a1, b2s, nI_1]
          obtain ⟨-, -, -, -, hz4, hT12, -⟩ := hP
          rcases a6 with ⟨b5, L', z', T', kc', hP', e⟩ | ⟨b0, e, hs⟩
          · obtain ⟨S2, c1, c2, c3⟩ := ih (m + 1) S' (48 - 4 * T' - z') a2 (Or.inl ⟨b5, L', z', T', kc', hP', rfl⟩) (by omega) (by omega)
            refine ⟨S2, ?_, c2, c3⟩
            rw [c1, show m + 1 + (48 - 4 * T' - z') = m + left by omega]
          · obtain ⟨S2, c1, c2, c3⟩ := ih (m + 1) S' 0 a2 (Or.inr ⟨b0, rfl, hs⟩) (by omega) (by omega)
            refine ⟨S2, ?_, c2, c3⟩
            rw [c1, show m + 1 + 0 = m + left by omega]
      · rw [if_neg (show ¬ S.1 1 = 5 by rw [h0]; decide), show min x (m + left) = m by omega]
        exact ⟨S, rfl, h, hend⟩
theorem S_plow {D : Nat} {S : tk_ST} (h : Inv D S) (hD : D < 2 ^ 29) (h5 : S.1 1 = 5) {l d L z T : Nat} {kc : Nat → Nat} (hP : PlX D l d L z T kc S) {x : Nat} (x1 : 1 ≤ x) (x48 : x ≤ 48) : ∃ S', f0_X6_playLowest (nI x) S = some (nI (min x (48 - 4 * T - z)), S') ∧ Inv D S' ∧ (S'.1 1 = 0 → Scd S') := by
  obtain ⟨S', a1, a2, a3⟩ := L_plow (l := l) (d := d) hD x48 64 0 S (48 - 4 * T - z) h (Or.inl ⟨h5, L, z, T, kc, hP, rfl⟩) (by omega) (by omega)
  refine ⟨S', ?_, a2, a3⟩
  rw [Nat.zero_add] at a1
  unfold f0_X6_playLowest f_X6_playLowest
  rw [if_neg (show ¬ nI x < 1 from nI_nlt (b := 1) (a := x) x1 (by omega)), if_pos (show nI x ≤ 48 from nI_le (b := 48) x48 (by decide)), if_pos h5, show f_X6_playLowest_43 64 (nI x) 0 0 S = _ from a1, b3s, if_pos rfl]
theorem w3_four {kk : Nat → Nat} (hk : ∀ i, i < 4 → kk i < 54) : ((3 : Int32) * (((nI (wo (kk 0)) + nI (wo (kk 1))) + nI (wo (kk 2))) + nI (wo (kk 3)))) - 8 = nI (trS kk 4) := by
  have a0 := wo_b _ (hk 0 (by omega))
  have a1 := wo_b _ (hk 1 (by omega))
  have a2 := wo_b _ (hk 2 (by omega))
  have a3 := wo_b _ (hk 3 (by omega))
  rw [nI_add, nI_add, nI_add, show (3 : Int32) * nI (wo (kk 0) + wo (kk 1) + wo (kk 2) + wo (kk 3)) = nI (3 * (wo (kk 0) + wo (kk 1) + wo (kk 2) + wo (kk 3))) from pk_mul 3 _, show ∀ n, 8 ≤ n → nI n - 8 = nI (n - 8) from fun n hn => pk_sub (b := 8) hn]
  · congr 1
    show _ = 0 + w3 (kk 0) + w3 (kk 1) + w3 (kk 2) + w3 (kk 3)
    unfold w3
    omega
  · omega
theorem lg_self (x : Int64) : lg_cmp x x = 0 := by rw [lg_cmp_eq]
theorem isPlayed_ok {D : Nat} {S : tk_ST} (h : Inv D S) (hD : D < 2 ^ 29) (h5 : S.1 1 = 5) {Y : Nat} (hY : Y < 2 ^ 30) : ∃ S', f_L_isPlayed (nI Y) S = some (1, S') ∧ Inv D S' ∧ (S'.1 1 = 0 → Scd S') := by
  obtain ⟨l, d, L, z, T, kc, hP⟩ := h.p h5
  have hh := pl_hand hP
  obtain ⟨X, x1, x2, -⟩ := now_ok h h5 hP
  obtain ⟨l1, l5, d4, L4, z4, T12, el, ed, eL, ez, eT, et, hcn, hkc, hDj, hTot, hB⟩ := id hP
  have ht : (L + z) % 4 < 4 := Nat.mod_lt _ (by decide)
  obtain ⟨c, hc, hcb, hdr⟩ := e_drawn hY hh
  have hk54 : ∀ i, i < z → kc i < 54 := by
    obtain ⟨loc, -, -, -, k4⟩ := id hDj
    exact fun i hi => (k4 i hi).1
  have hat : ∀ j, j < z → f0_X6_trickAt (nI j) S = some (nI (kc j)) := fun j hj => by rw [r_trickAt hj (by omega) ez, hkc j hj]
  have e1 : f_L_isPlayed (nI Y) S = f_L_isPlayed_87 (nI ((L + z) % 4)) (nI z) (nI T) (S.2.2.2 0 ((L + z) % 4)) (nI c) (if tb X c = true then 1 else 0) (nI (if 0 < z then kc 0 else c)) (nI (if 1 < z then kc 1 else c)) (nI (if 2 < z then kc 2 else c)) S := by
    unfold f_L_isPlayed f_X6_turn f_X6_inTrick f_X6_tricks
    rw [b1s, b1s, b1s, et, r_hand ht, b1s, hdr, b1s, r_canPlay x1 hc, b1s, ez, eT]
    unfold f_L_isPlayed_53 f_L_isPlayed_70
    rcases (show z = 0 ∨ z = 1 ∨ z = 2 ∨ z = 3 by omega) with rfl | rfl | rfl | rfl
    · rw [if_pos (show nI 0 ≤ 0 by decide), if_pos (show nI 0 ≤ 1 by decide), if_pos (show nI 0 ≤ 2 by decide)]
      rfl
    · rw [if_neg (show ¬ nI 1 ≤ 0 by decide), show f0_X6_trickAt (0 : Int32) S = some (nI (kc 0)) from hat 0 (by omega), b1s, if_pos (show nI 1 ≤ 1 by decide), if_pos (show nI 1 ≤ 2 by decide)]
      rfl
    · rw [if_neg (show ¬ nI 2 ≤ 0 by decide), show f0_X6_trickAt (0 : Int32) S = some (nI (kc 0)) from hat 0 (by omega), b1s, if_neg (show ¬ nI 2 ≤ 1 by decide), show f0_X6_trickAt (1 : Int32) S = some (nI (kc 1)) from hat 1 (by omega), b1s, if_pos (show nI 2 ≤ 2 by decide)]
      rfl
    · rw [if_neg (show ¬ nI 3 ≤ 0 by decide), show f0_X6_trickAt (0 : Int32) S = some (nI (kc 0)) from hat 0 (by omega), b1s, if_neg (show ¬ nI 3 ≤ 1 by decide), show f0_X6_trickAt (1 : Int32) S = some (nI (kc 1)) from hat 1 (by omega), b1s, if_neg (show ¬ nI 3 ≤ 2 by decide), show f0_X6_trickAt (2 : Int32) S = some (nI (kc 2)) from hat 2 (by omega), b1s]
      rfl
  rw [e1]
  unfold f_L_isPlayed_87 f_L_plays f_X6_play
  rw [r_thirds0, b1s, r_thirds1, b1s, e_isCard hc, b1s, if_neg n10, x1, b1s, e_holds (by omega), b1s]
  by_cases q : tb X c = true
  · obtain ⟨r, S', a1, a2, a3, a4, a5, a6⟩ := S_card h hD h5 hP hc hcb
    have hfin : S'.1 1 = 0 → Scd S' := fun e => a6.elim (fun y => absurd (y.1.symm.trans e) (by decide)) (fun y => y.2.2)
    rw [if_pos q, if_neg n10, a1, b2s, b3s, if_pos rfl, b2s, if_neg n10, r_hand ht, b1s, show (1 : Int64) <<< ((nI c).toInt64 &&& 63) = jb c from rfl, tb_sub (by omega) hcb, a3, show less (S.2.2.2 0) ((L + z) % 4) c ((L + z) % 4) = S.2.2.2 0 ((L + z) % 4) &&& (jb c ^^^ (-1)) by unfold less; rw [updLE, if_pos rfl], if_pos (lg_self _)]
    unfold f_L_isPlayed_168
    by_cases qz : z < 3
    · obtain ⟨b1, b2, b3, b4⟩ := a4 qz
      rw [if_neg (show ¬ (3 : Int32) ≤ nI z from nI_ge (b := 3) qz (by decide)), if_neg n10, if_pos b1]
      unfold f_X6_inTrick f_X6_turn
      rw [b1s, b2, nI_1, if_pos rfl, r_trickAt (z := z + 1) (by omega) (by omega) b2, b1s, b3, if_pos rfl, b1s, b4, nI_1, show (4 : Int32) = nI 4 from rfl, e_rem (by omega) (by decide) (by decide), if_pos (show nI ((L + z + 1) % 4) = nI (((L + z) % 4 + 1) % 4) by congr 1; omega)]
      exact ⟨S', rfl, a2, hfin⟩
    · obtain rfl : z = 3 := by omega
      obtain ⟨b1, b2, b3, b4, b5⟩ := a5 rfl
      have hkk : ∀ i, i < 4 → kz kc 3 c i < 54 := by
        intro i hi
        unfold kz
        by_cases e : i = 3
        · rw [if_pos e]; exact hc
        · rw [if_neg e]; exact hk54 i (by omega)
      have hw := e_Lwins hkk
      have h3 := w3_four hkk
      have hB4 := bst_lt (kz kc 3 c)
      rw [if_pos (show (3 : Int32) ≤ nI 3 by decide), show (if 0 < 3 then kc 0 else c) = kz kc 3 c 0 from rfl, show (if 1 < 3 then kc 1 else c) = kz kc 3 c 1 from rfl, show (if 2 < 3 then kc 2 else c) = kz kc 3 c 2 from rfl, show nI c = nI (kz kc 3 c 3) from rfl, r_value (hkk 0 (by omega)), b1s, r_value (hkk 1 (by omega)), b1s, r_value (hkk 2 (by omega)), b1s, r_value (hkk 3 (by omega)), b1s, if_neg n10, hw, b1s, h3, nI_1, nI_add, show (4 : Int32) = nI 4 from rfl, e_rem (by omega) (by decide) (by decide), if_pos (show r = nI (((L + 3) % 4 + 1 + bst (kz kc 3 c)) % 4) by rw [b1]; congr 1; omega)]
      unfold f_X6_tricks f_X6_inTrick f_X6_turn
      rw [b1s, b2, nI_1, if_pos rfl, b1s, if_pos b3, b1s, b4]
      have e320 : ∀ k : Int32, f_L_isPlayed_320 (nI (th (S.2.2.2 1 0)) + nI (th (S.2.2.2 1 1))) (nI (trS (kz kc 3 c) 4)) k k S' = some (1, S') := by
        intro k
        unfold f_L_isPlayed_320
        rw [if_pos rfl, r_thirds0, b1s, r_thirds1, b1s, nI_add, nI_add, nI_add, b5, if_pos rfl]
      refine ⟨S', ?_, a2, hfin⟩
      by_cases q11 : T = 11
      · rw [if_pos q11, if_pos (show nI T = 11 by rw [q11]; rfl)]
        exact e320 _
      · rw [if_neg q11, if_neg (show ¬ nI T = 11 from fun e => q11 ((nI_eq (b := 11) (by omega) (by decide)).mp e))]
        exact e320 _
  · rw [if_neg q, if_pos rfl, b3s, if_neg (show ¬ (2 : Int32) = 0 by decide), if_pos rfl, b2s, if_pos rfl, if_pos rfl, r_hand ht, b1s, if_pos (lg_self _)]
    unfold f_X6_turn
    rw [b1s, if_pos et]
    exact ⟨S, rfl, h, fun e => absurd (h5.symm.trans e) (by decide)⟩
