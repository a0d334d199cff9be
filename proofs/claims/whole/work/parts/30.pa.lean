/-! discard -/
theorem or0 (x : Int64) : x ||| 0 = x := tbX fun c => by rw [tbO]; exact ⟨fun e => e.elim id (fun e => absurd e (tbZ c)), Or.inl⟩
theorem plT_zero {w : Nat → Int64} (h : ∀ p, p < 4 → w p = 0) (d q s : Int32) {j : Nat} (hj : j < 4) : plT w d q s j = 0 := by
  unfold plT
  by_cases e : sd (nI j) d q = s
  · rw [if_pos e, h j hj]
  · rw [if_neg e]
theorem pl_zero {w : Nat → Int64} (h : ∀ p, p < 4 → w p = 0) (b : Int64) (d q s : Int32) : pl b w d q s = b := by
  unfold pl
  rw [plT_zero h d q s (by decide), plT_zero h d q s (by decide), plT_zero h d q s (by decide), plT_zero h d q s (by decide), or0, or0, or0, or0]
theorem wo_king : ∀ s, s < 4 → wo (8 * s + 7) = 5 := by decide
theorem e_layT : ∀ c, c < 54 → (f_X6_canBeLaidAway (nI c) = some 1 ∧ wo c < 5) ∨ (f_X6_canBeLaidAway (nI c) = some 0 ∧ 5 ≤ wo c) := by
  intro c hc
  rw [e_lay c hc]
  by_cases q : wo c < 5
  · exact Or.inl ⟨by rw [if_pos q], q⟩
  · exact Or.inr ⟨by rw [if_neg q], by omega⟩
theorem wo_lt (c : Nat) : wo c ≤ 5 := by unfold wo; split <;> (try split) <;> omega
def less (h : Nat → Int64) (d c : Nat) : Nat → Int64 := vp_updL h d (h d &&& (jb c ^^^ (-1)))
theorem less_tb {h : Nat → Int64} {d c : Nat} (hc : c < 64) (p x : Nat) : tb (less h d c p) x = true ↔ tb (h p) x = true ∧ ¬ (p = d ∧ c = x) := by
  unfold less
  rw [updLE]
  by_cases e : p = d
  · subst e
    rw [if_pos rfl, tbN, tbJ hc]
    exact ⟨fun ⟨a, b⟩ => ⟨a, fun y => b y.2⟩, fun ⟨a, b⟩ => ⟨a, fun z => b ⟨rfl, z⟩⟩⟩
  · rw [if_neg e]
    exact ⟨fun a => ⟨a, fun y => e y.1⟩, fun y => y.1⟩
theorem less_crd {h : Nat → Int64} (hC : Crd h) {d c : Nat} (hc : c < 64) : Crd (less h d c) :=
  ⟨fun p hp x hx => hC.1 p hp x ((less_tb hc p x).mp hx).1, fun p q hp hq hpq x ⟨e1, e2⟩ => hC.2 p q hp hq hpq x ⟨((less_tb hc p x).mp e1).1, ((less_tb hc q x).mp e2).1⟩⟩
theorem less_cn {h : Nat → Int64} {d c : Nat} (hc : c < 54) (ht : tb (h d) c = true) : cn (less h d c d) + 1 = cn (h d) := by
  unfold less; rw [updLE, if_pos rfl]; exact cn_rem hc ht
theorem less_ne {h : Nat → Int64} {d c p : Nat} (e : p ≠ d) : less h d c p = h p := by unfold less; rw [updLE, if_neg e]
theorem P_discard {k : Nat} {S M : tk_ST} (h : Rel k S M) (p : Int32) : SimW 3 k (f_X6_discard p S) (f_X7_discard p M) := by
  obtain ⟨hE, hA, hF, hP, hD, hK, hC, hPi, hZ, hPh⟩ := id h
  have a1 : M.1 1 = S.1 1 := hE.1
  have a8 : M.1 8 = S.1 3 := hE.2.2.1
  have ah : M.2.2.2 0 = S.2.2.2 0 := hE.2.2.2.2.2.2.2.2.2.2.2.2.2.2.2.2
  unfold f_X6_discard f_X7_discard f_X7_discard_43 f_X7_discard_44
  rcases or3 (n := 54) (by decide) (x := p) with hp | ⟨c, hc, rfl⟩
  · rw [e_isCardN hp, e_cardMN hp, b1s, b1s, if_pos rfl, if_pos rfl, b1s, if_pos rfl]
    exact simW_err h rfl rfl
  · rw [e_isCard hc, e_cardM hc, b1s, b1s, if_neg n10, if_neg n10, b1s, if_neg n10, if_pos rfl, b1s, if_neg n10, if_neg n10, a1]
    by_cases h5 : S.1 1 = 4
    · obtain ⟨l, d, t, l1, l4, d4, el, ed, t1, t3, et, emt, cd, co, er, hFr⟩ := h.dis h5
      rw [if_pos h5, if_pos h5, ed, e_at13 d4, b1s, e_holds (by omega), b1s, a8, ed, if_neg (inR d4 (by decide)), cl (by omega), ah, e_has (by omega), b1s]
      by_cases hh : tb (S.2.2.2 0 d) c = true
      · rw [if_pos hh, if_neg n10, if_neg n10, e_worthM c hc, b1s]
        have w5 := wo_lt c
        rcases e_layT c hc with ⟨y1, y2⟩ | ⟨y1, y2⟩
        · rw [y1, b1s, if_neg n10, if_neg (show ¬ (5 : Int32) ≤ nI (wo c) from nI_ge (b := 5) y2 (by decide)), show f_X6_only (nI c) = some (jb c) from rfl, b1s, e_put13 d4, b1s, b1s]
          unfold f_X7_discard_66
          rw [e_fine0, b2s, if_neg n10, show (tk_I M 0 0).1 8 = nI d from a8.trans ed, if_neg (inR d4 (by decide)), cl (by omega), show f_X7_bit (nI c) = some (jb c) from rfl, b1s, if_neg (inR2 d4 (by omega)), b1s, b1s, show (tk_I M 0 0).2.2.2 0 = S.2.2.2 0 from ah, tb_sub (by omega) hh]
          obtain ⟨t', rfl⟩ : ∃ t', t = t' + 1 := ⟨t - 1, by omega⟩
          rw [show (tk_B S 0 (vp_updL (S.2.2.2 0) d (S.2.2.2 0 d &&& (jb c ^^^ -1)))).1 7 = nI (t' + 1) from et, show (tk_B (tk_I M 0 0) 0 (vp_updL (S.2.2.2 0) d (S.2.2.2 0 d &&& (jb c ^^^ -1)))).1 13 = nI (t' + 1) from emt, nI_pred]
          show SimW 3 k (if nI t' = 0 then (tk_b1 (f_X6_beginPlay (tk_I (tk_L (tk_B S 0 (less (S.2.2.2 0) d c)) 0 (S.2.1 0 ||| jb c)) 7 (nI t'))) fun S29 => some (0, S29.1 7, S29)) else some (0, nI t', tk_I (tk_L (tk_B S 0 (less (S.2.2.2 0) d c)) 0 (S.2.1 0 ||| jb c)) 7 (nI t'))) (if nI t' = 0 then (tk_b1 (f_X7_begins (tk_I (tk_L (tk_B (tk_I M 0 0) 0 (less (S.2.2.2 0) d c)) 0 (M.2.1 0 ||| jb c)) 13 (nI t'))) fun S17 => some (S17.1 13, S17)) else some (nI t', tk_I (tk_L (tk_B (tk_I M 0 0) 0 (less (S.2.2.2 0) d c)) 0 (M.2.1 0 ||| jb c)) 13 (nI t')))
          have aL : M.2.1 0 = S.2.1 0 := hE.2.2.2.2.2.2.2.2.2.2.2.1
          obtain ⟨f1, f2, f3, f4, f5, f6⟩ := hFr
          have hcn := less_cn (h := S.2.2.2 0) (d := d) hc hh
          have hK' : ∀ s o, s < 4 → o < 4 → S.1 4 = nI s → S.1 5 = nI o → M.1 12 = if tb (less (S.2.2.2 0) d c o) (8 * s + 7) = true then 0 else 1 := by
            intro s o hs ho es eo
            have q := hK.2.2.2 s o hs ho es eo
            have q2 : tb (less (S.2.2.2 0) d c o) (8 * s + 7) = true ↔ tb (S.2.2.2 0 o) (8 * s + 7) = true := by
              rw [less_tb (by omega)]
              refine ⟨fun y => y.1, fun y => ⟨y, fun z => ?_⟩⟩
              have := wo_king s hs
              rw [← z.2] at this
              omega
            rw [q]
            by_cases y : tb (S.2.2.2 0 o) (8 * s + 7) = true
            · rw [if_pos y, if_pos (q2.mpr y)]
            · rw [if_neg y, if_neg (fun z => y (q2.mp z))]
          have hE2 : M.2.2.1 0 = S.2.2.1 0 ∧ M.2.2.1 3 = S.2.2.1 1 ∧ M.2.2.1 4 = S.2.2.1 2 ∧ M.2.2.1 5 = S.2.2.1 3 ∧ less (S.2.2.2 0) d c = less (S.2.2.2 0) d c := ⟨hE.2.2.2.2.2.2.2.2.2.2.2.2.1, hE.2.2.2.2.2.2.2.2.2.2.2.2.2.1, hE.2.2.2.2.2.2.2.2.2.2.2.2.2.2.1, hE.2.2.2.2.2.2.2.2.2.2.2.2.2.2.2.1, rfl⟩
          have hP0 : M.1 14 = 0 ∧ S.2.2.2 1 0 = 0 ∧ S.2.2.2 1 1 = 0 ∧ ∀ p, p < 4 → M.2.2.2 1 p = 0 := by
            rcases hPi with y | ⟨y, _⟩
            · exact y
            · rw [f1] at y; exact absurd y (by decide)
          by_cases q0 : t' = 0
          · subst q0
            rw [if_pos (show nI 0 = 0 from rfl), if_pos (show nI 0 = 0 from rfl)]
            unfold f_X6_beginPlay f_X7_begins
            rw [show (0 : Int32) = nI 0 from rfl, show (1 : Int32) = nI 1 from rfl, e_put15 (by decide), b1s, e_put15 (by decide), b1s, b1s, b1s]
            obtain ⟨f, y1, y2, y3⟩ := f6
            refine simW_ok rfl rfl (Rel.mono (k := k) ⟨⟨rfl, ?_, hE.2.2.1, hE.2.2.2.1, hE.2.2.2.2.1, hE.2.2.2.2.2.1, hE.2.2.2.2.2.2.1, hE.2.2.2.2.2.2.2.1, hE.2.2.2.2.2.2.2.2.1, hE.2.2.2.2.2.2.2.2.2.1, hE.2.2.2.2.2.2.2.2.2.2.1, ?_, hE2⟩, hA, hF, hP, hD, ⟨fun e _ => hK.1 e (by rw [h5]; decide), hK.2.1, hK.2.2.1, hK'⟩, less_crd hC (by omega), Or.inr ⟨rfl, ?_, ?_⟩, hZ, ?_⟩ (Nat.le_succ k)) rfl
            · exact y3.trans y2.symm
            · show M.2.1 0 ||| jb c = S.2.1 0 ||| jb c
              rw [aL]
            · show S.2.1 0 ||| jb c = pl (M.2.1 0 ||| jb c) (M.2.2.2 1) (S.1 3) (S.1 6) 0
              rw [pl_zero hP0.2.2.2, aL]
            · show S.2.1 1 = pl (M.2.1 1) (M.2.2.2 1) (S.1 3) (S.1 6) 1
              rw [pl_zero hP0.2.2.2, er]
            · refine Or.inr (Or.inr (Or.inr (Or.inr (Or.inr ⟨rfl, l, d, f, 0, 0, l1, by omega, d4, y1, by decide, by decide, el, ed, f3.trans y2, y3, f4, f5, ?_, fun r hr => ?_, rfl, fun k hk => absurd hk (Nat.not_lt_zero k)⟩))))
              · show S.1 0 = nI ((f + 0) % 4)
                rw [y2, Nat.add_zero, Nat.mod_eq_of_lt y1]
              · show cn (less (S.2.2.2 0) d c r) = 12 - 0 - (if (r + 4 - f) % 4 < 0 then 1 else 0)
                rw [if_neg (Nat.not_lt_zero _)]
                by_cases e : r = d
                · subst e; omega
                · rw [less_ne e, co r hr e]
          · rw [if_neg (nI_ne0 (by omega) (by omega)), if_neg (nI_ne0 (by omega) (by omega))]
            refine simW_ok rfl rfl (Rel.mono (k := k) ⟨⟨a1, hE.2.1, hE.2.2.1, hE.2.2.2.1, hE.2.2.2.2.1, hE.2.2.2.2.2.1, hE.2.2.2.2.2.2.1, hE.2.2.2.2.2.2.2.1, hE.2.2.2.2.2.2.2.2.1, hE.2.2.2.2.2.2.2.2.2.1, hE.2.2.2.2.2.2.2.2.2.2.1, ?_, hE2⟩, hA, hF, hP, hD, ⟨hK.1, hK.2.1, hK.2.2.1, hK'⟩, less_crd hC (by omega), Or.inl hP0, hZ, ?_⟩ (Nat.le_succ k)) rfl
            · show M.2.1 0 ||| jb c = S.2.1 0 ||| jb c
              rw [aL]
            · refine Or.inr (Or.inr (Or.inr (Or.inr (Or.inl ⟨h5, l, d, t', l1, l4, d4, el, ed, by omega, by omega, rfl, rfl, ?_, fun r hr e => ?_, er, f1, f2, f3, f4, f5, f6⟩))))
              · show cn (less (S.2.2.2 0) d c d) = _
                omega
              · show cn (less (S.2.2.2 0) d c r) = _
                rw [less_ne e, co r hr e]
        · rw [y1, b1s, if_pos rfl, if_pos (show (5 : Int32) ≤ nI (wo c) from nI_le (a := 5) y2 (by omega))]
          exact simW_two h rfl rfl
      · rw [if_neg hh, if_pos rfl, if_pos rfl]
        exact simW_two h rfl rfl
    · rw [if_neg h5, if_neg h5]
      exact simW_two h rfl rfl
