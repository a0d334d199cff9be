/-! a card is played -/
theorem e_first {S : tk_ST} {c t z : Nat} (ht : t < 4) (hz : z < 4) (et : S.1 2 = nI t) (ez : S.1 14 = nI z) : f_X6_addToTrick (nI c) S = (fun SA : tk_ST => if (4 : Int32) ≤ nI (z + 1) then (tk_b1 (f_X5_winner SA) fun r14 => (tk_b1 (f_X6_endTrick r14 SA) fun S19 => some (r14, S19))) else some (-1, tk_I SA 2 (nI ((t + 1) % 4)))) (tk_I (tk_A (tk_B S 0 (less (S.2.2.2 0) t c)) 1 (upd (S.2.2.1 1) z (nI c))) 14 (nI (z + 1))) := by
  unfold f_X6_addToTrick f_X5_add
  rw [et, e_at13 ht, b1s, show f_X6_only (nI c) = some (jb c) from rfl, b1s, e_put13 ht, b1s, show (tk_B S 0 (vp_updL (S.2.2.2 0) t (S.2.2.2 0 t &&& (jb c ^^^ -1)))).1 14 = nI z from ez, e_put6 hz, b1s, b1s, show (tk_A (tk_B S 0 (vp_updL (S.2.2.2 0) t (S.2.2.2 0 t &&& (jb c ^^^ -1)))) 1 (upd ((tk_B S 0 (vp_updL (S.2.2.2 0) t (S.2.2.2 0 t &&& (jb c ^^^ -1)))).2.2.1 1) z (nI c))).1 14 = nI z from ez, nI_1]
  rw [show (tk_I (tk_A (tk_B S 0 (vp_updL (S.2.2.2 0) t (S.2.2.2 0 t &&& (jb c ^^^ -1)))) 1 (upd ((tk_B S 0 (vp_updL (S.2.2.2 0) t (S.2.2.2 0 t &&& (jb c ^^^ -1)))).2.2.1 1) z (nI c))) 14 (nI (z + 1))).1 2 = nI t from et, e_behind ht, b1s]
  rfl
def outN (M : tk_ST) (c : Nat) : Int32 := if M.1 12 = 0 then (if M.1 9 = -1 then 0 else if nI c = (8 : Int32) * M.1 9 + 7 then 1 else 0) else 1
theorem outN01 (M : tk_ST) (c : Nat) : outN M c = 0 ∨ outN M c = 1 := by
  unfold outN
  by_cases e : M.1 12 = 0
  · rw [if_pos e]
    by_cases e : M.1 9 = -1
    · rw [if_pos e]; exact Or.inl rfl
    · rw [if_neg e]
      by_cases e : nI c = (8 : Int32) * M.1 9 + 7
      · rw [if_pos e]; exact Or.inr rfl
      · rw [if_neg e]; exact Or.inl rfl
  · rw [if_neg e]; exact Or.inr rfl
theorem e_firstM {M : tk_ST} {c t z : Nat} (hc : c < 54) (ht : t < 4) (hz : z < 4) (et : M.1 4 = nI t) (ez : M.1 15 = nI z) (hh : tb (M.2.2.2 0 t) c = true) : f_X7_plays (nI c) M = f_X7_plays_65 (outN M c) (tk_I (tk_A (tk_B M 0 (less (M.2.2.2 0) t c)) 3 (upd (M.2.2.1 3) z (nI c))) 15 (nI (z + 1))) := by
  unfold f_X7_plays f_X7_plays_60 f_X7_plays_64
  rw [et, if_neg (inR ht (by decide)), cl (by omega), show f_X7_bit (nI c) = some (jb c) from rfl, b1s, if_neg (inR2 ht (by omega)), b1s, tb_sub (by omega) hh, show (tk_B M 0 (vp_updL (M.2.2.2 0) t (M.2.2.2 0 t &&& (jb c ^^^ -1)))).1 15 = nI z from ez, if_neg (inR hz (by decide)), cl (by omega), b1s]
  show (if M.1 12 = 0 then _ else _) = _
  unfold outN
  by_cases e : M.1 12 = 0
  · rw [if_pos e, if_pos e]
    show (if M.1 9 = -1 then _ else _) = _
    have e15 : (tk_A (tk_B M 0 (vp_updL (M.2.2.2 0) t (M.2.2.2 0 t &&& (jb c ^^^ -1)))) 3 (upd ((tk_B M 0 (vp_updL (M.2.2.2 0) t (M.2.2.2 0 t &&& (jb c ^^^ -1)))).2.2.1 3) z (nI c))).1 15 + 1 = nI (z + 1) := by
      rw [show (tk_A (tk_B M 0 (vp_updL (M.2.2.2 0) t (M.2.2.2 0 t &&& (jb c ^^^ -1)))) 3 (upd ((tk_B M 0 (vp_updL (M.2.2.2 0) t (M.2.2.2 0 t &&& (jb c ^^^ -1)))).2.2.1 3) z (nI c))).1 15 = nI z from ez, nI_1]
    rw [e15]
    by_cases e : M.1 9 = -1
    · rw [if_pos e, if_pos e]; rfl
    · rw [if_neg e, if_neg e]
      unfold f_X7_king
      rw [b1s]
      show (if nI c = (8 : Int32) * M.1 9 + 7 then _ else _) = _
      by_cases e : nI c = (8 : Int32) * M.1 9 + 7
      · rw [if_pos e, if_pos e]; rfl
      · rw [if_neg e, if_neg e]; rfl
  · rw [if_neg e, if_neg e]
    rw [show (tk_A (tk_B M 0 (vp_updL (M.2.2.2 0) t (M.2.2.2 0 t &&& (jb c ^^^ -1)))) 3 (upd ((tk_B M 0 (vp_updL (M.2.2.2 0) t (M.2.2.2 0 t &&& (jb c ^^^ -1)))).2.2.1 3) z (nI c))).1 15 = nI z from ez, nI_1]
    rfl
theorem kn_play {S M : tk_ST} (hK : Kn S M) (hC : Crd (S.2.2.2 0)) (a9 : M.1 9 = S.1 4) {c t : Nat} (hc : c < 54) (ht : t < 4) (hh : tb (S.2.2.2 0 t) c = true) : ∀ s o, s < 4 → o < 4 → S.1 4 = nI s → S.1 5 = nI o → outN M c = if tb (less (S.2.2.2 0) t c o) (8 * s + 7) = true then 0 else 1 := by
  intro s o hs ho es eo
  have hk := hK.2.2.2 s o hs ho es eo
  unfold outN
  rw [a9, es, e_king hs, if_neg (show ¬ nI s = -1 from n1I (by omega))]
  by_cases e : M.1 12 = 0
  · rw [if_pos e]
    have hb : tb (S.2.2.2 0 o) (8 * s + 7) = true := Classical.byContradiction fun q => by
      rw [if_neg q, e] at hk; exact absurd hk (by decide)
    by_cases q : c = 8 * s + 7
    · rw [if_pos (show nI c = nI (8 * s + 7) by rw [q])]
      have hot : o = t := Classical.byContradiction fun r => hC.2 o t ho ht r c ⟨by rw [q]; exact hb, hh⟩
      rw [if_neg]
      rw [less_tb (by omega)]
      exact fun y => y.2 ⟨hot, q⟩
    · rw [if_neg (fun y => q ((nI_eq (by omega) (by omega)).mp y)), if_pos]
      rw [less_tb (by omega)]
      exact ⟨hb, fun y => q y.2⟩
  · rw [if_neg e, if_neg]
    rw [less_tb (by omega)]
    intro y
    rw [if_pos y.1] at hk
    exact e hk
theorem cn_play {h : Nat → Int64} {L z T c t : Nat} (hL : L < 4) (hz : z < 4) (hT : T < 12) (hc : c < 54) (et : t = (L + z) % 4) (hh : tb (h t) c = true) (hcn : ∀ p, p < 4 → cn (h p) = 12 - T - (if (p + 4 - L) % 4 < z then 1 else 0)) : ∀ p, p < 4 → cn (less h t c p) = 12 - T - (if (p + 4 - L) % 4 < z + 1 then 1 else 0) := by
  intro p hp
  have h1 := hcn p hp
  by_cases e : p = t
  · have h2 := less_cn (h := h) (d := t) hc hh
    rw [e] at h1 ⊢
    rw [if_neg (by omega)] at h1
    rw [if_pos (by omega)]
    omega
  · rw [less_ne e, h1]
    have e2 : (p + 4 - L) % 4 ≠ z := by omega
    by_cases q : (p + 4 - L) % 4 < z
    · rw [if_pos q, if_pos (by omega)]
    · rw [if_neg q, if_neg (by omega)]
