/-! counting cards -/
theorem tbO (x y : Int64) (c : Nat) : tb (x ||| y) c = true ↔ tb x c = true ∨ tb y c = true := by rw [tb_or, Bool.or_eq_true]
theorem tbN (x y : Int64) (c : Nat) : tb (x &&& (y ^^^ (-1))) c = true ↔ tb x c = true ∧ ¬ tb y c = true := by rw [tb_andn]; cases tb x c <;> cases tb y c <;> decide
theorem tbJ {c : Nat} (hc : c < 64) (d : Nat) : tb (jb c) d = true ↔ c = d := by rw [tb_jb hc, decide_eq_true_iff]
theorem tbZ (c : Nat) : ¬ tb 0 c = true := by rw [tb_zero]; decide
theorem tbX {x y : Int64} (h : ∀ c, tb x c = true ↔ tb y c = true) : x = y := by
  apply tb_ext; intro c _
  have := h c
  cases e : tb x c <;> cases e2 : tb y c <;> simp_all
theorem ct_congr {p q : Nat → Bool} : ∀ n, (∀ i, i < n → (p i = true ↔ q i = true)) → ct p n = ct q n
  | 0, _ => rfl
  | n + 1, h => by
    show ct p n + _ = ct q n + _
    rw [ct_congr n (fun i hi => h i (by omega))]
    have := h n (by omega)
    by_cases e : p n = true
    · rw [if_pos e, if_pos (this.mp e)]
    · rw [if_neg e, if_neg (fun e' => e (this.mpr e'))]
theorem ct_add {p q r : Nat → Bool} : ∀ n, (∀ i, i < n → (r i = true ↔ p i = true ∨ q i = true)) → (∀ i, i < n → ¬ (p i = true ∧ q i = true)) → ct r n = ct p n + ct q n
  | 0, _, _ => rfl
  | n + 1, h, g => by
    show ct r n + _ = (ct p n + _) + (ct q n + _)
    rw [ct_add n (fun i hi => h i (by omega)) (fun i hi => g i (by omega))]
    have h1 := h n (by omega)
    have h2 := g n (by omega)
    by_cases e : p n = true
    · have e2 : ¬ q n = true := fun x => h2 ⟨e, x⟩
      rw [if_pos e, if_neg e2, if_pos (h1.mpr (Or.inl e))]; omega
    · by_cases e2 : q n = true
      · rw [if_neg e, if_pos e2, if_pos (h1.mpr (Or.inr e2))]; omega
      · rw [if_neg e, if_neg e2, if_neg (fun x => (h1.mp x).elim e e2)]; omega
theorem ct_one {p : Nat → Bool} {c : Nat} (h : ∀ i, p i = true ↔ c = i) : ∀ n, ct p n = if c < n then 1 else 0
  | 0 => rfl
  | n + 1 => by
    show ct p n + _ = _
    rw [ct_one h n]
    by_cases e : c = n
    · rw [if_pos ((h n).mpr e), if_neg (by omega), if_pos (by omega)]
    · rw [if_neg (fun x => e ((h n).mp x))]
      by_cases g : c < n
      · rw [if_pos g, if_pos (by omega)]
      · rw [if_neg g, if_neg (by omega)]
theorem ct_zero {p : Nat → Bool} : ∀ n, (∀ i, i < n → ¬ p i = true) → ct p n = 0
  | 0, _ => rfl
  | n + 1, h => by
    show ct p n + _ = _
    rw [ct_zero n (fun i hi => h i (by omega)), if_neg (h n (by omega))]
theorem cn_or {x y : Int64} (h : ∀ c, ¬ (tb x c = true ∧ tb y c = true)) : cn (x ||| y) = cn x + cn y := ct_add 54 (fun i _ => tbO x y i) (fun i _ => h i)
theorem cn_jb {c : Nat} (hc : c < 54) : cn (jb c) = 1 := by
  unfold cn
  rw [ct_one (c := c) (tbJ (by omega)), if_pos hc]
theorem cn_zero : cn 0 = 0 := ct_zero 54 (fun i _ => tbZ i)
theorem cn_rem {x : Int64} {c : Nat} (hc : c < 54) (h : tb x c = true) : cn (x &&& (jb c ^^^ (-1))) + 1 = cn x := by
  have e : x = (x &&& (jb c ^^^ (-1))) ||| jb c := by
    apply tbX; intro d
    rw [tbO, tbN, tbJ (by omega)]
    by_cases q : c = d
    · subst q; exact ⟨fun _ => Or.inr rfl, fun _ => h⟩
    · exact ⟨fun y => Or.inl ⟨y, q⟩, fun y => y.elim (·.1) (fun e => absurd e q)⟩
  have h2 := cn_or (x := x &&& (jb c ^^^ (-1))) (y := jb c) (fun d => by rw [tbN]; exact fun ⟨a, b⟩ => a.2 b)
  rw [← e, cn_jb hc] at h2
  exact h2.symm
theorem cn_pos {x : Int64} (h : 0 < cn x) : ∃ c, c < 54 ∧ tb x c = true := Classical.byContradiction fun q => by
  have := ct_zero (p := tb x) 54 (fun i hi e => q ⟨i, hi, e⟩)
  unfold cn at h; omega
/-! cards from the row -/
theorem jbI_nI (c : Nat) : jbI (nI c) = jb c := rfl
theorem tb_orr {f : Nat → Int32} {v : Nat → Nat} (hv : ∀ i, i < 54 → v i < 54 ∧ f i = nI (v i)) {a : Nat} : ∀ n, a + n ≤ 54 → ∀ c, tb (orr f a n) c = true ↔ ∃ i, i < n ∧ v (a + i) = c
  | 0, _, c => ⟨fun e => absurd e (tbZ c), fun ⟨i, hi, _⟩ => absurd hi (Nat.not_lt_zero i)⟩
  | n + 1, h, c => by
    show tb (orr f a n ||| jbI (f (a + n))) c = true ↔ _
    have hc := hv (a + n) (by omega)
    rw [hc.2, jbI_nI, tbO, tb_orr hv n (by omega) c, tbJ (by omega)]
    constructor
    · rintro (⟨i, hi, e⟩ | e)
      · exact ⟨i, by omega, e⟩
      · exact ⟨n, by omega, e⟩
    · rintro ⟨i, hi, e⟩
      by_cases q : i = n
      · subst q; exact Or.inr e
      · exact Or.inl ⟨i, by omega, e⟩
theorem cn_orr {f : Nat → Int32} {v : Nat → Nat} (hv : ∀ i, i < 54 → v i < 54 ∧ f i = nI (v i)) (hi : ∀ i j, i < 54 → j < 54 → v i = v j → i = j) {a : Nat} : ∀ n, a + n ≤ 54 → cn (orr f a n) = n
  | 0, _ => cn_zero
  | n + 1, h => by
    show cn (orr f a n ||| jbI (f (a + n))) = _
    have hc := hv (a + n) (by omega)
    rw [hc.2, jbI_nI, cn_or, cn_orr hv hi n (by omega), cn_jb hc.1]
    intro c
    rw [tb_orr hv n (by omega), tbJ (by omega)]
    rintro ⟨⟨i, h1, h2⟩, h3⟩
    have := hi (a + i) (a + n) (by omega) (by omega) (h2.trans h3.symm)
    omega
theorem L_from {S : tk_ST} {a m : Nat} (h : a + m ≤ 54) : ∀ n j : Nat, j ≤ m → m - j < n → f_X1_cardsFrom_5 n (nI a) (nI m) (orr (S.2.2.1 0) a j) (nI j) S = some (orr (S.2.2.1 0) a m)
  | 0, _, _, g => absurd g (Nat.not_lt_zero _)
  | n + 1, j, hj, g => by
    rw [f_X1_cardsFrom_5_s]
    by_cases q : j = m
    · subst q; rw [if_pos (nI_le (Nat.le_refl j) (by omega))]
    · rw [if_neg (nI_ge (by omega) (by omega)), nI_add, e_at2 (by omega), b1s, show f_X6_only (S.2.2.1 0 (a + j)) = some (jbI (S.2.2.1 0 (a + j))) from rfl, b1s, nI_1]
      exact L_from h n (j + 1) (by omega) (by omega)
theorem e_from {S : tk_ST} {a m : Nat} (h : a + m ≤ 54) : f_X1_cardsFrom (nI a) (nI m) S = some (orr (S.2.2.1 0) a m) := L_from h 64 0 (Nat.zero_le m) (by omega)
