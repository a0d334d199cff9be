/-! take -/
def szl (l : Nat) : Nat := if 3 ≤ l then 1 else 4 - l
def grl (l : Nat) : Nat := if 3 ≤ l then 6 else l + 1
def gA (f : Nat → Int32) (x : Int64) (p sz : Nat) : Nat → Int64
  | 0 => x
  | j + 1 => if j / sz = p then gA f x p sz j ||| jbI (f (48 + j)) else gA f x p sz j
def gR (f : Nat → Int32) (p sz : Nat) : Nat → Int64
  | 0 => 0
  | j + 1 => if j / sz = p then gR f p sz j else gR f p sz j ||| jbI (f (48 + j))
theorem inR2 {j n : Nat} (h : j < n) (hj : j < 2 ^ 31) : ¬ (nI j < 0 ∨ n ≤ j) := fun e => e.elim (nneg hj) (by omega)
theorem e_talonM {j : Nat} (h : j < 6) (S : tk_ST) : f_X7_talon (nI j) S = some (S.2.2.1 0 (48 + j)) := by
  unfold f_X7_talon
  rw [show (48 : Int32) + nI j = nI (48 + j) from nI_add 48 j, if_neg (inR (by omega) (by decide)), cl (by omega)]
theorem div6 : ∀ j, j < 6 → ∀ z, z < 4 → 0 < z → nI j / nI z = nI (j / z) := by decide +kernel
theorem mul6 : ∀ j, j < 6 → ∀ z, z < 4 → nI j * nI z = nI (j * z) := by decide +kernel
theorem L_take {S0 : tk_ST} {d p sz : Nat} (d4 : d < 4) (ed : S0.1 8 = nI d) (z0 : 0 < sz) (z4 : sz < 4) (hp : p < 6) : ∀ m, m ≤ 6 → ∃ S', f_X7_take_69 64 (nI p) (nI sz) 0 S0 = f_X7_take_69 (64 - m) (nI p) (nI sz) (nI m) S' ∧ S'.1 = S0.1 ∧ S'.2.2.1 = S0.2.2.1 ∧ S'.2.1 0 = S0.2.1 0 ∧ S'.2.2.2 1 = S0.2.2.2 1 ∧ (S0.2.1 1 = 0 → S'.2.1 1 = gR (S0.2.2.1 0) p sz m) ∧ ∀ q, S'.2.2.2 0 q = if q = d then gA (S0.2.2.1 0) (S0.2.2.2 0 d) p sz m else S0.2.2.2 0 q
  | 0, _ => ⟨S0, rfl, rfl, rfl, rfl, rfl, fun e => e, fun q => by
      by_cases e : q = d
      · rw [if_pos e, e]; rfl
      · rw [if_neg e]⟩
  | m + 1, h => by
    obtain ⟨A, x1, x2, x3, x4, x5, x6, x7⟩ := L_take (S0 := S0) d4 ed z0 z4 hp m (by omega)
    have e64 : 64 - m = (64 - (m + 1)) + 1 := by omega
    rw [x1, e64, f_X7_take_69_s, if_neg (show ¬ (6 : Int32) ≤ nI m from nI_ge (b := 6) (by omega) (by decide)), if_neg (nI_ne0 z0 (by omega)), div6 m (by omega) sz z4 z0, e_talonM (by omega) A, b1s, x2, ed, if_neg (inR d4 (by decide)), cl (by omega), b1s, x3]
    have hb : f_X7_bit (S0.2.2.1 0 (48 + m)) = some (jbI (S0.2.2.1 0 (48 + m))) := rfl
    rw [hb, b1s, b1s, if_neg (inR2 d4 (by omega)), b1s]
    unfold f_X7_take_122
    rw [nI_1]
    by_cases q : m / sz = p
    · have q' : nI (m / sz) = nI p := by rw [q]
      rw [if_pos q']
      refine ⟨_, rfl, x2, x3, x4, x5, fun e => ?_, fun r => ?_⟩
      · show A.2.1 1 = gR _ p sz (m + 1)
        rw [x6 e]; exact (if_pos q).symm
      · show vp_updL (A.2.2.2 0) d (A.2.2.2 0 d ||| jbI (S0.2.2.1 0 (48 + m))) r = _
        rw [updLE]
        by_cases e : r = d
        · rw [if_pos e, if_pos e, x7, if_pos rfl]; exact (if_pos q).symm
        · rw [if_neg e, if_neg e, x7, if_neg e]
    · have q' : ¬ nI (m / sz) = nI p := fun e => q ((nI_eq (Nat.lt_of_le_of_lt (Nat.div_le_self m sz) (by omega)) (by omega)).mp e)
      rw [if_neg q']
      refine ⟨_, rfl, x2, x3, x4, x5, fun e => ?_, fun r => ?_⟩
      · show A.2.1 1 ||| jbI (S0.2.2.1 0 (48 + m)) = gR _ p sz (m + 1)
        rw [x6 e]; exact (if_neg q).symm
      · show A.2.2.2 0 r = _
        rw [x7]
        by_cases e : r = d
        · rw [if_pos e, if_pos e]; exact (if_neg q).symm
        · rw [if_neg e, if_neg e]
theorem tb_gA {f : Nat → Int32} {v : Nat → Nat} (hv : ∀ i, i < 54 → v i < 54 ∧ f i = nI (v i)) {x : Int64} {p sz : Nat} : ∀ m, m ≤ 6 → ∀ c, tb (gA f x p sz m) c = true ↔ tb x c = true ∨ ∃ i, i < m ∧ i / sz = p ∧ v (48 + i) = c
  | 0, _, c => ⟨Or.inl, fun e => e.elim id (fun ⟨i, hi, _⟩ => absurd hi (Nat.not_lt_zero i))⟩
  | m + 1, h, c => by
    have ih := tb_gA hv (x := x) (p := p) (sz := sz) m (by omega) c
    have hc := hv (48 + m) (by omega)
    by_cases q : m / sz = p
    · rw [show gA f x p sz (m + 1) = gA f x p sz m ||| jbI (f (48 + m)) from if_pos q, hc.2, jbI_nI, tbO, ih, tbJ (by omega)]
      constructor
      · rintro ((e | ⟨i, h1, h2⟩) | e)
        · exact Or.inl e
        · exact Or.inr ⟨i, by omega, h2⟩
        · exact Or.inr ⟨m, by omega, q, e⟩
      · rintro (e | ⟨i, h1, h2, h3⟩)
        · exact Or.inl (Or.inl e)
        · by_cases r : i = m
          · subst r; exact Or.inr h3
          · exact Or.inl (Or.inr ⟨i, by omega, h2, h3⟩)
    · rw [show gA f x p sz (m + 1) = gA f x p sz m from if_neg q, ih]
      constructor
      · rintro (e | ⟨i, h1, h2⟩)
        · exact Or.inl e
        · exact Or.inr ⟨i, by omega, h2⟩
      · rintro (e | ⟨i, h1, h2, h3⟩)
        · exact Or.inl e
        · by_cases r : i = m
          · subst r; exact absurd h2 q
          · exact Or.inr ⟨i, by omega, h2, h3⟩
theorem tb_gR {f : Nat → Int32} {v : Nat → Nat} (hv : ∀ i, i < 54 → v i < 54 ∧ f i = nI (v i)) {p sz : Nat} : ∀ m, m ≤ 6 → ∀ c, tb (gR f p sz m) c = true ↔ ∃ i, i < m ∧ i / sz ≠ p ∧ v (48 + i) = c
  | 0, _, c => ⟨fun e => absurd e (tbZ c), fun ⟨i, hi, _⟩ => absurd hi (Nat.not_lt_zero i)⟩
  | m + 1, h, c => by
    have ih := tb_gR hv (p := p) (sz := sz) m (by omega) c
    have hc := hv (48 + m) (by omega)
    by_cases q : m / sz = p
    · rw [show gR f p sz (m + 1) = gR f p sz m from if_pos q, ih]
      constructor
      · rintro ⟨i, h1, h2⟩
        exact ⟨i, by omega, h2⟩
      · rintro ⟨i, h1, h2, h3⟩
        by_cases r : i = m
        · subst r; exact absurd q h2
        · exact ⟨i, by omega, h2, h3⟩
    · rw [show gR f p sz (m + 1) = gR f p sz m ||| jbI (f (48 + m)) from if_neg q, hc.2, jbI_nI, tbO, ih, tbJ (by omega)]
      constructor
      · rintro (⟨i, h1, h2⟩ | e)
        · exact ⟨i, by omega, h2⟩
        · exact ⟨m, by omega, q, e⟩
      · rintro ⟨i, h1, h2, h3⟩
        by_cases r : i = m
        · subst r; exact Or.inr h3
        · exact Or.inl ⟨i, by omega, h2, h3⟩
theorem div_iff {i p sz : Nat} (z0 : 0 < sz) (z4 : sz < 4) : i / sz = p ↔ p * sz ≤ i ∧ i < p * sz + sz := by
  rcases (show sz = 1 ∨ sz = 2 ∨ sz = 3 by omega) with rfl | rfl | rfl <;> omega
theorem gA_eq {f : Nat → Int32} {v : Nat → Nat} (hv : ∀ i, i < 54 → v i < 54 ∧ f i = nI (v i)) {x : Int64} {p sz : Nat} (z0 : 0 < sz) (z4 : sz < 4) (hp : p * sz + sz ≤ 6) : gA f x p sz 6 = x ||| orr f (48 + p * sz) sz := by
  apply tbX; intro c
  rw [tb_gA hv 6 (by omega), tbO, tb_orr hv sz (by omega)]
  constructor
  · rintro (e | ⟨i, h1, h2, h3⟩)
    · exact Or.inl e
    · have := (div_iff z0 z4).mp h2
      exact Or.inr ⟨i - p * sz, by omega, by rw [show 48 + p * sz + (i - p * sz) = 48 + i by omega]; exact h3⟩
  · rintro (e | ⟨i, h1, h2⟩)
    · exact Or.inl e
    · exact Or.inr ⟨p * sz + i, by omega, (div_iff z0 z4).mpr ⟨by omega, by omega⟩, by rw [← Nat.add_assoc]; exact h2⟩
theorem gR_eq {f : Nat → Int32} {v : Nat → Nat} (hv : ∀ i, i < 54 → v i < 54 ∧ f i = nI (v i)) (hi : ∀ i j, i < 54 → j < 54 → v i = v j → i = j) {p sz : Nat} (z0 : 0 < sz) (z4 : sz < 4) (hp : p * sz + sz ≤ 6) : gR f p sz 6 = orr f 48 6 &&& (orr f (48 + p * sz) sz ^^^ (-1)) := by
  apply tbX; intro c
  rw [tb_gR hv 6 (by omega), tbN, tb_orr hv 6 (by omega), tb_orr hv sz (by omega)]
  constructor
  · rintro ⟨i, h1, h2, h3⟩
    refine ⟨⟨i, h1, h3⟩, ?_⟩
    rintro ⟨j, g1, g2⟩
    have := hi (48 + p * sz + j) (48 + i) (by omega) (by omega) (g2.trans h3.symm)
    exact h2 ((div_iff z0 z4).mpr ⟨by omega, by omega⟩)
  · rintro ⟨⟨i, h1, h3⟩, h4⟩
    refine ⟨i, h1, fun e => h4 ?_, h3⟩
    have := (div_iff z0 z4).mp e
    exact ⟨i - p * sz, by omega, by rw [show 48 + p * sz + (i - p * sz) = 48 + i by omega]; exact h3⟩
