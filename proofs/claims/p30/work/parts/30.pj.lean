/-! a card is played -/
def kz (kc : Nat → Nat) (z c : Nat) : Nat → Nat := fun i => if i = z then c else kc i
theorem trS_congr {k k' : Nat → Nat} : ∀ n, (∀ i, i < n → k i = k' i) → trS k n = trS k' n
  | 0, _ => rfl
  | n + 1, h => by
    show trS k n + w3 (k n) = trS k' n + w3 (k' n)
    rw [trS_congr n (fun i hi => h i (by omega)), h n (by omega)]
theorem tb_orT {f : Nat → Int32} {kc : Nat → Nat} : ∀ n, (∀ i, i < n → kc i < 54 ∧ f i = nI (kc i)) → ∀ c, tb (orr f 0 n) c = true ↔ ∃ i, i < n ∧ kc i = c
  | 0, _, c => ⟨fun e => absurd e (tbZ c), fun ⟨i, hi, _⟩ => absurd hi (Nat.not_lt_zero i)⟩
  | n + 1, h, c => by
    show tb (orr f 0 n ||| jbI (f (0 + n))) c = true ↔ _
    have hc := h n (by omega)
    rw [Nat.zero_add, hc.2, jbI_nI, tbO, tb_orT n (fun i hi => h i (by omega)) c, tbJ (by omega)]
    constructor
    · rintro (⟨i, hi, e⟩ | e)
      · exact ⟨i, by omega, e⟩
      · exact ⟨n, by omega, e⟩
    · rintro ⟨i, hi, e⟩
      by_cases q : i = n
      · subst q; exact Or.inr e
      · exact Or.inl ⟨i, by omega, e⟩
theorem th_orT {f : Nat → Int32} {kc : Nat → Nat} : ∀ n, (∀ i, i < n → kc i < 54 ∧ f i = nI (kc i)) → (∀ i j, i < n → j < n → kc i = kc j → i = j) → th (orr f 0 n) = trS kc n
  | 0, _, _ => th_zero
  | n + 1, h, hi => by
    show th (orr f 0 n ||| jbI (f (0 + n))) = trS kc n + w3 (kc n)
    have hc := h n (by omega)
    rw [Nat.zero_add, hc.2, jbI_nI, th_or, th_orT n (fun i hi => h i (by omega)) (fun i j h1 h2 => hi i j (by omega) (by omega)), th_jb hc.1]
    intro c
    rw [tb_orT n (fun i hi => h i (by omega)), tbJ (by omega)]
    rintro ⟨⟨i, h1, h2⟩, h3⟩
    have := hi i n (by omega) (by omega) (h2.trans h3.symm)
    omega
theorem Sd.eq {S S' : tk_ST} (h3 : S'.1 3 = S.1 3) (h4 : S'.1 4 = S.1 4) (h5 : S'.1 5 = S.1 5) (h6 : S'.1 6 = S.1 6) (h11 : S'.1 11 = S.1 11) (h : Sd S) : Sd S' := by
  unfold Sd
  rw [h3, h4, h5, h6, h11]
  exact h
theorem An.eq {S S' : tk_ST} (e : S'.1 8 = S.1 8) (h : An S) : An S' := by
  unfold An; rw [e]; exact h
theorem Fo.eq {D : Nat} {S S' : tk_ST} (e : S'.1 0 = S.1 0) (h : Fo D S) : Fo D S' := by
  unfold Fo; rw [e]; exact h
/-- the card goes into the trick -/
theorem card_dj {h : Nat → Int64} {a b : Int64} {z : Nat} {kc : Nat → Nat} (H : Dj h a b z kc) {t c : Nat} (ht : t < 4) (hc : tb (h t) c = true) : Dj (less h t c) a b (z + 1) (kz kc z c) := by
  obtain ⟨loc, k1, k2, k3, k4⟩ := H
  have hc54 := (k1 t ht c hc).1
  have hlc := (k1 t ht c hc).2
  refine ⟨fun x => if x = c then 6 + z else loc x, fun p hp x hx => ?_, fun x hx => ?_, fun x hx => ?_, fun j hj => ?_⟩
  · obtain ⟨y1, y2⟩ := (less_tb (by omega) p x).mp hx
    have := k1 p hp x y1
    have ne : ¬ x = c := fun e => by
      subst e
      exact y2 ⟨this.2.symm.trans hlc, rfl⟩
    exact ⟨this.1, by simp only [if_neg ne]; exact this.2⟩
  · have := k2 x hx
    have ne : ¬ x = c := fun e => by subst e; omega
    exact ⟨this.1, by simp only [if_neg ne]; exact this.2⟩
  · have := k3 x hx
    have ne : ¬ x = c := fun e => by subst e; omega
    exact ⟨this.1, by simp only [if_neg ne]; exact this.2⟩
  · unfold kz
    by_cases e : j = z
    · subst e
      have e0 : (if j = j then c else kc j) = c := if_pos rfl
      rw [e0]
      exact ⟨hc54, if_pos rfl⟩
    · have := k4 j (by omega)
      have ne : ¬ kc j = c := fun q => by rw [q] at this; omega
      simp only [if_neg e, if_neg ne]
      exact this
/-- the trick goes onto a pile -/
theorem pile_dj {h w : Nat → Int64} {z : Nat} {kc : Nat → Nat} (H : Dj h (w 0) (w 1) z kc) {tr : Int64} (htr : ∀ x, tb tr x = true ↔ ∃ i, i < z ∧ kc i = x) {s : Nat} (hs : s < 2) {v : Nat → Int64} (hv : ∀ q, v q = if q = s then w q ||| tr else w q) (k' : Nat → Nat) : Dj h (v 0) (v 1) 0 k' := by
  obtain ⟨loc, k1, k2, k3, k4⟩ := H
  have tl : ∀ x, tb tr x = true → x < 54 ∧ 6 ≤ loc x := fun x hx => by
    obtain ⟨i, i1, i2⟩ := (htr x).mp hx
    have := k4 i i1
    rw [i2] at this
    exact ⟨this.1, by omega⟩
  have pl : ∀ q, q < 2 → ∀ x, tb (w q) x = true → x < 54 ∧ loc x = 4 + q := fun q hq x hx => by
    rcases (show q = 0 ∨ q = 1 by omega) with rfl | rfl
    · exact k2 x hx
    · exact k3 x hx
  have vl : ∀ q, q < 2 → ∀ x, tb (v q) x = true → x < 54 ∧ (if tb tr x = true then 4 + s else loc x) = 4 + q := by
    intro q hq x hx
    rw [hv] at hx
    by_cases e : q = s
    · subst e
      rw [if_pos rfl, tbO] at hx
      by_cases t : tb tr x = true
      · exact ⟨(tl x t).1, if_pos t⟩
      · have := pl q hq x (hx.resolve_right t)
        exact ⟨this.1, by rw [if_neg t]; exact this.2⟩
    · rw [if_neg e] at hx
      have := pl q hq x hx
      have t : ¬ tb tr x = true := fun y => by
        have := (tl x y).2
        omega
      exact ⟨this.1, by rw [if_neg t]; exact this.2⟩
  refine ⟨fun x => if tb tr x = true then 4 + s else loc x, fun p hp x hx => ?_, vl 0 (by omega), vl 1 (by omega), fun j hj => absurd hj (Nat.not_lt_zero j)⟩
  have := k1 p hp x hx
  have t : ¬ tb tr x = true := fun y => by
    have := (tl x y).2
    omega
  exact ⟨this.1, by simp only [if_neg t]; exact this.2⟩
theorem pile_th {h w : Nat → Int64} {z : Nat} {kc : Nat → Nat} (H : Dj h (w 0) (w 1) z kc) {tr : Int64} (htr : ∀ x, tb tr x = true ↔ ∃ i, i < z ∧ kc i = x) {s : Nat} (hs : s < 2) {v : Nat → Int64} (hv : ∀ q, v q = if q = s then w q ||| tr else w q) : th (v 0) + th (v 1) = th (w 0) + th (w 1) + th tr := by
  obtain ⟨loc, k1, k2, k3, k4⟩ := H
  have tl : ∀ x, tb tr x = true → 6 ≤ loc x := fun x hx => by
    obtain ⟨i, i1, i2⟩ := (htr x).mp hx
    have := k4 i i1
    rw [i2] at this
    omega
  have a0 : th (w 0 ||| tr) = th (w 0) + th tr := th_or (fun x ⟨a, b⟩ => by have := tl x b; have := (k2 x a).2; omega)
  have a1 : th (w 1 ||| tr) = th (w 1) + th tr := th_or (fun x ⟨a, b⟩ => by have := tl x b; have := (k3 x a).2; omega)
  rw [hv 0, hv 1]
  rcases (show s = 0 ∨ s = 1 by omega) with rfl | rfl
  · rw [if_pos rfl, if_neg (by decide)]; omega
  · rw [if_neg (by decide), if_pos rfl]; omega
theorem resR_c {f g : Nat → Int32} {d : Nat} (e : f d = g d) (p : Int32) : resR f d p = resR g d p := by
  unfold resR; rw [e]
theorem resA_c {f g : Nat → Int32} {d t j : Nat} (e : f d = g d) (e2 : f j = g j) : resA f d t j = resA g d t j := by
  unfold resA
  rw [e]
  by_cases a : g d ≤ 0
  · rw [if_pos a, if_pos a]; exact e2
  · rw [if_neg a, if_neg a]
    by_cases b : t ≤ 105
    · rw [if_pos b, if_pos b]; exact e2
    · rw [if_neg b, if_neg b, updE, updE, e2]
theorem resA_n {f : Nat → Int32} {d t j n m : Nat} (ed : f d = nI n) (ej : f j = nI m) (hn : n < 2 ^ 30) : ∃ k, k ≤ m ∧ resA f d t j = nI k := by
  unfold resA
  by_cases a : f d ≤ 0
  · rw [if_pos a]; exact ⟨m, by omega, ej⟩
  · rw [if_neg a]
    by_cases b : t ≤ 105
    · rw [if_pos b]; exact ⟨m, by omega, ej⟩
    · rw [if_neg b, updE]
      by_cases e : j = d
      · subst e
        have n0 : 0 < n := by
          by_cases q : n = 0
          · subst q; rw [ed] at a; exact absurd (by decide) a
          · omega
        rw [if_pos rfl, ed]
        obtain ⟨n', rfl⟩ : ∃ n', n = n' + 1 := ⟨n - 1, by omega⟩
        have e2 : nI (n' + 1) = nI m := ed.symm.trans ej
        rw [nI_pred]
        by_cases hm2 : m < 2 ^ 31
        · have := (nI_eq (by omega) hm2).mp e2
          exact ⟨n', by omega, rfl⟩
        · exact ⟨n', by omega, rfl⟩
      · rw [if_neg e]; exact ⟨m, by omega, ej⟩
