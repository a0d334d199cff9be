/-! what cards count, in thirds -/
def w3 (c : Nat) : Nat := 3 * wo c - 2
def wt (p : Nat → Bool) : Nat → Nat
  | 0 => 0
  | n + 1 => wt p n + (if p n = true then w3 n else 0)
def th (x : Int64) : Nat := wt (tb x) 54
def trS (kc : Nat → Nat) : Nat → Nat
  | 0 => 0
  | n + 1 => trS kc n + w3 (kc n)
theorem wt_congr {p q : Nat → Bool} : ∀ n, (∀ i, i < n → (p i = true ↔ q i = true)) → wt p n = wt q n
  | 0, _ => rfl
  | n + 1, h => by
    show wt p n + _ = wt q n + _
    rw [wt_congr n (fun i hi => h i (by omega))]
    have := h n (by omega)
    by_cases e : p n = true
    · rw [if_pos e, if_pos (this.mp e)]
    · rw [if_neg e, if_neg (fun e' => e (this.mpr e'))]
theorem wt_add {p q r : Nat → Bool} : ∀ n, (∀ i, i < n → (r i = true ↔ p i = true ∨ q i = true)) → (∀ i, i < n → ¬ (p i = true ∧ q i = true)) → wt r n = wt p n + wt q n
  | 0, _, _ => rfl
  | n + 1, h, g => by
    show wt r n + _ = (wt p n + _) + (wt q n + _)
    rw [wt_add n (fun i hi => h i (by omega)) (fun i hi => g i (by omega))]
    have h1 := h n (by omega)
    have h2 := g n (by omega)
    by_cases e : p n = true
    · have e2 : ¬ q n = true := fun x => h2 ⟨e, x⟩
      rw [if_pos e, if_neg e2, if_pos (h1.mpr (Or.inl e))]; omega
    · by_cases e2 : q n = true
      · rw [if_neg e, if_pos e2, if_pos (h1.mpr (Or.inr e2))]; omega
      · rw [if_neg e, if_neg e2, if_neg (fun x => (h1.mp x).elim e e2)]; omega
theorem wt_one {p : Nat → Bool} {c : Nat} (h : ∀ i, p i = true ↔ c = i) : ∀ n, wt p n = if c < n then w3 c else 0
  | 0 => rfl
  | n + 1 => by
    show wt p n + _ = _
    rw [wt_one h n]
    by_cases e : c = n
    · rw [if_pos ((h n).mpr e), if_neg (by omega), if_pos (by omega), e]; omega
    · rw [if_neg (fun x => e ((h n).mp x))]
      by_cases g : c < n
      · rw [if_pos g, if_pos (by omega)]; exact Nat.add_zero _
      · rw [if_neg g, if_neg (by omega)]
theorem wt_zero {p : Nat → Bool} : ∀ n, (∀ i, i < n → ¬ p i = true) → wt p n = 0
  | 0, _ => rfl
  | n + 1, h => by
    show wt p n + _ = _
    rw [wt_zero n (fun i hi => h i (by omega)), if_neg (h n (by omega))]
theorem th_or {x y : Int64} (h : ∀ c, ¬ (tb x c = true ∧ tb y c = true)) : th (x ||| y) = th x + th y := wt_add 54 (fun i _ => tbO x y i) (fun i _ => h i)
theorem th_jb {c : Nat} (hc : c < 54) : th (jb c) = w3 c := by
  unfold th
  rw [wt_one (c := c) (tbJ (by omega)), if_pos hc]
theorem th_zero : th 0 = 0 := wt_zero 54 (fun i _ => tbZ i)
theorem th_sub {x y : Int64} (h : ∀ c, tb y c = true → tb x c = true) : th (x &&& (y ^^^ (-1))) + th y = th x := by
  have e : x = (x &&& (y ^^^ (-1))) ||| y := by
    apply tbX; intro d
    rw [tbO, tbN]
    by_cases q : tb y d = true
    · exact ⟨fun _ => Or.inr q, fun _ => h d q⟩
    · exact ⟨fun z => Or.inl ⟨z, q⟩, fun z => z.elim (·.1) (fun e => absurd e q)⟩
  have h2 := th_or (x := x &&& (y ^^^ (-1))) (y := y) (fun d => by rw [tbN]; exact fun ⟨a, b⟩ => a.2 b)
  rw [← e] at h2
  exact h2.symm
theorem th_rem {x : Int64} {c : Nat} (hc : c < 54) (h : tb x c = true) : th (x &&& (jb c ^^^ (-1))) + w3 c = th x := by
  rw [← th_jb hc]
  exact th_sub (fun d hd => by have := (tbJ (by omega) d).mp hd; subst this; exact h)
theorem th_cn0 {x : Int64} (h : cn x = 0) : th x = 0 := by
  refine wt_zero 54 (fun i hi e => ?_)
  have h2 := cn_rem hi e
  omega
theorem w3_pos {c : Nat} (hc : c < 54) : 1 ≤ w3 c := by
  have := wo_b c hc
  unfold w3; omega
theorem w3_le {c : Nat} (hc : c < 54) : w3 c ≤ 13 := by
  have := wo_b c hc
  unfold w3; omega
theorem th_pos {x : Int64} {c : Nat} (hc : c < 54) (h : tb x c = true) : 1 ≤ th x := by
  have h1 := th_rem hc h
  have h2 := w3_pos hc
  omega
theorem wt_le (p : Nat → Bool) : ∀ n, n ≤ 54 → wt p n ≤ 13 * n
  | 0, _ => Nat.le_refl 0
  | n + 1, h => by
    show wt p n + _ ≤ _
    have h1 := wt_le p n (by omega)
    have h2 := w3_le (c := n) (by omega)
    split <;> omega
theorem th_le (x : Int64) : th x ≤ 702 := wt_le (tb x) 54 (Nat.le_refl _)
theorem L_th (h : Int64) : ∀ (n c : Nat), c ≤ 54 → 54 < c + n → f_X6_thirdsOf_4 n h (nI (wt (tb h) c)) (nI c) = some (nI (th h)) := by
  intro n
  induction n with
  | zero => intro c h1 h2; omega
  | succ n ih =>
    intro c h54 hn
    rw [f_X6_thirdsOf_4_s]
    by_cases q : c = 54
    · subst q; rw [if_pos (show (54 : Int32) ≤ nI 54 from nI_le (Nat.le_refl _) (by decide))]; rfl
    · have hlt : c < 54 := by omega
      have hw := wo_b c hlt
      rw [if_neg (nge hlt (by decide)), e_holds (by omega), b1s]
      have hs : wt (tb h) (c + 1) = wt (tb h) c + (if tb h c = true then w3 c else 0) := rfl
      by_cases ht : tb h c = true
      · rw [if_pos ht, if_neg n10, e_worth c hlt, b1s]
        unfold f_X6_thirdsOf_29
        rw [nI_1, show (3 : Int32) * nI (wo c) = nI (3 * wo c) from pk_mul 3 (wo c), show nI (3 * wo c) - 2 = nI (3 * wo c - 2) from pk_sub (b := 2) (by omega), nI_add]
        rw [if_pos ht] at hs
        have := ih (c + 1) (by omega) (by omega)
        rw [hs] at this
        exact this
      · rw [if_neg ht, if_pos rfl]
        unfold f_X6_thirdsOf_29
        rw [nI_1]
        rw [if_neg ht, Nat.add_zero] at hs
        have := ih (c + 1) (by omega) (by omega)
        rw [hs] at this
        exact this
theorem e_th (h : Int64) : f_X6_thirdsOf h = some (nI (th h)) := L_th h 64 0 (by omega) (by omega)
/-! where the cards are -/
def Dj (h : Nat → Int64) (a b : Int64) (z : Nat) (kc : Nat → Nat) : Prop := ∃ loc : Nat → Nat, (∀ p, p < 4 → ∀ c, tb (h p) c = true → c < 54 ∧ loc c = p) ∧ (∀ c, tb a c = true → c < 54 ∧ loc c = 4) ∧ (∀ c, tb b c = true → c < 54 ∧ loc c = 5) ∧ ∀ j, j < z → kc j < 54 ∧ loc (kc j) = 6 + j
def Tot (h : Nat → Int64) (a b : Int64) (z : Nat) (kc : Nat → Nat) : Prop := th (h 0) + th (h 1) + th (h 2) + th (h 3) + th a + th b + trS kc z = 210
theorem Dj.crd {h : Nat → Int64} {a b : Int64} {z : Nat} {kc : Nat → Nat} (H : Dj h a b z kc) : Crd h := by
  obtain ⟨loc, h1, -⟩ := H
  refine ⟨fun p hp c hc => (h1 p hp c hc).1, fun p q hp hq hpq c ⟨e1, e2⟩ => ?_⟩
  have x := (h1 p hp c e1).2
  have y := (h1 q hq c e2).2
  omega
/-! what holds between two calls -/
def Sd (S : tk_ST) : Prop := (S.1 3 = -1 ∨ ∃ d, d < 4 ∧ S.1 3 = nI d) ∧ (S.1 6 = -1 ∨ ∃ q, q < 4 ∧ S.1 6 = nI q ∧ S.1 6 ≠ S.1 3 ∧ S.1 4 ≠ -1) ∧ (S.1 4 = -1 ∨ ∃ s, s < 4 ∧ S.1 4 = nI s) ∧ (S.1 5 = -1 ∨ ∃ o, o < 4 ∧ S.1 5 = nI o) ∧ ∃ l, l ≤ 5 ∧ S.1 11 = nI l ∧ (S.1 3 ≠ -1 → 1 ≤ l) ∧ (S.1 4 ≠ -1 → l < 4)
def An (S : tk_ST) : Prop := ∃ b0 b1 : Nat, b0 < 2 ∧ b1 < 2 ∧ S.1 8 = nI (b0 + 2 * b1)
def Fo (D : Nat) (S : tk_ST) : Prop := (D = 0 ∧ S.1 0 = -1) ∨ (0 < D ∧ S.1 0 = nI ((D - 1) % 4))
def Rad (D : Nat) (S : tk_ST) : Prop := ∀ p, p < 4 → ∃ n, n ≤ D ∧ S.2.2.1 3 p = nI n
def Bef (D : Nat) (S : tk_ST) : Prop := ∀ p, p < 4 → S.2.2.1 4 p = S.2.2.1 2 p ∧ S.2.2.1 4 (4 + p) = S.2.2.1 3 p ∧ ∃ n, n + 1 ≤ D ∧ S.2.2.1 3 p = nI n
def Pls (S : tk_ST) : Prop := Crd (S.2.2.2 0) ∧ ∃ T, T ≤ 12 ∧ S.1 9 = nI T ∧ th (S.2.2.2 1 0) + th (S.2.2.2 1 1) ≤ 210 ∧ (T = 12 → th (S.2.2.2 1 0) + th (S.2.2.2 1 1) = 210)
/-- ahead of the playing -/
def Pre (D : Nat) (S : tk_ST) : Prop := S.1 14 = 0 ∧ S.1 9 = 0 ∧ S.2.2.2 1 0 = 0 ∧ S.2.2.2 1 1 = 0 ∧ Dj (S.2.2.2 0) (S.2.1 0) (S.2.1 1) 0 (fun _ => 0) ∧ Tot (S.2.2.2 0) (S.2.1 0) (S.2.1 1) 0 (fun _ => 0) ∧ (∃ f, f < 4 ∧ S.1 0 = nI f ∧ S.1 13 = nI f) ∧ Bef D S
def De (S : tk_ST) : Prop := Row (S.2.2.1 0) ∧ (∀ p, p < 4 → cn (S.2.2.2 0 p) = 12) ∧ S.2.1 1 = orr (S.2.2.1 0) 48 6
def PhB (D : Nat) (S : tk_ST) : Prop := ∃ P t : Nat, P < 16 ∧ t < 4 ∧ S.1 10 = nI P ∧ S.1 2 = nI t ∧ P.testBit t = false ∧ S.1 3 = -1 ∧ S.1 4 = -1 ∧ S.1 5 = -1 ∧ S.1 6 = -1 ∧ ((S.1 11 = 0 ∧ S.1 12 = -1) ∨ ∃ l b, 1 ≤ l ∧ l ≤ 5 ∧ b < 4 ∧ S.1 11 = nI l ∧ S.1 12 = nI b ∧ pc P ≤ 2) ∧ De S ∧ Pre D S
def PhC (D : Nat) (S : tk_ST) : Prop := ∃ l d : Nat, 1 ≤ l ∧ l ≤ 3 ∧ d < 4 ∧ S.1 11 = nI l ∧ S.1 3 = nI d ∧ De S ∧ Pre D S
def PhT (D : Nat) (S : tk_ST) : Prop := ∃ l d : Nat, 1 ≤ l ∧ l ≤ 4 ∧ d < 4 ∧ S.1 11 = nI l ∧ S.1 3 = nI d ∧ De S ∧ Pre D S
def PhD (D : Nat) (S : tk_ST) : Prop := ∃ l d t : Nat, 1 ≤ l ∧ l ≤ 4 ∧ d < 4 ∧ S.1 11 = nI l ∧ S.1 3 = nI d ∧ 1 ≤ t ∧ t ≤ 3 ∧ S.1 7 = nI t ∧ cn (S.2.2.2 0 d) = 12 + t ∧ (∀ p, p < 4 → p ≠ d → cn (S.2.2.2 0 p) = 12) ∧ Pre D S
def PlX (D l d L z T : Nat) (kc : Nat → Nat) (S : tk_ST) : Prop := 1 ≤ l ∧ l ≤ 5 ∧ d < 4 ∧ L < 4 ∧ z < 4 ∧ T < 12 ∧ S.1 11 = nI l ∧ S.1 3 = nI d ∧ S.1 13 = nI L ∧ S.1 14 = nI z ∧ S.1 9 = nI T ∧ S.1 2 = nI ((L + z) % 4) ∧ (∀ p, p < 4 → cn (S.2.2.2 0 p) = 12 - T - (if (p + 4 - L) % 4 < z then 1 else 0)) ∧ (∀ j, j < z → S.2.2.1 1 j = nI (kc j)) ∧ Dj (S.2.2.2 0) (S.2.2.2 1 0) (S.2.2.2 1 1) z kc ∧ Tot (S.2.2.2 0) (S.2.2.2 1 0) (S.2.2.2 1 1) z kc ∧ Bef D S
def PhP (D : Nat) (S : tk_ST) : Prop := ∃ (l d L z T : Nat) (kc : Nat → Nat), PlX D l d L z T kc S
def Phs (D : Nat) (S : tk_ST) : Prop := (S.1 1 = 0 ∧ S.1 2 = -1 ∧ S.1 14 = 0 ∧ Rad D S) ∨ (S.1 1 = 1 ∧ PhB D S) ∨ (S.1 1 = 2 ∧ PhC D S) ∨ (S.1 1 = 3 ∧ PhT D S) ∨ (S.1 1 = 4 ∧ PhD D S) ∨ (S.1 1 = 5 ∧ PhP D S)
def Inv (D : Nat) (S : tk_ST) : Prop := Fo D S ∧ An S ∧ Sd S ∧ Pls S ∧ Phs D S
theorem Bef.rad {D : Nat} {S : tk_ST} (h : Bef D S) : Rad D S := fun p hp => by
  obtain ⟨-, -, n, a, b⟩ := h p hp
  exact ⟨n, by omega, b⟩
theorem Inv.b {D : Nat} {S : tk_ST} (h : Inv D S) (e : S.1 1 = 1) : PhB D S := by
  rcases h.2.2.2.2 with h | h | h | h | h | h
  · exact absurd (h.1.symm.trans e) (by decide)
  · exact h.2
  · exact absurd (h.1.symm.trans e) (by decide)
  · exact absurd (h.1.symm.trans e) (by decide)
  · exact absurd (h.1.symm.trans e) (by decide)
  · exact absurd (h.1.symm.trans e) (by decide)
theorem Inv.c {D : Nat} {S : tk_ST} (h : Inv D S) (e : S.1 1 = 2) : PhC D S := by
  rcases h.2.2.2.2 with h | h | h | h | h | h
  · exact absurd (h.1.symm.trans e) (by decide)
  · exact absurd (h.1.symm.trans e) (by decide)
  · exact h.2
  · exact absurd (h.1.symm.trans e) (by decide)
  · exact absurd (h.1.symm.trans e) (by decide)
  · exact absurd (h.1.symm.trans e) (by decide)
theorem Inv.t {D : Nat} {S : tk_ST} (h : Inv D S) (e : S.1 1 = 3) : PhT D S := by
  rcases h.2.2.2.2 with h | h | h | h | h | h
  · exact absurd (h.1.symm.trans e) (by decide)
  · exact absurd (h.1.symm.trans e) (by decide)
  · exact absurd (h.1.symm.trans e) (by decide)
  · exact h.2
  · exact absurd (h.1.symm.trans e) (by decide)
  · exact absurd (h.1.symm.trans e) (by decide)
theorem Inv.d {D : Nat} {S : tk_ST} (h : Inv D S) (e : S.1 1 = 4) : PhD D S := by
  rcases h.2.2.2.2 with h | h | h | h | h | h
  · exact absurd (h.1.symm.trans e) (by decide)
  · exact absurd (h.1.symm.trans e) (by decide)
  · exact absurd (h.1.symm.trans e) (by decide)
  · exact absurd (h.1.symm.trans e) (by decide)
  · exact h.2
  · exact absurd (h.1.symm.trans e) (by decide)
theorem Inv.p {D : Nat} {S : tk_ST} (h : Inv D S) (e : S.1 1 = 5) : PhP D S := by
  rcases h.2.2.2.2 with h | h | h | h | h | h
  · exact absurd (h.1.symm.trans e) (by decide)
  · exact absurd (h.1.symm.trans e) (by decide)
  · exact absurd (h.1.symm.trans e) (by decide)
  · exact absurd (h.1.symm.trans e) (by decide)
  · exact absurd (h.1.symm.trans e) (by decide)
  · exact h.2
/-- in all phases but the playing nothing lies in the trick -/
theorem Inv.z {D : Nat} {S : tk_ST} (h : Inv D S) (e : ¬ S.1 1 = 5) : S.1 14 = 0 := by
  rcases h.2.2.2.2 with h | h | h | h | h | h
  · exact h.2.2.1
  · obtain ⟨P, t, -, -, -, -, -, -, -, -, -, -, -, q⟩ := h.2; exact q.1
  · obtain ⟨l, d, -, -, -, -, -, -, q⟩ := h.2; exact q.1
  · obtain ⟨l, d, -, -, -, -, -, -, q⟩ := h.2; exact q.1
  · obtain ⟨l, d, t, -, -, -, -, -, -, -, -, -, -, q⟩ := h.2; exact q.1
  · exact absurd h.1 e
