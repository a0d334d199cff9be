/-! plain facts: bits of longs, small numbers -/
def tb (x : Int64) (c : Nat) : Bool := x.toBitVec.getLsbD c
def jb (c : Nat) : Int64 := (1 : Int64) <<< ((nI c).toInt64 &&& 63)
theorem jb_bv : ∀ c, c < 64 → (jb c).toBitVec = BitVec.twoPow 64 c := by decide +kernel
theorem jb_sm : ∀ c, c < 64 → (((nI c).toInt64 &&& 63).toBitVec.smod 64).toNat = c := by decide +kernel
theorem tb_big {x : Int64} {c : Nat} (h : 64 ≤ c) : tb x c = false := BitVec.getLsbD_of_ge _ _ h
theorem tb_or (x y : Int64) (c : Nat) : tb (x ||| y) c = (tb x c || tb y c) := by
  simp [tb, Int64.toBitVec_or]
theorem tb_zero (c : Nat) : tb 0 c = false := by
  simp [tb]
theorem tb_m1 {c : Nat} (h : c < 64) : tb (-1) c = true := by
  have e : (-1 : Int64).toBitVec = BitVec.allOnes 64 := by decide
  show (-1 : Int64).toBitVec.getLsbD c = true
  rw [e, BitVec.getLsbD_allOnes]
  exact decide_eq_true h
theorem tb_andn (x y : Int64) (c : Nat) : tb (x &&& (y ^^^ (-1))) c = (tb x c && !tb y c) := by
  by_cases h : c < 64
  · have e := tb_m1 h
    simp only [tb] at e ⊢
    rw [Int64.toBitVec_and, Int64.toBitVec_xor, BitVec.getLsbD_and, BitVec.getLsbD_xor, e, Bool.xor_true]
  · rw [tb_big (by omega), tb_big (by omega), Bool.false_and]
theorem tb_jb {c : Nat} (hc : c < 64) (d : Nat) : tb (jb c) d = decide (c = d) := by
  simp only [tb, jb_bv c hc, BitVec.getLsbD_twoPow]
  by_cases h : c = d
  · subst h; simp [hc]
  · simp [h]
theorem tb_ext {x y : Int64} (h : ∀ c, c < 64 → tb x c = tb y c) : x = y := by
  apply Int64.toBitVec_inj.mp
  apply BitVec.eq_of_getLsbD_eq
  intro i hi
  exact h i hi
theorem tb_sub {x : Int64} {c : Nat} (hc : c < 64) (h : tb x c = true) : x - jb c = x &&& (jb c ^^^ (-1)) := by
  have e1 : (x &&& (jb c ^^^ (-1))) + jb c = x := by
    have e2 : ((x &&& (jb c ^^^ (-1))) + jb c).toBitVec = ((x &&& (jb c ^^^ (-1))) ||| jb c).toBitVec := by
      rw [Int64.toBitVec_add, Int64.toBitVec_or]
      apply BitVec.add_eq_or_of_and_eq_zero
      apply BitVec.eq_of_getLsbD_eq
      intro i hi
      have h1 := tb_andn x (jb c) i
      have h2 := tb_jb hc i
      simp only [tb] at h1 h2
      rw [BitVec.getLsbD_and, h1, h2]
      simp
    rw [Int64.toBitVec_inj.mp e2]
    apply tb_ext
    intro d hd
    rw [tb_or, tb_andn, tb_jb hc]
    by_cases e : c = d
    · subst e; simp [h]
    · simp [e]
  calc x - jb c = ((x &&& (jb c ^^^ (-1))) + jb c) - jb c := by rw [e1]
    _ = x &&& (jb c ^^^ (-1)) := Int64.add_sub_cancel _ _
theorem tb_one (y : Int64) : (y &&& 1 = 1) ↔ tb y 0 = true := by
  constructor
  · intro h
    have := congrArg (fun z => tb z 0) h
    simp [tb] at this ⊢
    exact this
  · intro h
    apply tb_ext
    intro d hd
    have e : tb (1 : Int64) d = decide (0 = d) := by
      have : (1 : Int64) = jb 0 := by decide
      rw [this, tb_jb (by decide)]
    have e2 : tb (y &&& 1) d = (tb y d && tb 1 d) := by simp [tb, Int64.toBitVec_and]
    rw [e2, e]
    by_cases q : 0 = d
    · subst q; simp [h]
    · simp [q]
theorem tb_shr (x : Int64) {c : Nat} (hc : c < 64) : tb (x >>> ((nI c).toInt64 &&& 63)) 0 = tb x c := by
  simp only [tb, Int64.toBitVec_shiftRight, BitVec.sshiftRight']
  rw [jb_sm c hc, BitVec.getLsbD_sshiftRight]
  simp [hc]
theorem lg_one (y : Int64) : lg_cmp y 1 = 0 ↔ y = 1 := by
  unfold lg_cmp
  by_cases h : y > 1
  · have : y ≠ 1 := by intro e; subst e; exact absurd h (Int64.lt_irrefl)
    simp [h, this]
  · by_cases e : y = 1
    · simp [e]
    · simp [h, e]
