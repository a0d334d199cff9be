/-! the law over the plain numbers -/
theorem lg_rfl (x : Int64) : lg_cmp x x = 0 := by
  unfold lg_cmp
  simp [Int64.lt_irrefl]
theorem o_at (o : Nat → Int64) (v : Int64) : vp_updL o (0 : Int32).toNatClampNeg v (0 : Int32).toNatClampNeg = v := by rw [updLE, if_pos rfl]
def tailL (K : tk_ST → (Nat → Int64) → tk_ST → Option Int32) (k2 : Int32) (S3 : tk_ST) (o4 : Nat → Int64) (r7 : Int64) (M9 : tk_ST) : Option Int32 := (tk_b1 (f_X7_thrown M9) fun r10 => (if r10 = k2 then (if k2 = 0 then (if (lg_cmp (o4 (0 : Int32).toNatClampNeg) r7) = 0 then K S3 o4 M9 else some (0 : Int32)) else K S3 o4 M9) else some (0 : Int32)))
theorem tail_0 {K : tk_ST → (Nat → Int64) → tk_ST → Option Int32} {S3 : tk_ST} {o : Nat → Int64} {v : Int64} {M9 : tk_ST} (h : M9.1 0 = 0) : tailL K 0 S3 (vp_updL o (0 : Int32).toNatClampNeg v) v M9 = K S3 (vp_updL o (0 : Int32).toNatClampNeg v) M9 := by
  unfold tailL f_X7_thrown
  rw [b1s, if_pos h, if_pos rfl, o_at, lg_rfl, if_pos rfl]
theorem tail_e {K : tk_ST → (Nat → Int64) → tk_ST → Option Int32} {S3 : tk_ST} {o : Nat → Int64} {v : Int64} {M9 : tk_ST} {e : Int32} (he : ¬ e = 0) (h : M9.1 0 = e) : tailL K e S3 o v M9 = K S3 o M9 := by
  unfold tailL f_X7_thrown
  rw [b1s, if_pos h, if_neg he]
theorem law_W {e1 : Int32} (he0 : ¬ e1 = 0) (he2 : ¬ (2 : Int32) = e1) {k : Nat} {x : Option (Int32 × Int32 × tk_ST)} {y : Option (Int32 × tk_ST)} (h : SimW e1 k x y) (o : Nat → Int64) (K : tk_ST → (Nat → Int64) → tk_ST → Option Int32) : ∃ S' o' M', Rel (k + 1) S' M' ∧ (tk_b3 (tk_b3 x fun k r S1 => (if k = 0 then some ((0 : Int32), S1, (vp_updL o (0 : Int32).toNatClampNeg r.toInt64)) else (if k = e1 then some ((1 : Int32), S1, o) else (if k = (2 : Int32) then some ((2 : Int32), S1, o) else none)))) fun k2 S3 o4 => tk_b2 y fun r7 M9 => tailL K k2 S3 o4 r7.toInt64 M9) = K S' o' M' := by
  obtain ⟨kk, r, S', b, M', rfl, rfl, hR, ⟨rfl, ht, rfl⟩ | ⟨rfl, ht⟩ | ⟨rfl, ht⟩⟩ := h
  · exact ⟨S', _, M', hR, by rw [b3s, if_pos rfl, b3s, b2s, tail_0 ht]⟩
  · exact ⟨S', o, M', hR, by rw [b3s, if_neg he0, if_pos rfl, b3s, b2s, tail_e n10 ht]⟩
  · exact ⟨S', o, M', hR, by rw [b3s, if_neg (by decide), if_neg he2, if_pos rfl, b3s, b2s, tail_e (by decide) ht]⟩
theorem law_R {k : Nat} {S : tk_ST} {x : Option (Int32 × Int32)} {y : Option (Int32 × tk_ST)} (h : SimR 3 k S x y) (o : Nat → Int64) (K : tk_ST → (Nat → Int64) → tk_ST → Option Int32) : ∃ S' o' M', Rel (k + 1) S' M' ∧ (tk_b3 (tk_b2 x fun k r => (if k = 0 then some ((0 : Int32), S, (vp_updL o (0 : Int32).toNatClampNeg r.toInt64)) else (if k = (3 : Int32) then some ((1 : Int32), S, o) else (if k = (2 : Int32) then some ((2 : Int32), S, o) else none)))) fun k2 S3 o4 => tk_b2 y fun r7 M9 => tailL K k2 S3 o4 r7.toInt64 M9) = K S' o' M' := by
  obtain ⟨kk, r, b, M', rfl, rfl, hR, ⟨rfl, ht, rfl⟩ | ⟨rfl, ht⟩ | ⟨rfl, ht⟩⟩ := h
  · exact ⟨S, _, M', hR.mono (Nat.le_succ k), by rw [b2s, if_pos rfl, b3s, b2s, tail_0 ht]⟩
  · exact ⟨S, o, M', hR.mono (Nat.le_succ k), by rw [b2s, if_neg (by decide), if_pos rfl, b3s, b2s, tail_e n10 ht]⟩
  · exact ⟨S, o, M', hR.mono (Nat.le_succ k), by rw [b2s, if_neg (by decide), if_neg (by decide), if_pos rfl, b3s, b2s, tail_e (by decide) ht]⟩
theorem law_Q {k : Nat} {S : tk_ST} {x : Option (Int32 × Int32)} {y : Option (Int32 × tk_ST)} (h : SimQ 3 k S x y) (o : Nat → Int64) (K : tk_ST → (Nat → Int64) → tk_ST → Option Int32) : ∃ S' o' M', Rel (k + 1) S' M' ∧ (tk_b3 (tk_b2 x fun k r => (if k = 0 then some ((0 : Int32), S, (vp_updL o (0 : Int32).toNatClampNeg r.toInt64)) else (if k = (3 : Int32) then some ((1 : Int32), S, o) else none))) fun k2 S3 o4 => tk_b2 y fun r7 M9 => tailL K k2 S3 o4 r7.toInt64 M9) = K S' o' M' := by
  obtain ⟨kk, r, b, M', rfl, rfl, hR, ⟨rfl, ht, rfl⟩ | ⟨rfl, ht⟩⟩ := h
  · exact ⟨S, _, M', hR.mono (Nat.le_succ k), by rw [b2s, if_pos rfl, b3s, b2s, tail_0 ht]⟩
  · exact ⟨S, o, M', hR.mono (Nat.le_succ k), by rw [b2s, if_neg (by decide), if_pos rfl, b3s, b2s, tail_e n10 ht]⟩
theorem law_H {k : Nat} {S : tk_ST} {x : Option (Int32 × Int64)} {y : Option (Int64 × tk_ST)} (h : ∃ kk r b M', x = some (kk, r) ∧ y = some (b, M') ∧ Rel k S M' ∧ OutL 3 kk r b (M'.1 0)) (o : Nat → Int64) (K : tk_ST → (Nat → Int64) → tk_ST → Option Int32) : ∃ S' o' M', Rel (k + 1) S' M' ∧ (tk_b3 (tk_b2 x fun k r => (if k = 0 then some ((0 : Int32), S, (vp_updL o (0 : Int32).toNatClampNeg r)) else (if k = (3 : Int32) then some ((1 : Int32), S, o) else none))) fun k2 S3 o4 => tk_b2 y fun r7 M9 => tailL K k2 S3 o4 r7 M9) = K S' o' M' := by
  obtain ⟨kk, r, b, M', rfl, rfl, hR, ⟨rfl, ht, rfl⟩ | ⟨rfl, ht⟩⟩ := h
  · exact ⟨S, _, M', hR.mono (Nat.le_succ k), by rw [b2s, if_pos rfl, b3s, b2s, tail_0 ht]⟩
  · exact ⟨S, o, M', hR.mono (Nat.le_succ k), by rw [b2s, if_neg (by decide), if_pos rfl, b3s, b2s, tail_e n10 ht]⟩
theorem law_C {k : Nat} {S : tk_ST} {x : Option (Int32 × Int32)} {y : Option (Int32 × tk_ST)} (h : SimQ 3 k S x y) (o : Nat → Int64) (K : tk_ST → (Nat → Int64) → tk_ST → Option Int32) : ∃ S' o' M', Rel (k + 1) S' M' ∧ (tk_b3 (tk_b2 x fun k r => (if k = 0 then (if r = 0 then some ((0 : Int32), S, (vp_updL o (0 : Int32).toNatClampNeg (0 : Int64))) else some ((0 : Int32), S, (vp_updL o (0 : Int32).toNatClampNeg (1 : Int64)))) else (if k = (3 : Int32) then some ((1 : Int32), S, o) else none))) fun k2 S3 o4 => tk_b2 y fun r7 M9 => (tk_b1 (f_X7_thrown M9) fun r10 => (if r10 = k2 then (if k2 = 0 then (if r7 = 0 then (if (lg_cmp (o4 (0 : Int32).toNatClampNeg) (0 : Int64)) = 0 then K S3 o4 M9 else some (0 : Int32)) else (if (lg_cmp (o4 (0 : Int32).toNatClampNeg) (1 : Int64)) = 0 then K S3 o4 M9 else some (0 : Int32))) else K S3 o4 M9) else some (0 : Int32)))) = K S' o' M' := by
  obtain ⟨kk, r, b, M', rfl, rfl, hR, ⟨rfl, ht, rfl⟩ | ⟨rfl, ht⟩⟩ := h
  · by_cases q : r = 0
    · exact ⟨S, _, M', hR.mono (Nat.le_succ k), by rw [b2s, if_pos rfl, if_pos q, b3s, b2s]; unfold f_X7_thrown; rw [b1s, if_pos ht, if_pos rfl, if_pos q, o_at, lg_rfl, if_pos rfl]⟩
    · exact ⟨S, _, M', hR.mono (Nat.le_succ k), by rw [b2s, if_pos rfl, if_neg q, b3s, b2s]; unfold f_X7_thrown; rw [b1s, if_pos ht, if_pos rfl, if_neg q, o_at, lg_rfl, if_pos rfl]⟩
  · exact ⟨S, o, M', hR.mono (Nat.le_succ k), by rw [b2s, if_neg (by decide), if_pos rfl, b3s, b2s]; unfold f_X7_thrown; rw [b1s, if_pos ht, if_neg n10]⟩
theorem law_G {k : Nat} {S M : tk_ST} (h : Rel k S M) {a b : Int32} (e : b = a) (o : Nat → Int64) (K : tk_ST → (Nat → Int64) → tk_ST → Option Int32) : ∃ S' o' M', Rel (k + 1) S' M' ∧ (tk_b1 (some a) fun r1 => (tk_b2 (some (b, tk_I M 0 (0 : Int32))) fun r3 M5 => (if r1 = r3 then K S o M5 else some (0 : Int32)))) = K S' o' M' :=
  ⟨S, o, _, (h.t 0).mono (Nat.le_succ k), by rw [b1s, b2s, if_pos e.symm]⟩
theorem pl_c0 {L k : Nat} {xs : Nat → Int32} {S M : tk_ST} (hk : k < 1000) (h : Rel k S M) {i : Int32} (h1 : ¬ (i + 1 < 0 ∨ L ≤ (i + 1).toNatClampNeg)) (h2 : ¬ (i + 2 < 0 ∨ L ≤ (i + 2).toNatClampNeg)) (o : Nat → Int64) (K : tk_ST → (Nat → Int64) → tk_ST → Option Int32) : ∃ S' o' M', Rel (k + 1) S' M' ∧ f_law_c0 L xs K i S o M = K S' o' M' := by
  unfold f_law_c0 f_L_deal
  simp only [if_neg h1]
  exact law_W (by decide) (by decide) (P_deal hk h _) o K
theorem pl_c1 {L k : Nat} {xs : Nat → Int32} {S M : tk_ST} (hk : k < 1000) (h : Rel k S M) {i : Int32} (h1 : ¬ (i + 1 < 0 ∨ L ≤ (i + 1).toNatClampNeg)) (h2 : ¬ (i + 2 < 0 ∨ L ≤ (i + 2).toNatClampNeg)) (o : Nat → Int64) (K : tk_ST → (Nat → Int64) → tk_ST → Option Int32) : ∃ S' o' M', Rel (k + 1) S' M' ∧ f_law_c1 L xs K i S o M = K S' o' M' := by
  unfold f_law_c1 f_L_bid
  simp only [if_neg h1]
  exact law_W (by decide) (by decide) (P_bid h _) o K
theorem pl_c2 {L k : Nat} {xs : Nat → Int32} {S M : tk_ST} (hk : k < 1000) (h : Rel k S M) {i : Int32} (h1 : ¬ (i + 1 < 0 ∨ L ≤ (i + 1).toNatClampNeg)) (h2 : ¬ (i + 2 < 0 ∨ L ≤ (i + 2).toNatClampNeg)) (o : Nat → Int64) (K : tk_ST → (Nat → Int64) → tk_ST → Option Int32) : ∃ S' o' M', Rel (k + 1) S' M' ∧ f_law_c2 L xs K i S o M = K S' o' M' := by
  unfold f_law_c2 f_L_call
  simp only [if_neg h1]
  exact law_W (by decide) (by decide) (P_call h _) o K
theorem pl_c3 {L k : Nat} {xs : Nat → Int32} {S M : tk_ST} (hk : k < 1000) (h : Rel k S M) {i : Int32} (h1 : ¬ (i + 1 < 0 ∨ L ≤ (i + 1).toNatClampNeg)) (h2 : ¬ (i + 2 < 0 ∨ L ≤ (i + 2).toNatClampNeg)) (o : Nat → Int64) (K : tk_ST → (Nat → Int64) → tk_ST → Option Int32) : ∃ S' o' M', Rel (k + 1) S' M' ∧ f_law_c3 L xs K i S o M = K S' o' M' := by
  unfold f_law_c3 f_L_take
  simp only [if_neg h1]
  exact law_W (by decide) (by decide) (P_take h _) o K
theorem pl_c4 {L k : Nat} {xs : Nat → Int32} {S M : tk_ST} (hk : k < 1000) (h : Rel k S M) {i : Int32} (h1 : ¬ (i + 1 < 0 ∨ L ≤ (i + 1).toNatClampNeg)) (h2 : ¬ (i + 2 < 0 ∨ L ≤ (i + 2).toNatClampNeg)) (o : Nat → Int64) (K : tk_ST → (Nat → Int64) → tk_ST → Option Int32) : ∃ S' o' M', Rel (k + 1) S' M' ∧ f_law_c4 L xs K i S o M = K S' o' M' := by
  unfold f_law_c4 f_L_discard
  simp only [if_neg h1]
  exact law_W (by decide) (by decide) (P_discard h _) o K
theorem pl_c5 {L k : Nat} {xs : Nat → Int32} {S M : tk_ST} (hk : k < 1000) (h : Rel k S M) {i : Int32} (h1 : ¬ (i + 1 < 0 ∨ L ≤ (i + 1).toNatClampNeg)) (h2 : ¬ (i + 2 < 0 ∨ L ≤ (i + 2).toNatClampNeg)) (o : Nat → Int64) (K : tk_ST → (Nat → Int64) → tk_ST → Option Int32) : ∃ S' o' M', Rel (k + 1) S' M' ∧ f_law_c5 L xs K i S o M = K S' o' M' := by
  unfold f_law_c5 f_L_announce
  simp only [if_neg h1]
  exact law_W (by decide) (by decide) (P_announce h _) o K
theorem pl_c6 {L k : Nat} {xs : Nat → Int32} {S M : tk_ST} (hk : k < 1000) (h : Rel k S M) {i : Int32} (h1 : ¬ (i + 1 < 0 ∨ L ≤ (i + 1).toNatClampNeg)) (h2 : ¬ (i + 2 < 0 ∨ L ≤ (i + 2).toNatClampNeg)) (o : Nat → Int64) (K : tk_ST → (Nat → Int64) → tk_ST → Option Int32) : ∃ S' o' M', Rel (k + 1) S' M' ∧ f_law_c6 L xs K i S o M = K S' o' M' := by
  unfold f_law_c6 f_L_play
  simp only [if_neg h1]
  exact law_W (by decide) (by decide) (P_play h _) o K
theorem pl_c7 {L k : Nat} {xs : Nat → Int32} {S M : tk_ST} (hk : k < 1000) (h : Rel k S M) {i : Int32} (h1 : ¬ (i + 1 < 0 ∨ L ≤ (i + 1).toNatClampNeg)) (h2 : ¬ (i + 2 < 0 ∨ L ≤ (i + 2).toNatClampNeg)) (o : Nat → Int64) (K : tk_ST → (Nat → Int64) → tk_ST → Option Int32) : ∃ S' o' M', Rel (k + 1) S' M' ∧ f_law_c7 L xs K i S o M = K S' o' M' := by
  unfold f_law_c7 f_L_playLowest
  simp only [if_neg h1]
  exact law_W (by decide) (by decide) (P_playLowest h _) o K
theorem pl_c8 {L k : Nat} {xs : Nat → Int32} {S M : tk_ST} (hk : k < 1000) (h : Rel k S M) {i : Int32} (h1 : ¬ (i + 1 < 0 ∨ L ≤ (i + 1).toNatClampNeg)) (h2 : ¬ (i + 2 < 0 ∨ L ≤ (i + 2).toNatClampNeg)) (o : Nat → Int64) (K : tk_ST → (Nat → Int64) → tk_ST → Option Int32) : ∃ S' o' M', Rel (k + 1) S' M' ∧ f_law_c8 L xs K i S o M = K S' o' M' := by
  exact law_G h h.1.1 o K
theorem pl_c9 {L k : Nat} {xs : Nat → Int32} {S M : tk_ST} (hk : k < 1000) (h : Rel k S M) {i : Int32} (h1 : ¬ (i + 1 < 0 ∨ L ≤ (i + 1).toNatClampNeg)) (h2 : ¬ (i + 2 < 0 ∨ L ≤ (i + 2).toNatClampNeg)) (o : Nat → Int64) (K : tk_ST → (Nat → Int64) → tk_ST → Option Int32) : ∃ S' o' M', Rel (k + 1) S' M' ∧ f_law_c9 L xs K i S o M = K S' o' M' := by
  exact law_G h h.1.2.1 o K
theorem pl_c10 {L k : Nat} {xs : Nat → Int32} {S M : tk_ST} (hk : k < 1000) (h : Rel k S M) {i : Int32} (h1 : ¬ (i + 1 < 0 ∨ L ≤ (i + 1).toNatClampNeg)) (h2 : ¬ (i + 2 < 0 ∨ L ≤ (i + 2).toNatClampNeg)) (o : Nat → Int64) (K : tk_ST → (Nat → Int64) → tk_ST → Option Int32) : ∃ S' o' M', Rel (k + 1) S' M' ∧ f_law_c10 L xs K i S o M = K S' o' M' := by
  exact law_G h h.1.2.2.1 o K
theorem pl_c11 {L k : Nat} {xs : Nat → Int32} {S M : tk_ST} (hk : k < 1000) (h : Rel k S M) {i : Int32} (h1 : ¬ (i + 1 < 0 ∨ L ≤ (i + 1).toNatClampNeg)) (h2 : ¬ (i + 2 < 0 ∨ L ≤ (i + 2).toNatClampNeg)) (o : Nat → Int64) (K : tk_ST → (Nat → Int64) → tk_ST → Option Int32) : ∃ S' o' M', Rel (k + 1) S' M' ∧ f_law_c11 L xs K i S o M = K S' o' M' := by
  exact law_G h h.1.2.2.2.2.2.2.1 o K
theorem pl_c12 {L k : Nat} {xs : Nat → Int32} {S M : tk_ST} (hk : k < 1000) (h : Rel k S M) {i : Int32} (h1 : ¬ (i + 1 < 0 ∨ L ≤ (i + 1).toNatClampNeg)) (h2 : ¬ (i + 2 < 0 ∨ L ≤ (i + 2).toNatClampNeg)) (o : Nat → Int64) (K : tk_ST → (Nat → Int64) → tk_ST → Option Int32) : ∃ S' o' M', Rel (k + 1) S' M' ∧ f_law_c12 L xs K i S o M = K S' o' M' := by
  exact law_G h h.1.2.2.2.1 o K
theorem pl_c13 {L k : Nat} {xs : Nat → Int32} {S M : tk_ST} (hk : k < 1000) (h : Rel k S M) {i : Int32} (h1 : ¬ (i + 1 < 0 ∨ L ≤ (i + 1).toNatClampNeg)) (h2 : ¬ (i + 2 < 0 ∨ L ≤ (i + 2).toNatClampNeg)) (o : Nat → Int64) (K : tk_ST → (Nat → Int64) → tk_ST → Option Int32) : ∃ S' o' M', Rel (k + 1) S' M' ∧ f_law_c13 L xs K i S o M = K S' o' M' := by
  exact law_G h h.1.2.2.2.2.2.1 o K
theorem pl_c14 {L k : Nat} {xs : Nat → Int32} {S M : tk_ST} (hk : k < 1000) (h : Rel k S M) {i : Int32} (h1 : ¬ (i + 1 < 0 ∨ L ≤ (i + 1).toNatClampNeg)) (h2 : ¬ (i + 2 < 0 ∨ L ≤ (i + 2).toNatClampNeg)) (o : Nat → Int64) (K : tk_ST → (Nat → Int64) → tk_ST → Option Int32) : ∃ S' o' M', Rel (k + 1) S' M' ∧ f_law_c14 L xs K i S o M = K S' o' M' := by
  unfold f_law_c14 f_L_hand
  simp only [if_neg h1]
  exact law_H (P_hand h _) o K
theorem pl_c15 {L k : Nat} {xs : Nat → Int32} {S M : tk_ST} (hk : k < 1000) (h : Rel k S M) {i : Int32} (h1 : ¬ (i + 1 < 0 ∨ L ≤ (i + 1).toNatClampNeg)) (h2 : ¬ (i + 2 < 0 ∨ L ≤ (i + 2).toNatClampNeg)) (o : Nat → Int64) (K : tk_ST → (Nat → Int64) → tk_ST → Option Int32) : ∃ S' o' M', Rel (k + 1) S' M' ∧ f_law_c15 L xs K i S o M = K S' o' M' := by
  unfold f_law_c15 f_L_talonAt
  simp only [if_neg h1]
  exact law_R (P_talonAt hk h _) o K
theorem pl_c16 {L k : Nat} {xs : Nat → Int32} {S M : tk_ST} (hk : k < 1000) (h : Rel k S M) {i : Int32} (h1 : ¬ (i + 1 < 0 ∨ L ≤ (i + 1).toNatClampNeg)) (h2 : ¬ (i + 2 < 0 ∨ L ≤ (i + 2).toNatClampNeg)) (o : Nat → Int64) (K : tk_ST → (Nat → Int64) → tk_ST → Option Int32) : ∃ S' o' M', Rel (k + 1) S' M' ∧ f_law_c16 L xs K i S o M = K S' o' M' := by
  exact law_G h h.1.2.2.2.2.2.2.2.2.2.1 o K
theorem pl_c17 {L k : Nat} {xs : Nat → Int32} {S M : tk_ST} (hk : k < 1000) (h : Rel k S M) {i : Int32} (h1 : ¬ (i + 1 < 0 ∨ L ≤ (i + 1).toNatClampNeg)) (h2 : ¬ (i + 2 < 0 ∨ L ≤ (i + 2).toNatClampNeg)) (o : Nat → Int64) (K : tk_ST → (Nat → Int64) → tk_ST → Option Int32) : ∃ S' o' M', Rel (k + 1) S' M' ∧ f_law_c17 L xs K i S o M = K S' o' M' := by
  unfold f_law_c17 f_L_trickAt
  simp only [if_neg h1]
  exact law_Q (P_trickAt h _) o K
theorem pl_c18 {L k : Nat} {xs : Nat → Int32} {S M : tk_ST} (hk : k < 1000) (h : Rel k S M) {i : Int32} (h1 : ¬ (i + 1 < 0 ∨ L ≤ (i + 1).toNatClampNeg)) (h2 : ¬ (i + 2 < 0 ∨ L ≤ (i + 2).toNatClampNeg)) (o : Nat → Int64) (K : tk_ST → (Nat → Int64) → tk_ST → Option Int32) : ∃ S' o' M', Rel (k + 1) S' M' ∧ f_law_c18 L xs K i S o M = K S' o' M' := by
  unfold f_law_c18 f_L_canPlay
  simp only [if_neg h1]
  exact law_C (P_canPlay h _) o K
theorem pl_c19 {L k : Nat} {xs : Nat → Int32} {S M : tk_ST} (hk : k < 1000) (h : Rel k S M) {i : Int32} (h1 : ¬ (i + 1 < 0 ∨ L ≤ (i + 1).toNatClampNeg)) (h2 : ¬ (i + 2 < 0 ∨ L ≤ (i + 2).toNatClampNeg)) (o : Nat → Int64) (K : tk_ST → (Nat → Int64) → tk_ST → Option Int32) : ∃ S' o' M', Rel (k + 1) S' M' ∧ f_law_c19 L xs K i S o M = K S' o' M' := by
  exact law_G h h.1.2.2.2.2.2.2.2.2.1 o K
theorem pl_c20 {L k : Nat} {xs : Nat → Int32} {S M : tk_ST} (hk : k < 1000) (h : Rel k S M) {i : Int32} (h1 : ¬ (i + 1 < 0 ∨ L ≤ (i + 1).toNatClampNeg)) (h2 : ¬ (i + 2 < 0 ∨ L ≤ (i + 2).toNatClampNeg)) (o : Nat → Int64) (K : tk_ST → (Nat → Int64) → tk_ST → Option Int32) : ∃ S' o' M', Rel (k + 1) S' M' ∧ f_law_c20 L xs K i S o M = K S' o' M' := by
  unfold f_law_c20 f_L_valueOf
  simp only [if_neg h1]
  exact law_Q (P_valueOf h _) o K
theorem pl_c21 {L k : Nat} {xs : Nat → Int32} {S M : tk_ST} (hk : k < 1000) (h : Rel k S M) {i : Int32} (h1 : ¬ (i + 1 < 0 ∨ L ≤ (i + 1).toNatClampNeg)) (h2 : ¬ (i + 2 < 0 ∨ L ≤ (i + 2).toNatClampNeg)) (o : Nat → Int64) (K : tk_ST → (Nat → Int64) → tk_ST → Option Int32) : ∃ S' o' M', Rel (k + 1) S' M' ∧ f_law_c21 L xs K i S o M = K S' o' M' := by
  unfold f_law_c21 f_L_thirds
  simp only [if_neg h1]
  exact law_Q (P_thirds h _) o K
theorem pl_c22 {L k : Nat} {xs : Nat → Int32} {S M : tk_ST} (hk : k < 1000) (h : Rel k S M) {i : Int32} (h1 : ¬ (i + 1 < 0 ∨ L ≤ (i + 1).toNatClampNeg)) (h2 : ¬ (i + 2 < 0 ∨ L ≤ (i + 2).toNatClampNeg)) (o : Nat → Int64) (K : tk_ST → (Nat → Int64) → tk_ST → Option Int32) : ∃ S' o' M', Rel (k + 1) S' M' ∧ f_law_c22 L xs K i S o M = K S' o' M' := by
  unfold f_law_c22 f_L_byPacks
  simp only [if_neg h1]
  exact law_Q (P_byPacks h _) o K
theorem pl_c23 {L k : Nat} {xs : Nat → Int32} {S M : tk_ST} (hk : k < 1000) (h : Rel k S M) {i : Int32} (h1 : ¬ (i + 1 < 0 ∨ L ≤ (i + 1).toNatClampNeg)) (h2 : ¬ (i + 2 < 0 ∨ L ≤ (i + 2).toNatClampNeg)) (o : Nat → Int64) (K : tk_ST → (Nat → Int64) → tk_ST → Option Int32) : ∃ S' o' M', Rel (k + 1) S' M' ∧ f_law_c23 L xs K i S o M = K S' o' M' := by
  unfold f_law_c23 f_L_score
  simp only [if_neg h1]
  exact law_Q (P_score h _) o K
theorem pl_c24 {L k : Nat} {xs : Nat → Int32} {S M : tk_ST} (hk : k < 1000) (h : Rel k S M) {i : Int32} (h1 : ¬ (i + 1 < 0 ∨ L ≤ (i + 1).toNatClampNeg)) (h2 : ¬ (i + 2 < 0 ∨ L ≤ (i + 2).toNatClampNeg)) (o : Nat → Int64) (K : tk_ST → (Nat → Int64) → tk_ST → Option Int32) : ∃ S' o' M', Rel (k + 1) S' M' ∧ f_law_c24 L xs K i S o M = K S' o' M' := by
  unfold f_law_c24 f_L_radli
  simp only [if_neg h1]
  exact law_Q (P_radli h _) o K
theorem pl_c25 {L k : Nat} {xs : Nat → Int32} {S M : tk_ST} (hk : k < 1000) (h : Rel k S M) {i : Int32} (h1 : ¬ (i + 1 < 0 ∨ L ≤ (i + 1).toNatClampNeg)) (h2 : ¬ (i + 2 < 0 ∨ L ≤ (i + 2).toNatClampNeg)) (o : Nat → Int64) (K : tk_ST → (Nat → Int64) → tk_ST → Option Int32) : ∃ S' o' M', Rel (k + 1) S' M' ∧ f_law_c25 L xs K i S o M = K S' o' M' := by
  exact law_G h h.1.2.2.2.2.2.2.2.2.2.2.1 o K
theorem pl_c26 {L k : Nat} {xs : Nat → Int32} {S M : tk_ST} (hk : k < 1000) (h : Rel k S M) {i : Int32} (h1 : ¬ (i + 1 < 0 ∨ L ≤ (i + 1).toNatClampNeg)) (h2 : ¬ (i + 2 < 0 ∨ L ≤ (i + 2).toNatClampNeg)) (o : Nat → Int64) (K : tk_ST → (Nat → Int64) → tk_ST → Option Int32) : ∃ S' o' M', Rel (k + 1) S' M' ∧ f_law_c26 L xs K i S o M = K S' o' M' := by
  unfold f_law_c26 f_L_knows
  simp only [if_neg h1, if_neg h2]
  exact law_Q (P_knows h _ _) o K
