/-! Crossings: a segment that rises. -/
theorem sg_neg {a b : Int} : a * b < 0 ↔ ((0 < a ∧ b < 0) ∨ (a < 0 ∧ 0 < b)) := by
  constructor
  · intro h
    rcases Int.lt_trichotomy a 0 with c | c | c
    · right
      refine ⟨c, Int.not_le.mp fun z => ?_⟩
      have := Int.mul_nonneg_of_nonpos_of_nonpos (Int.le_of_lt c) z
      omega
    · rw [c, Int.zero_mul] at h; omega
    · left
      refine ⟨c, Int.not_le.mp fun z => ?_⟩
      have := Int.mul_nonneg (Int.le_of_lt c) z
      omega
  · rintro (⟨c, d⟩ | ⟨c, d⟩)
    · exact Int.mul_neg_of_pos_of_neg c d
    · exact Int.mul_neg_of_neg_of_pos c d
theorem par_e1 {tp tq sA sB yp yq ya yb : Int} (h1 : tp - tq = sB - sA) (h2 : tp * yq - tq * yp = sB * ya - sA * yb) : tq * (yp - ya) - tp * (yq - ya) = sA * (yb - ya) := by grind
theorem par_e2 {tp tq sA sB yp yq ya yb : Int} (h1 : tp - tq = sB - sA) (h2 : tp * yq - tq * yp = sB * ya - sA * yb) : tq * (yp - yb) - tp * (yq - yb) = sB * (yb - ya) := by grind
theorem par_e3 {tp tq sA sB yp yq ya yb : Int} (h1 : tp - tq = sB - sA) (h2 : tp * yq - tq * yp = sB * ya - sA * yb) : sB * (ya - yp) - sA * (yb - yp) = tp * (yq - yp) := by grind
theorem par_e4 {tp tq sA sB yp yq ya yb : Int} (h1 : tp - tq = sB - sA) (h2 : tp * yq - tq * yp = sB * ya - sA * yb) : sB * (ya - yq) - sA * (yb - yq) = tq * (yq - yp) := by grind
/-- both ends of the fence low: no crossing -/
theorem par_ll {tp tq sA sB yp yq ya yb : Int} (h1 : tp - tq = sB - sA) (h2 : tp * yq - tq * yp = sB * ya - sA * yb) (hy : ya < yb) (lp : yp ≤ ya) (lq : yq ≤ ya) : ¬ (tp * tq < 0 ∧ sA * sB < 0) := by
  have e := par_e1 h1 h2
  rintro ⟨a, b⟩
  rw [sg_neg] at a b
  rcases a with ⟨a1, a2⟩ | ⟨a1, a2⟩
  · have m1 := Int.mul_nonneg_of_nonpos_of_nonpos (Int.le_of_lt a2) (show yp - ya ≤ 0 by omega)
    have m2 := Int.mul_nonpos_of_nonneg_of_nonpos (Int.le_of_lt a1) (show yq - ya ≤ 0 by omega)
    rcases b with b | b
    · omega
    · have := Int.mul_neg_of_neg_of_pos b.1 (show 0 < yb - ya by omega)
      omega
  · have m1 := Int.mul_nonpos_of_nonneg_of_nonpos (Int.le_of_lt a2) (show yp - ya ≤ 0 by omega)
    have m2 := Int.mul_nonneg_of_nonpos_of_nonpos (Int.le_of_lt a1) (show yq - ya ≤ 0 by omega)
    rcases b with b | b
    · have := Int.mul_pos b.1 (show 0 < yb - ya by omega)
      omega
    · omega
/-- both ends of the fence high: no crossing -/
theorem par_hh {tp tq sA sB yp yq ya yb : Int} (h1 : tp - tq = sB - sA) (h2 : tp * yq - tq * yp = sB * ya - sA * yb) (hy : ya < yb) (lp : yb < yp) (lq : yb < yq) : ¬ (tp * tq < 0 ∧ sA * sB < 0) := by
  have e := par_e2 h1 h2
  rintro ⟨a, b⟩
  rw [sg_neg] at a b
  rcases a with ⟨a1, a2⟩ | ⟨a1, a2⟩
  · have m1 := Int.mul_neg_of_neg_of_pos a2 (show 0 < yp - yb by omega)
    have m2 := Int.mul_pos a1 (show 0 < yq - yb by omega)
    rcases b with b | b
    · omega
    · have := Int.mul_pos b.2 (show 0 < yb - ya by omega)
      omega
  · have m1 := Int.mul_pos a2 (show 0 < yp - yb by omega)
    have m2 := Int.mul_neg_of_neg_of_pos a1 (show 0 < yq - yb by omega)
    rcases b with b | b
    · have := Int.mul_neg_of_neg_of_pos b.2 (show 0 < yb - ya by omega)
      omega
    · omega
