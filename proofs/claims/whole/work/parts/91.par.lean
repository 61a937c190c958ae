/-! Crossings: a segment and a fence. -/
theorem two_1 (px py qx qy ax ay bx y : Int) : ((bx - ax) * (py - ay) - (y - ay) * (px - ax)) - ((bx - ax) * (qy - ay) - (y - ay) * (qx - ax)) = ((qx - px) * (y - py) - (qy - py) * (bx - px)) - ((qx - px) * (ay - py) - (qy - py) * (ax - px)) := by grind
theorem two_2 (px py qx qy ax ay bx y : Int) : ((bx - ax) * (py - ay) - (y - ay) * (px - ax)) * qy - ((bx - ax) * (qy - ay) - (y - ay) * (qx - ax)) * py = ((qx - px) * (y - py) - (qy - py) * (bx - px)) * ay - ((qx - px) * (ay - py) - (qy - py) * (ax - px)) * y := by grind
theorem two_3 (px py qx qy ax ay bx y : Int) : ((bx - ax) * (py - ay) - (y - ay) * (px - ax)) * qx - ((bx - ax) * (qy - ay) - (y - ay) * (qx - ax)) * px = ((qx - px) * (y - py) - (qy - py) * (bx - px)) * ax - ((qx - px) * (ay - py) - (qy - py) * (ax - px)) * bx := by grind
theorem par_flat {tp tq sA sB yp yq ya : Int} (h1 : tp - tq = sB - sA) (h2 : tp * (yq - ya) = tq * (yp - ya)) (nA : sA = 0 → 0 < tp * tq) (nB : sB = 0 → 0 < tp * tq) (np : tp = 0 → 0 < sA * sB) (nq : tq = 0 → 0 < sA * sB) (hp : yp = ya → tp = 0) :
    (tp * tq < 0 ∧ sA * sB < 0) ↔ ((yp ≤ ya ∧ ya < yq ∨ yq ≤ ya ∧ ya < yp) ∧ ((0 < sA ∧ sB < 0) ∨ (sA < 0 ∧ 0 < sB))) := by
  have ss : sA * sB < 0 ↔ ((0 < sA ∧ sB < 0) ∨ (sA < 0 ∧ 0 < sB)) := by
    constructor
    · intro h
      rcases Int.lt_trichotomy sA 0 with a | a | a
      · right
        refine ⟨a, Int.not_le.mp fun z => ?_⟩
        have := Int.mul_nonneg_of_nonpos_of_nonpos (Int.le_of_lt a) z
        omega
      · rw [a, Int.zero_mul] at h; omega
      · left
        refine ⟨a, Int.not_le.mp fun z => ?_⟩
        have := Int.mul_nonneg (Int.le_of_lt a) z
        omega
    · rintro (⟨a, b⟩ | ⟨a, b⟩)
      · exact Int.mul_neg_of_pos_of_neg a b
      · exact Int.mul_neg_of_neg_of_pos a b
  rw [← ss]
  have k : tp * tp * (yq - ya) = tp * tq * (yp - ya) := by grind
  constructor
  · rintro ⟨a, b⟩
    refine ⟨?_, b⟩
    have tp0 : tp ≠ 0 := fun z => by rw [z, Int.zero_mul] at a; omega
    have pp : 0 < tp * tp := by
      rcases Int.lt_or_gt_of_ne tp0 with g | g
      · exact Int.mul_pos_of_neg_of_neg g g
      · exact Int.mul_pos g g
    rcases Int.lt_trichotomy yp ya with c | c | c
    · left
      refine ⟨by omega, Int.not_le.mp fun z => ?_⟩
      have m1 := Int.mul_pos_of_neg_of_neg a (show yp - ya < 0 by omega)
      have m2 := Int.mul_nonpos_of_nonneg_of_nonpos (Int.le_of_lt pp) (show yq - ya ≤ 0 by omega)
      omega
    · exact absurd (hp c) tp0
    · right
      refine ⟨Int.not_lt.mp fun z => ?_, c⟩
      have m1 := Int.mul_neg_of_neg_of_pos a (show 0 < yp - ya by omega)
      have m2 := Int.mul_pos pp (show 0 < yq - ya by omega)
      omega
  · rintro ⟨c, b⟩
    refine ⟨?_, b⟩
    have tp0 : tp ≠ 0 := fun z => by have := np z; omega
    have tq0 : tq ≠ 0 := fun z => by have := nq z; omega
    have pp : 0 < tp * tp := by
      rcases Int.lt_or_gt_of_ne tp0 with g | g
      · exact Int.mul_pos_of_neg_of_neg g g
      · exact Int.mul_pos g g
    have yn : yp ≠ ya := fun z => tp0 (hp z)
    refine Int.not_le.mp fun z => ?_
    rcases c with ⟨c1, c2⟩ | ⟨c1, c2⟩
    · have m1 := Int.mul_pos pp (show 0 < yq - ya by omega)
      have m2 := Int.mul_nonpos_of_nonneg_of_nonpos z (show yp - ya ≤ 0 by omega)
      omega
    · have m1 := Int.mul_nonpos_of_nonneg_of_nonpos (Int.le_of_lt pp) (show yq - ya ≤ 0 by omega)
      rcases Int.lt_or_eq_of_le z with w | w
      · have m2 := Int.mul_pos w (show 0 < yp - ya by omega)
        omega
      · rcases Int.mul_eq_zero.mp w.symm with y | y
        · exact tp0 y
        · exact tq0 y
