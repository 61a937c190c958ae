/-! Crossings: a fence with ends between. -/
theorem par_mm1 {tp tq sA sB yp yq ya yb : Int} (h1 : tp - tq = sB - sA) (h2 : tp * yq - tq * yp = sB * ya - sA * yb) (hy : ya < yb) (lp : ya < yp ∧ yp ≤ yb) (lq : ya < yq ∧ yq ≤ yb) (nB : sB = 0 → 0 < tp * tq) (nq : tq = 0 → 0 < sA * sB) (a : tp < 0) (b : 0 ≤ tq) : tp * tq < 0 ∧ sA * sB < 0 := by
  have e1 := par_e1 h1 h2
  have e2 := par_e2 h1 h2
  have m1 := Int.mul_nonneg b (show 0 ≤ yp - ya by omega)
  have m2 := Int.mul_neg_of_neg_of_pos a (show 0 < yq - ya by omega)
  have m3 := Int.mul_nonpos_of_nonneg_of_nonpos b (show yp - yb ≤ 0 by omega)
  have m4 := Int.mul_nonneg_of_nonpos_of_nonpos (Int.le_of_lt a) (show yq - yb ≤ 0 by omega)
  have pA : 0 < sA := by
    refine Int.not_le.mp fun z => ?_
    have := Int.mul_nonpos_of_nonpos_of_nonneg z (show 0 ≤ yb - ya by omega)
    omega
  have pB : sB ≤ 0 := by
    refine Int.not_lt.mp fun z => ?_
    have := Int.mul_pos z (show 0 < yb - ya by omega)
    omega
  have le := Int.mul_nonpos_of_nonneg_of_nonpos (Int.le_of_lt pA) pB
  have q0 : tq ≠ 0 := fun z => by have := nq z; omega
  have neg : tp * tq < 0 := Int.mul_neg_of_neg_of_pos a (by omega)
  have b0 : sB ≠ 0 := fun z => by have := nB z; omega
  exact ⟨neg, Int.mul_neg_of_pos_of_neg pA (by omega)⟩
theorem par_lm {tp tq sA sB yp yq ya yb : Int} (h1 : tp - tq = sB - sA) (h2 : tp * yq - tq * yp = sB * ya - sA * yb) (hy : ya < yb) (lp : yp ≤ ya) (lq : ya < yq ∧ yq ≤ yb) (nA : sA = 0 → 0 < tp * tq) (np : tp = 0 → 0 < sA * sB) (nq : tq = 0 → 0 < sA * sB) : (tq < 0 → (0 < sA ∧ ¬ (tp * tq < 0 ∧ sA * sB < 0)) ∨ (¬ 0 < sA ∧ tp * tq < 0 ∧ sA * sB < 0)) ∧ (0 ≤ tq → (0 < sA ∧ tp * tq < 0 ∧ sA * sB < 0) ∨ (¬ 0 < sA ∧ ¬ (tp * tq < 0 ∧ sA * sB < 0))) := by
  have e1 := par_e1 h1 h2
  have e2 := par_e2 h1 h2
  have hd : 0 < yb - ya := by omega
  have up : ∀ s : Int, 0 < s * (yb - ya) → 0 < s := fun s h => by
    refine Int.not_le.mp fun z => ?_
    have := Int.mul_nonpos_of_nonpos_of_nonneg z (Int.le_of_lt hd)
    omega
  have dn : ∀ s : Int, s * (yb - ya) < 0 → s < 0 := fun s h => by
    refine Int.not_le.mp fun z => ?_
    have := Int.mul_nonneg z (Int.le_of_lt hd)
    omega
  constructor
  · intro t
    have m3 := Int.mul_pos_of_neg_of_neg t (show yp - yb < 0 by omega)
    have m1 := Int.mul_nonneg_of_nonpos_of_nonpos (Int.le_of_lt t) (show yp - ya ≤ 0 by omega)
    rcases Int.lt_trichotomy tp 0 with c | c | c
    · left
      have m2 := Int.mul_neg_of_neg_of_pos c (show 0 < yq - ya by omega)
      have pt := Int.mul_pos_of_neg_of_neg c t
      exact ⟨up sA (by omega), fun z => by omega⟩
    · left
      have n := np c
      rw [c, Int.zero_mul] at e2
      have sb := up sB (by omega)
      refine ⟨Int.not_le.mp fun z => ?_, fun z => by omega⟩
      have := Int.mul_nonpos_of_nonpos_of_nonneg z (Int.le_of_lt sb)
      omega
    · have m4 := Int.mul_nonpos_of_nonneg_of_nonpos (Int.le_of_lt c) (show yq - yb ≤ 0 by omega)
      have sb := up sB (by omega)
      have neg := Int.mul_neg_of_pos_of_neg c t
      have a0 : sA ≠ 0 := fun z => by have := nA z; omega
      by_cases w : 0 < sA
      · left
        have := Int.mul_pos w sb
        exact ⟨w, fun z => by omega⟩
      · right
        exact ⟨w, neg, Int.mul_neg_of_neg_of_pos (by omega) sb⟩
  · intro t
    by_cases t0 : tq = 0
    · have n := nq t0
      right
      rw [t0, Int.zero_mul, Int.zero_sub] at e1 e2
      refine ⟨fun w => ?_, fun z => by omega⟩
      have w2 := Int.mul_pos w hd
      have tn : tp < 0 := by
        refine Int.not_le.mp fun z => ?_
        have := Int.mul_nonneg z (show 0 ≤ yq - ya by omega)
        omega
      have m4 := Int.mul_nonneg_of_nonpos_of_nonpos (Int.le_of_lt tn) (show yq - yb ≤ 0 by omega)
      have sb : sB ≤ 0 := by
        refine Int.not_lt.mp fun z => ?_
        have := Int.mul_pos z hd
        omega
      have := Int.mul_nonpos_of_nonneg_of_nonpos (Int.le_of_lt w) sb
      omega
    · have tpos : 0 < tq := by omega
      have m3 := Int.mul_neg_of_pos_of_neg tpos (show yp - yb < 0 by omega)
      have m1 := Int.mul_nonpos_of_nonneg_of_nonpos t (show yp - ya ≤ 0 by omega)
      rcases Int.lt_trichotomy tp 0 with c | c | c
      · have m4 := Int.mul_nonneg_of_nonpos_of_nonpos (Int.le_of_lt c) (show yq - yb ≤ 0 by omega)
        have sb := dn sB (by omega)
        have neg := Int.mul_neg_of_neg_of_pos c tpos
        by_cases w : 0 < sA
        · left
          exact ⟨w, neg, Int.mul_neg_of_pos_of_neg w sb⟩
        · right
          have := Int.mul_nonneg_of_nonpos_of_nonpos (show sA ≤ 0 by omega) (Int.le_of_lt sb)
          exact ⟨w, fun z => by omega⟩
      · right
        have n := np c
        rw [c, Int.zero_mul] at e2
        have sb := dn sB (by omega)
        refine ⟨fun w => ?_, fun z => by omega⟩
        have := Int.mul_neg_of_pos_of_neg w sb
        omega
      · right
        have m2 := Int.mul_pos c (show 0 < yq - ya by omega)
        have pt := Int.mul_pos c tpos
        have sa := dn sA (by omega)
        exact ⟨by omega, fun z => by omega⟩
