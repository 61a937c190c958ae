/-! Crossings, half open: a corner on the line counts as on its one side. -/
def hN (tp tq sA sB : Int) : Bool := (decide (tp < 0) != decide (tq < 0)) && decide (sA * sB < 0)
theorem dec_ne {a b : Bool} (h : a = !b) : (a != b) = true := by rw [h]; cases b <;> rfl
theorem hN_x {tp tq sA sB : Int} (np : tp = 0 → 0 < sA * sB) (nq : tq = 0 → 0 < sA * sB) : hN tp tq sA sB = xN tp tq sA sB := by
  unfold hN xN
  by_cases c : sA * sB < 0
  · have p0 : tp ≠ 0 := fun z => by have := np z; omega
    have q0 : tq ≠ 0 := fun z => by have := nq z; omega
    rw [decide_eq_true c, Bool.and_true, Bool.and_true]
    by_cases a : tp < 0 <;> by_cases b : tq < 0
    · have := Int.mul_pos_of_neg_of_neg a b
      rw [decide_eq_true a, decide_eq_true b, decide_eq_false (by omega)]; rfl
    · have := Int.mul_neg_of_neg_of_pos a (show 0 < tq by omega)
      rw [decide_eq_true a, decide_eq_false b, decide_eq_true this]; rfl
    · have := Int.mul_neg_of_pos_of_neg (show 0 < tp by omega) b
      rw [decide_eq_false a, decide_eq_true b, decide_eq_true this]; rfl
    · have := Int.mul_pos (show 0 < tp by omega) (show 0 < tq by omega)
      rw [decide_eq_false a, decide_eq_false b, decide_eq_false (by omega)]; rfl
  · rw [decide_eq_false c, Bool.and_false, Bool.and_false]
theorem mul_neg_s {a b : Int} (h : a * b < 0) : (a < 0 ∧ 0 < b) ∨ (0 < a ∧ b < 0) := by
  rcases Int.lt_trichotomy a 0 with c | c | c
  · left; refine ⟨c, ?_⟩
    refine Int.lt_of_not_ge fun d => ?_
    have := Int.mul_nonneg_of_nonpos_of_nonpos (show a ≤ 0 by omega) d
    omega
  · rw [c, Int.zero_mul] at h; omega
  · right; refine ⟨c, ?_⟩
    refine Int.lt_of_not_ge fun d => ?_
    have := Int.mul_nonneg (show 0 ≤ a by omega) d
    omega
/-- p lies on the line from A to B, between them -/
theorem par_p0 {tq sA sB yp yq ya yb : Int} (h1 : 0 - tq = sB - sA) (h2 : 0 * yq - tq * yp = sB * ya - sA * yb) (hy : ya < yb) (hs : sA * sB < 0) (ho : yp ≤ yq) : ((cN yp yq ya sA != cN yp yq yb sB) != hN 0 tq sA sB) = (iN yp 0 ya yb != iN yq tq ya yb) := by
  have hp : ya < yp ∧ yp < yb := by
    have e1 : (sA - sB) * (yp - ya) = sA * (yb - ya) := by grind
    have e2 : (sA - sB) * (yb - yp) = (0 - sB) * (yb - ya) := by grind
    rcases mul_neg_s hs with ⟨a, b⟩ | ⟨a, b⟩
    · have w1 := Int.mul_neg_of_neg_of_pos a (show 0 < yb - ya by omega)
      have w2 := Int.mul_neg_of_neg_of_pos (show 0 - sB < 0 by omega) (show 0 < yb - ya by omega)
      rw [← e1] at w1
      rw [← e2] at w2
      rcases mul_neg_s w1 with w | w <;> rcases mul_neg_s w2 with z | z <;> omega
    · have w1 := Int.mul_pos a (show 0 < yb - ya by omega)
      have w2 := Int.mul_pos (show 0 < 0 - sB by omega) (show 0 < yb - ya by omega)
      rw [← e1] at w1
      rw [← e2] at w2
      have p := (show 0 < sA - sB by omega)
      constructor
      · refine Int.lt_of_not_ge fun d => ?_
        have := Int.mul_nonpos_of_nonneg_of_nonpos (show 0 ≤ sA - sB by omega) (show yp - ya ≤ 0 by omega)
        omega
      · refine Int.lt_of_not_ge fun d => ?_
        have := Int.mul_nonpos_of_nonneg_of_nonpos (show 0 ≤ sA - sB by omega) (show yb - yp ≤ 0 by omega)
        omega
  rw [cN_up ho, cN_up ho]
  unfold hN
  rw [decide_eq_true hs, Bool.and_true, decide_eq_false (show ¬ (yp ≤ ya ∧ ya < yq ∧ 0 < sA) by omega), iN_in ⟨by omega, by omega⟩, decide_eq_false (show ¬ (0:Int) < 0 by omega)]
  rcases mul_neg_s hs with ⟨a, b⟩ | ⟨a, b⟩
  · rw [decide_eq_true (show tq < 0 by omega)]
    by_cases c : yq ≤ yb
    · rw [decide_eq_false (by omega), iN_in ⟨by omega, c⟩, decide_eq_true (by omega)]; rfl
    · rw [decide_eq_true (by omega), iN_out (by omega)]; rfl
  · rw [decide_eq_false (show ¬ tq < 0 by omega), decide_eq_false (by omega)]
    by_cases c : yq ≤ yb
    · rw [iN_in ⟨by omega, c⟩, decide_eq_false (by omega)]; rfl
    · rw [iN_out (by omega)]; rfl
theorem par_q0 {tp sA sB yp yq ya yb : Int} (h1 : tp - 0 = sB - sA) (h2 : tp * yq - 0 * yp = sB * ya - sA * yb) (hy : ya < yb) (hs : sA * sB < 0) (ho : yp ≤ yq) : ((cN yp yq ya sA != cN yp yq yb sB) != hN tp 0 sA sB) = (iN yp tp ya yb != iN yq 0 ya yb) := by
  have hp : ya < yq ∧ yq < yb := by
    have e1 : (sA - sB) * (yq - ya) = sA * (yb - ya) := by grind
    have e2 : (sA - sB) * (yb - yq) = (0 - sB) * (yb - ya) := by grind
    rcases mul_neg_s hs with ⟨a, b⟩ | ⟨a, b⟩
    · have w1 := Int.mul_neg_of_neg_of_pos a (show 0 < yb - ya by omega)
      have w2 := Int.mul_neg_of_neg_of_pos (show 0 - sB < 0 by omega) (show 0 < yb - ya by omega)
      rw [← e1] at w1
      rw [← e2] at w2
      rcases mul_neg_s w1 with w | w <;> rcases mul_neg_s w2 with z | z <;> omega
    · have w1 := Int.mul_pos a (show 0 < yb - ya by omega)
      have w2 := Int.mul_pos (show 0 < 0 - sB by omega) (show 0 < yb - ya by omega)
      rw [← e1] at w1
      rw [← e2] at w2
      constructor
      · refine Int.lt_of_not_ge fun d => ?_
        have := Int.mul_nonpos_of_nonneg_of_nonpos (show 0 ≤ sA - sB by omega) (show yq - ya ≤ 0 by omega)
        omega
      · refine Int.lt_of_not_ge fun d => ?_
        have := Int.mul_nonpos_of_nonneg_of_nonpos (show 0 ≤ sA - sB by omega) (show yb - yq ≤ 0 by omega)
        omega
  rw [cN_up ho, cN_up ho]
  unfold hN
  rw [decide_eq_true hs, Bool.and_true, decide_eq_false (show ¬ (yp ≤ yb ∧ yb < yq ∧ 0 < sB) by omega), iN_in (yp := yq) ⟨by omega, by omega⟩, decide_eq_false (show ¬ (0:Int) < 0 by omega)]
  rcases mul_neg_s hs with ⟨a, b⟩ | ⟨a, b⟩
  · rw [decide_eq_false (show ¬ tp < 0 by omega), decide_eq_false (by omega)]
    by_cases c : ya < yp
    · rw [iN_in ⟨c, by omega⟩, decide_eq_false (by omega)]; rfl
    · rw [iN_out (by omega)]; rfl
  · rw [decide_eq_true (show tp < 0 by omega)]
    by_cases c : ya < yp
    · rw [decide_eq_false (by omega), iN_in ⟨c, by omega⟩, decide_eq_true (by omega)]; rfl
    · rw [decide_eq_true (by omega), iN_out (by omega)]; rfl
/-- all cases, p not above q; p and q may lie on the line from A to B -/
theorem par_h {tp tq sA sB yp yq ya yb : Int} (h1 : tp - tq = sB - sA) (h2 : tp * yq - tq * yp = sB * ya - sA * yb) (hy : ya < yb) (nA : sA = 0 → 0 < tp * tq) (nB : sB = 0 → 0 < tp * tq) (ho : yp ≤ yq) : ((cN yp yq ya sA != cN yp yq yb sB) != hN tp tq sA sB) = (iN yp tp ya yb != iN yq tq ya yb) := by
  by_cases p0 : tp = 0 ∧ ¬ 0 < sA * sB
  · obtain ⟨rfl, w⟩ := p0
    have a0 : sA ≠ 0 := fun z => by have := nA z; rw [Int.zero_mul] at this; omega
    have b0 : sB ≠ 0 := fun z => by have := nB z; rw [Int.zero_mul] at this; omega
    have := Int.mul_ne_zero a0 b0
    exact par_p0 h1 h2 hy (by omega) ho
  · by_cases q0 : tq = 0 ∧ ¬ 0 < sA * sB
    · obtain ⟨rfl, w⟩ := q0
      have a0 : sA ≠ 0 := fun z => by have := nA z; rw [Int.mul_zero] at this; omega
      have b0 : sB ≠ 0 := fun z => by have := nB z; rw [Int.mul_zero] at this; omega
      have := Int.mul_ne_zero a0 b0
      exact par_q0 h1 h2 hy (by omega) ho
    · have np : tp = 0 → 0 < sA * sB := fun z => Decidable.byContradiction fun y => p0 ⟨z, y⟩
      have nq : tq = 0 → 0 < sA * sB := fun z => Decidable.byContradiction fun y => q0 ⟨z, y⟩
      rw [hN_x np nq]
      exact par_up h1 h2 hy nA nB np nq ho
theorem cN_sw (yp yq y s : Int) : cN yq yp y (-s) = cN yp yq y s := by
  unfold cN
  by_cases a : yp ≤ y <;> by_cases b : yq ≤ y <;> by_cases c : yq ≤ yp <;> by_cases d : yp ≤ yq <;> simp [a, b, c, d] <;> first | rfl | (try omega)
theorem hN_sw (tp tq sA sB : Int) : hN tq tp (-sA) (-sB) = hN tp tq sA sB := by
  unfold hN
  rw [Int.neg_mul_neg]
  congr 1
  cases decide (tp < 0) <;> cases decide (tq < 0) <;> rfl
/-- all cases -/
theorem par_all {tp tq sA sB yp yq ya yb : Int} (h1 : tp - tq = sB - sA) (h2 : tp * yq - tq * yp = sB * ya - sA * yb) (hy : ya < yb) (nA : sA = 0 → 0 < tp * tq) (nB : sB = 0 → 0 < tp * tq) : ((cN yp yq ya sA != cN yp yq yb sB) != hN tp tq sA sB) = (iN yp tp ya yb != iN yq tq ya yb) := by
  by_cases ho : yp ≤ yq
  · exact par_h h1 h2 hy nA nB ho
  · have w := par_h (tp := tq) (tq := tp) (sA := -sA) (sB := -sB) (yp := yq) (yq := yp) (ya := ya) (yb := yb) (by omega) (by grind) hy (fun z => by rw [Int.mul_comm]; exact nA (by omega)) (fun z => by rw [Int.mul_comm]; exact nB (by omega)) (by omega)
    rw [cN_sw, cN_sw, hN_sw] at w
    rw [w]
    cases iN yp tp ya yb <;> cases iN yq tq ya yb <;> rfl
