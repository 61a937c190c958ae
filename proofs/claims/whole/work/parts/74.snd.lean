/-! Points and sides: what the class and the reference mean by between, and by meeting. -/
/-- c on the line through a and b: how the sides of a and b by the line from c to d hang together -/
theorem sd_key {X Y : Nat → Int} {a b c d : Nat} (h : sd X Y a b c = 0) : sd X Y c d b * dt X Y c a b = sd X Y c d a * lng X Y b c := by
  unfold sd dt lng at *
  grind
theorem sd_sum (X Y : Nat → Int) (a b c d : Nat) : sd X Y a b c + sd X Y c d a = sd X Y a b d + sd X Y c d b := by
  unfold sd
  grind
theorem sd_sw (X Y : Nat → Int) (a b c : Nat) : sd X Y b a c = -sd X Y a b c := by
  unfold sd
  grind
theorem sd_rt (X Y : Nat → Int) (a b c : Nat) : sd X Y b c a = sd X Y a b c := by
  unfold sd
  grind
theorem dt_sw (X Y : Nat → Int) (a b c : Nat) : dt X Y c b a = dt X Y c a b := by
  unfold dt
  grind
theorem lng_sw (X Y : Nat → Int) (a b : Nat) : lng X Y b a = lng X Y a b := by
  unfold lng
  grind
/-- of points in one line, the products of both coordinates go together -/
theorem dt_parts {X Y : Nat → Int} {a b c : Nat} (h : sd X Y a b c = 0) : 0 ≤ ((X a - X c) * (X b - X c)) * ((Y a - Y c) * (Y b - Y c)) := by
  have e : ((X a - X c) * (X b - X c)) * ((Y a - Y c) * (Y b - Y c)) = ((X a - X c) * (Y b - Y c)) * ((X a - X c) * (Y b - Y c)) := by
    unfold sd at h
    grind
  rw [e]
  exact sq_nn _
theorem pn {u v : Int} (h : 0 ≤ u * v) (hs : u + v ≤ 0) : u ≤ 0 ∧ v ≤ 0 := by
  refine ⟨Int.not_lt.mp fun q => ?_, Int.not_lt.mp fun q => ?_⟩
  · have : u * v < 0 := Int.mul_neg_of_pos_of_neg q (by omega)
    omega
  · have : u * v < 0 := Int.mul_neg_of_neg_of_pos (by omega) q
    omega
/-- of three unlike points in one line -/
theorem dt_ne {X Y : Nat → Int} {a b c : Nat} (h : sd X Y a b c = 0) (hac : 0 < lng X Y a c) (hbc : 0 < lng X Y b c) : dt X Y c a b ≠ 0 := by
  intro q
  have e : dt X Y c a b * dt X Y c a b + sd X Y a b c * sd X Y a b c = lng X Y a c * lng X Y b c := by
    unfold dt sd lng
    grind
  rw [q, h] at e
  have := Int.mul_pos hac hbc
  omega
theorem btw_eq {X Y : Nat → Int} {a b c : Nat} (hac : 0 < lng X Y a c) (hbc : 0 < lng X Y b c) : btw X Y a b c = (decide (sd X Y a b c = 0) && btM X Y a b c) := by
  unfold btw btM
  by_cases h : sd X Y a b c = 0
  · rw [decide_eq_true h, Bool.true_and, Bool.true_and, ← Bool.decide_and]
    refine decide_eq_decide.mpr ?_
    have hp := dt_parts h
    have hn := dt_ne h hac hbc
    have e1 : (X c - X a) * (X c - X b) = (X a - X c) * (X b - X c) := by grind
    have e2 : (Y c - Y a) * (Y c - Y b) = (Y a - Y c) * (Y b - Y c) := by grind
    rw [e1, e2]
    have ed : dt X Y c a b = (X a - X c) * (X b - X c) + (Y a - Y c) * (Y b - Y c) := rfl
    constructor
    · intro q
      exact pn hp (by omega)
    · intro q
      omega
  · rw [decide_eq_false h, Bool.false_and, Bool.false_and]
/-- c on the line through a and b, d not on it, a and b not on one side of the line from c to d: then c is between -/
theorem btw_of {X Y : Nat → Int} {a b c d : Nat} (hac : 0 < lng X Y a c) (hbc : 0 < lng X Y b c) (h : sd X Y a b c = 0) (hd : sd X Y a b d ≠ 0) : dt X Y c a b < 0 ↔ sd X Y c d a * sd X Y c d b ≤ 0 := by
  have k := sd_key (d := d) h
  have sm := sd_sum X Y a b c d
  have hn := dt_ne h hac hbc
  have hs : sd X Y c d b ≠ 0 := by
    intro q
    rw [q, Int.zero_mul] at k
    have : sd X Y c d a = 0 := by
      rcases Int.mul_eq_zero.mp k.symm with z | z
      · exact z
      · omega
    omega
  have k2 : sd X Y c d b * sd X Y c d b * dt X Y c a b = sd X Y c d a * sd X Y c d b * lng X Y b c := by
    rw [Int.mul_assoc, k]; grind
  have hp : 0 < sd X Y c d b * sd X Y c d b := by
    rcases Int.lt_or_gt_of_ne hs with q | q
    · exact Int.mul_pos_of_neg_of_neg q q
    · exact Int.mul_pos q q
  constructor
  · intro q
    refine Int.not_lt.mp fun z => ?_
    have z1 := Int.mul_neg_of_pos_of_neg hp q
    have z2 := Int.mul_pos z hbc
    omega
  · intro q
    refine Int.not_le.mp fun z => ?_
    have z1 : 0 < dt X Y c a b := by omega
    have z2 := Int.mul_pos hp z1
    have z3 : sd X Y c d a * sd X Y c d b * lng X Y b c ≤ 0 := by
      have := Int.mul_le_mul_of_nonneg_right q (show 0 ≤ lng X Y b c by omega)
      omega
    omega
theorem sgn_mul (u v : Int) : sgn u * sgn v < 0 ↔ u * v < 0 := by
  unfold sgn
  rcases Int.lt_trichotomy u 0 with h | h | h
  · rcases Int.lt_trichotomy v 0 with g | g | g
    · have := Int.mul_pos_of_neg_of_neg h g
      simp only [h, g, if_true]; omega
    · subst g; simp
    · have := Int.mul_neg_of_neg_of_pos h g
      simp only [h, if_true, show ¬ v < 0 by omega, show ¬ v = 0 by omega, if_false]; omega
  · subst h; simp
  · rcases Int.lt_trichotomy v 0 with g | g | g
    · have := Int.mul_neg_of_pos_of_neg h g
      simp only [g, if_true, show ¬ u < 0 by omega, show ¬ u = 0 by omega, if_false]; omega
    · subst g; simp
    · have := Int.mul_pos h g
      simp only [show ¬ u < 0 by omega, show ¬ u = 0 by omega, show ¬ v < 0 by omega, show ¬ v = 0 by omega, if_false]; omega
