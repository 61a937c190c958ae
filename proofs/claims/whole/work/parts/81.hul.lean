/-! Hulls: the class and the reference wrap alike. -/
/-- corner a is at the edge of all: seen from it all others lie from the left of d round to its back -/
def Edg (n : Nat) (X Y : Nat → Int) (a : Nat) (p q : Int) : Prop := ∀ c, c < n → 0 < p * (Y c - Y a) - q * (X c - X a) ∨ (p * (Y c - Y a) - q * (X c - X a) = 0 ∧ p * (X c - X a) + q * (Y c - Y a) ≤ 0)
def EdgX (n : Nat) (X Y : Nat → Int) (a : Nat) : Prop := a < n ∧ ∃ p q, (p ≠ 0 ∨ q ≠ 0) ∧ Edg n X Y a p q
theorem nn_of {k z : Int} (hk : 0 < k) (h : 0 ≤ k * z) : 0 ≤ z := by
  refine Int.not_lt.mp fun q => ?_
  have := Int.mul_neg_of_pos_of_neg hk q
  omega
/-- seen from a corner at the edge, no two others lie opposite -/
theorem Edg.opp {n : Nat} {X Y : Nat → Int} {a : Nat} (hD : Dst n X Y) (hE : EdgX n X Y a) {u v : Nat} (hu : u < n) (hv : v < n) (hua : u ≠ a) (hva : v ≠ a) (h : sd X Y a u v = 0) : 0 < dt X Y a u v := by
  obtain ⟨ha, p, q, hpq, e⟩ := hE
  have lu := hD a u ha hu (Ne.symm hua)
  have lv := hD a v ha hv (Ne.symm hva)
  have hn : dt X Y a u v ≠ 0 := by
    have h2 : sd X Y u v a = 0 := by rw [sd_rt]; exact h
    have lu' : 0 < lng X Y u a := by rw [lng_sw]; exact lu
    have lv' : 0 < lng X Y v a := by rw [lng_sw]; exact lv
    exact dt_ne h2 lu' lv'
  refine Int.not_le.mp fun z => ?_
  have hneg : dt X Y a u v < 0 := by omega
  -- cross (d, u) times |v|^2 is cross (d, v) times dt, as u and v are in one line
  have k1 : (p * (Y u - Y a) - q * (X u - X a)) * lng X Y a v = (p * (Y v - Y a) - q * (X v - X a)) * dt X Y a u v := by
    unfold sd dt lng at *
    grind
  have k2 : (p * (X u - X a) + q * (Y u - Y a)) * lng X Y a v = (p * (X v - X a) + q * (Y v - Y a)) * dt X Y a u v := by
    unfold sd dt lng at *
    grind
  have k3 : (p * (Y v - Y a) - q * (X v - X a)) * (p * (Y v - Y a) - q * (X v - X a)) + (p * (X v - X a) + q * (Y v - Y a)) * (p * (X v - X a) + q * (Y v - Y a)) = (p * p + q * q) * lng X Y a v := by
    unfold lng
    grind
  have pp : 0 < p * p + q * q := by
    have h1 := sq_nn p
    have h2 := sq_nn q
    rcases hpq with w | w
    · have : 0 < p * p := by
        rcases Int.lt_or_gt_of_ne w with g | g
        · exact Int.mul_pos_of_neg_of_neg g g
        · exact Int.mul_pos g g
      omega
    · have : 0 < q * q := by
        rcases Int.lt_or_gt_of_ne w with g | g
        · exact Int.mul_pos_of_neg_of_neg g g
        · exact Int.mul_pos g g
      omega
  have cu : 0 ≤ p * (Y u - Y a) - q * (X u - X a) := by rcases e u hu with w | w <;> omega
  have cv : 0 ≤ p * (Y v - Y a) - q * (X v - X a) := by rcases e v hv with w | w <;> omega
  have z1 : p * (Y v - Y a) - q * (X v - X a) = 0 := by
    refine Classical.byContradiction fun w => ?_
    have m1 := Int.mul_neg_of_pos_of_neg (show 0 < p * (Y v - Y a) - q * (X v - X a) by omega) hneg
    have m2 := Int.mul_nonneg cu (show 0 ≤ lng X Y a v by omega)
    omega
  have z2 : p * (Y u - Y a) - q * (X u - X a) = 0 := by
    rw [z1, Int.zero_mul] at k1
    rcases Int.mul_eq_zero.mp k1 with w | w
    · exact w
    · omega
  have du : p * (X u - X a) + q * (Y u - Y a) ≤ 0 := by rcases e u hu with w | w <;> omega
  have dv : p * (X v - X a) + q * (Y v - Y a) ≤ 0 := by rcases e v hv with w | w <;> omega
  have dv0 : p * (X v - X a) + q * (Y v - Y a) ≠ 0 := fun w => by
    rw [z1, w] at k3
    have := Int.mul_pos pp lv
    omega
  have m1 := Int.mul_pos_of_neg_of_neg (show p * (X v - X a) + q * (Y v - Y a) < 0 by omega) hneg
  rw [← k2] at m1
  have m2 := Int.mul_nonneg (show 0 ≤ -(p * (X u - X a) + q * (Y u - Y a)) by omega) (show 0 ≤ lng X Y a v by omega)
  rw [Int.neg_mul] at m2
  omega
/-- round a corner at the edge, to the left of goes on -/
theorem Edg.tr {n : Nat} {X Y : Nat → Int} {a : Nat} (hD : Dst n X Y) (hE : EdgX n X Y a) {u v w : Nat} (hu : u < n) (hv : v < n) (hw : w < n) (hva : v ≠ a) (h1 : 0 ≤ sd X Y a u v) (h2 : 0 ≤ sd X Y a v w) : 0 ≤ sd X Y a u w := by
  obtain ⟨ha, p, q, hpq, e⟩ := id hE
  have k : (p * (Y v - Y a) - q * (X v - X a)) * sd X Y a u w = (p * (Y u - Y a) - q * (X u - X a)) * sd X Y a v w + (p * (Y w - Y a) - q * (X w - X a)) * sd X Y a u v := by
    unfold sd
    grind
  have cu : 0 ≤ p * (Y u - Y a) - q * (X u - X a) := by rcases e u hu with z | z <;> omega
  have cw : 0 ≤ p * (Y w - Y a) - q * (X w - X a) := by rcases e w hw with z | z <;> omega
  have m1 := Int.mul_nonneg cu h2
  have m2 := Int.mul_nonneg cw h1
  rcases e v hv with z | ⟨z, zd⟩
  · exact nn_of z (by omega)
  · -- v lies at the back of d: then w does too
    have lv := hD a v ha hv (Ne.symm hva)
    have k1 : sd X Y a v w * (p * p + q * q) = (p * (X v - X a) + q * (Y v - Y a)) * (p * (Y w - Y a) - q * (X w - X a)) - (p * (Y v - Y a) - q * (X v - X a)) * (p * (X w - X a) + q * (Y w - Y a)) := by
      unfold sd
      grind
    have k3 : (p * (Y v - Y a) - q * (X v - X a)) * (p * (Y v - Y a) - q * (X v - X a)) + (p * (X v - X a) + q * (Y v - Y a)) * (p * (X v - X a) + q * (Y v - Y a)) = (p * p + q * q) * lng X Y a v := by
      unfold lng
      grind
    have pp : 0 ≤ p * p + q * q := by
      have h1 := sq_nn p
      have h2 := sq_nn q
      omega
    have pp0 : p * p + q * q ≠ 0 := fun z0 => by
      have h1 := sq_nn p
      have h2 := sq_nn q
      have e1 : p * p = 0 := by omega
      have e2 : q * q = 0 := by omega
      rcases hpq with g | g
      · rcases Int.mul_eq_zero.mp e1 with y | y <;> exact g y
      · rcases Int.mul_eq_zero.mp e2 with y | y <;> exact g y
    have dv0 : p * (X v - X a) + q * (Y v - Y a) ≠ 0 := fun y => by
      rw [z, y] at k3
      have := Int.mul_pos (show 0 < p * p + q * q by omega) lv
      omega
    rw [z] at k1
    have m3 := Int.mul_nonneg h2 pp
    have cw0 : p * (Y w - Y a) - q * (X w - X a) = 0 := by
      refine Classical.byContradiction fun y => ?_
      have := Int.mul_neg_of_neg_of_pos (show p * (X v - X a) + q * (Y v - Y a) < 0 by omega) (show 0 < p * (Y w - Y a) - q * (X w - X a) by omega)
      omega
    have dw : p * (X w - X a) + q * (Y w - Y a) ≤ 0 := by rcases e w hw with y | y <;> omega
    have k4 : sd X Y a u w * (p * (X v - X a) + q * (Y v - Y a)) = sd X Y a u v * (p * (X w - X a) + q * (Y w - Y a)) := by
      have f1 : sd X Y a u w * (p * p + q * q) = (p * (X u - X a) + q * (Y u - Y a)) * (p * (Y w - Y a) - q * (X w - X a)) - (p * (Y u - Y a) - q * (X u - X a)) * (p * (X w - X a) + q * (Y w - Y a)) := by unfold sd; grind
      have f2 : sd X Y a u v * (p * p + q * q) = (p * (X u - X a) + q * (Y u - Y a)) * (p * (Y v - Y a) - q * (X v - X a)) - (p * (Y u - Y a) - q * (X u - X a)) * (p * (X v - X a) + q * (Y v - Y a)) := by unfold sd; grind
      rw [cw0] at f1
      rw [z] at f2
      refine (eqk pp0).mp ?_
      have f3 : (p * p + q * q) * (sd X Y a u w * (p * (X v - X a) + q * (Y v - Y a))) = (sd X Y a u w * (p * p + q * q)) * (p * (X v - X a) + q * (Y v - Y a)) := by grind
      have f4 : (p * p + q * q) * (sd X Y a u v * (p * (X w - X a) + q * (Y w - Y a))) = (sd X Y a u v * (p * p + q * q)) * (p * (X w - X a) + q * (Y w - Y a)) := by grind
      rw [f3, f4, f1, f2]
      grind
    have m4 := Int.mul_nonneg h1 (show 0 ≤ -(p * (X w - X a) + q * (Y w - Y a)) by omega)
    rw [Int.mul_neg] at m4
    refine nn_of (k := -(p * (X v - X a) + q * (Y v - Y a))) (by omega) ?_
    rw [Int.neg_mul, Int.mul_comm]
    omega
