/-! Sight of the reference: its meets are the points on fences. -/
theorem cb_lift {X Y : Nat → Int} {c o x m : Nat} (hs : sd X Y c o x = 0) : cb (lng X Y c o - prt X Y c o x) (hat X Y c) (prt X Y c o x) (hat X Y o) = cb (lng X Y c o) (hat X Y x) 0 (hat X Y m) := by
  refine cb_of ?_ ?_ ?_
  · have : lng X Y c o * (X x - X c) = prt X Y c o x * (X o - X c) - sd X Y c o x * (Y o - Y c) := by unfold lng prt sd; grind
    rw [hs] at this
    grind
  · have : lng X Y c o * (Y x - Y c) = prt X Y c o x * (Y o - Y c) + sd X Y c o x * (X o - X c) := by unfold lng prt sd; grind
    rw [hs] at this
    grind
  · omega
theorem col_in {X Y : Nat → Int} {a b c d : Nat} (hab : 0 < lng X Y a b) (h1 : sd X Y a b c = 0) (h2 : sd X Y a b d = 0) : sd X Y c d a = 0 ∧ sd X Y c d b = 0 := by
  have e0 : sd X Y c d a = sd X Y c d b := by
    have : sd X Y c d a - sd X Y c d b = sd X Y a b d - sd X Y a b c := by unfold sd; grind
    omega
  have e1 : sd X Y c d a * X b - sd X Y c d b * X a = sd X Y a b d * X c - sd X Y a b c * X d := by unfold sd; grind
  have e2 : sd X Y c d a * Y b - sd X Y c d b * Y a = sd X Y a b d * Y c - sd X Y a b c * Y d := by unfold sd; grind
  rw [h1, h2, ← e0] at e1 e2
  have e3 : sd X Y c d a * lng X Y a b = 0 := by unfold lng; grind
  have : sd X Y c d a = 0 := by
    rcases Int.mul_eq_zero.mp e3 with w | w
    · exact w
    · omega
  exact ⟨this, by omega⟩
theorem sgn_le {u v : Int} : sgn u * sgn v ≤ 0 ↔ u * v ≤ 0 := by
  rcases Int.lt_trichotomy u 0 with a | a | a <;> rcases Int.lt_trichotomy v 0 with b | b | b
  · have := Int.mul_pos_of_neg_of_neg a b
    unfold sgn
    rw [if_pos a, if_pos b]
    omega
  · subst b
    unfold sgn; simp
  · have := (sgn_mul u v).mpr (Int.mul_neg_of_neg_of_pos a b)
    have := Int.mul_neg_of_neg_of_pos a b
    omega
  · subst a
    unfold sgn; simp
  · subst a
    unfold sgn; simp
  · subst a
    unfold sgn; simp
  · have := (sgn_mul u v).mpr (Int.mul_neg_of_pos_of_neg a b)
    have := Int.mul_neg_of_pos_of_neg a b
    omega
  · subst b
    unfold sgn; simp
  · have := Int.mul_pos a b
    unfold sgn
    rw [if_neg (by omega), if_neg (by omega), if_neg (by omega), if_neg (by omega)]
    omega
/-- every meet lies on a fence -/
theorem mt_on {X Y : Nat → Int} {n c o : Nat} (hD : Dst n X Y) (h2 : 2 ≤ n) (hc : c < n) (ho : o < n) (hco : c ≠ o) {r : Int × Int} (hr : r ∈ mtR X Y n c o) : 0 < r.2 ∧ 0 ≤ r.1 ∧ r.1 ≤ r.2 ∧ ∃ k, k < n ∧ ∃ x y : Int, ∃ i : Int, 0 < i ∧ 0 ≤ x ∧ 0 ≤ y ∧ cb (i * (r.2 - r.1)) (hat X Y c) (i * r.1) (hat X Y o) = cb x (hat X Y k) y (hat X Y (nx n k)) := by
  have hL := hD c o hc ho hco
  rcases mem_mt.mp hr with ⟨k, hk, ⟨b1, b2⟩, w⟩ | rfl | rfl
  · have hk2 := nx_lt hk
    have lk := hD k (nx n k) hk hk2 (Ne.symm (nx_ne h2 hk))
    rcases w with ⟨w1, w2, w3⟩ | ⟨w1, w2, w3⟩
    · obtain ⟨c1, c2⟩ := col_in (c := c) (d := o) lk w2 (by omega)
      rcases w3 with rfl | rfl
      · refine ⟨hL, b1, b2, k, hk, lng X Y c o, 0, 1, by omega, by omega, by omega, ?_⟩
        simp only [Int.one_mul]
        exact cb_lift c1
      · refine ⟨hL, b1, b2, k, hk, 0, lng X Y c o, 1, by omega, by omega, by omega, ?_⟩
        simp only [Int.one_mul]
        rw [cb_lift (m := k) c2, cb_sw]
    · rw [sgn_le] at w2
      have f := four (hat X Y c) (hat X Y o) (hat X Y k) (hat X Y (nx n k))
      have f3 := four3 (A := hat X Y c) (B := hat X Y o) (p := hat X Y k) (q := hat X Y (nx n k)) rfl rfl
      rw [hat_dv, hat_dv, hat_dv, hat_dv] at f f3
      have g3 : sd X Y c o k - sd X Y c o (nx n k) = sd X Y k (nx n k) o - sd X Y k (nx n k) c := by
        have : (hat X Y c).2.2 = 1 := rfl
        have : (hat X Y o).2.2 = 1 := rfl
        simp only [hat, Int.mul_one] at f3
        exact f3
      rw [w3] at b1 b2
      by_cases lt : sd X Y k (nx n k) c < sd X Y k (nx n k) o
      · rw [w3]
        simp only [if_pos lt] at b1 b2 ⊢
        have s : 0 ≤ sd X Y c o k ∧ sd X Y c o (nx n k) ≤ 0 := by
          by_cases z : 0 ≤ sd X Y c o k
          · refine ⟨z, Int.not_lt.mp fun q => ?_⟩
            have := Int.mul_pos (show 0 < sd X Y c o k by omega) q
            omega
          · have := Int.mul_pos_of_neg_of_neg (show sd X Y c o k < 0 by omega) (show sd X Y c o (nx n k) < 0 by omega)
            omega
        refine ⟨by omega, b1, b2, k, hk, -sd X Y c o (nx n k), sd X Y c o k, 1, by omega, by omega, by omega, ?_⟩
        rw [Int.one_mul, Int.one_mul, show sd X Y k (nx n k) o - sd X Y k (nx n k) c - -sd X Y k (nx n k) c = sd X Y k (nx n k) o by omega, ← f, cb_sw]
      · rw [w3]
        simp only [if_neg lt] at b1 b2 ⊢
        have s : sd X Y c o k ≤ 0 ∧ 0 ≤ sd X Y c o (nx n k) := by
          by_cases z : sd X Y c o k ≤ 0
          · refine ⟨z, Int.not_lt.mp fun q => ?_⟩
            have := Int.mul_pos_of_neg_of_neg (show sd X Y c o k < 0 by omega) q
            omega
          · have := Int.mul_pos (show 0 < sd X Y c o k by omega) (show 0 < sd X Y c o (nx n k) by omega)
            omega
        refine ⟨by omega, b1, b2, k, hk, sd X Y c o (nx n k), -sd X Y c o k, 1, by omega, by omega, by omega, ?_⟩
        have g := cb_neg f
        rw [Int.neg_neg, Int.neg_neg] at g
        rw [Int.one_mul, Int.one_mul, show sd X Y k (nx n k) c - sd X Y k (nx n k) o - sd X Y k (nx n k) c = -sd X Y k (nx n k) o by omega, ← g, cb_sw]
  · refine ⟨by decide, by decide, by decide, o, ho, 1, 0, 1, by omega, by omega, by omega, ?_⟩
    refine cb_of ?_ ?_ ?_ <;> simp
  · refine ⟨by decide, by decide, by decide, c, hc, 1, 0, 1, by omega, by omega, by omega, ?_⟩
    refine cb_of ?_ ?_ ?_ <;> simp
/-- a point on a fence is a meet, or the fence lies along -/
theorem pv_of {X Y : Nat → Int} {n c o : Nat} {k : Nat} (hk : k < n) {i j x y : Int} (hi : 0 ≤ i) (hj : 0 ≤ j) (hij : 0 < i + j) (hx : 0 ≤ x) (hy : 0 ≤ y) (e : cb i (hat X Y c) j (hat X Y o) = cb x (hat X Y k) y (hat X Y (nx n k))) : (sd X Y k (nx n k) c = 0 ∧ sd X Y k (nx n k) o = 0) ∨ ∃ r, r ∈ mtR X Y n c o ∧ r.1 * (i + j) = j * r.2 := by
  have e1 := congrArg (dv (hat X Y k) (hat X Y (nx n k))) e
  rw [dv_cb, dv_cb, dv_1, dv_2, hat_dv, hat_dv] at e1
  have e2 := congrArg (dv (hat X Y c) (hat X Y o)) e
  rw [dv_cb, dv_cb, dv_1, dv_2, hat_dv, hat_dv] at e2
  have e3 := (cb_xy e).2.2
  generalize hsc : sd X Y k (nx n k) c = sc at *
  generalize hso : sd X Y k (nx n k) o = so at *
  have w1 : i * sc + j * so = 0 := by omega
  have w2 : x * sd X Y c o k + y * sd X Y c o (nx n k) = 0 := by omega
  by_cases q : sc = so
  · left
    rw [q, ← Int.add_mul] at w1
    rcases Int.mul_eq_zero.mp w1 with z | z <;> omega
  · right
    have t : sgn (sd X Y c o k) * sgn (sd X Y c o (nx n k)) ≤ 0 := by
      rw [sgn_le]
      refine Int.not_lt.mp fun z => ?_
      generalize sd X Y c o k = u at *
      generalize sd X Y c o (nx n k) = v at *
      rcases Int.lt_trichotomy u 0 with a | a | a
      · have b : v < 0 := Int.not_le.mp fun b => by have := Int.mul_nonpos_of_nonpos_of_nonneg (show u ≤ 0 by omega) b; omega
        have m1 := Int.mul_nonpos_of_nonneg_of_nonpos hx (show u ≤ 0 by omega)
        have m2 := Int.mul_nonpos_of_nonneg_of_nonpos hy (show v ≤ 0 by omega)
        have m3 : x = 0 := by rcases Int.mul_eq_zero.mp (show x * u = 0 by omega) with s | s <;> omega
        have m4 : y = 0 := by rcases Int.mul_eq_zero.mp (show y * v = 0 by omega) with s | s <;> omega
        omega
      · rw [a, Int.zero_mul] at z; omega
      · have b : 0 < v := Int.not_le.mp fun b => by have := Int.mul_nonpos_of_nonneg_of_nonpos (show 0 ≤ u by omega) b; omega
        have m1 := Int.mul_nonneg hx (show 0 ≤ u by omega)
        have m2 := Int.mul_nonneg hy (show 0 ≤ v by omega)
        have m3 : x = 0 := by rcases Int.mul_eq_zero.mp (show x * u = 0 by omega) with s | s <;> omega
        have m4 : y = 0 := by rcases Int.mul_eq_zero.mp (show y * v = 0 by omega) with s | s <;> omega
        omega
    have sg : (sc ≤ 0 ∧ 0 ≤ so) ∨ (0 ≤ sc ∧ so ≤ 0) := by
      refine Classical.byContradiction fun z => ?_
      have : (0 < sc ∧ 0 < so) ∨ (sc < 0 ∧ so < 0) := by omega
      rcases this with ⟨a, b⟩ | ⟨a, b⟩
      · have m1 := Int.mul_nonneg hi (show 0 ≤ sc by omega)
        have m2 := Int.mul_nonneg hj (show 0 ≤ so by omega)
        have m3 : i = 0 := by rcases Int.mul_eq_zero.mp (show i * sc = 0 by omega) with s | s <;> omega
        have m4 : j = 0 := by rcases Int.mul_eq_zero.mp (show j * so = 0 by omega) with s | s <;> omega
        omega
      · have m1 := Int.mul_nonpos_of_nonneg_of_nonpos hi (show sc ≤ 0 by omega)
        have m2 := Int.mul_nonpos_of_nonneg_of_nonpos hj (show so ≤ 0 by omega)
        have m3 : i = 0 := by rcases Int.mul_eq_zero.mp (show i * sc = 0 by omega) with s | s <;> omega
        have m4 : j = 0 := by rcases Int.mul_eq_zero.mp (show j * so = 0 by omega) with s | s <;> omega
        omega
    refine ⟨(if sc < so then -sc else sc, if sc < so then so - sc else sc - so), mem_mt.mpr (Or.inl ⟨k, hk, ?_, Or.inr ⟨by rw [hsc, hso]; exact q, t, by rw [hsc, hso]⟩⟩), ?_⟩
    · simp only
      (repeat' split) <;> omega
    · simp only
      split
      · grind
      · grind
/-- every corner on the segment is a meet -/
theorem pv_cor {X Y : Nat → Int} {n c o : Nat} (hD : Dst n X Y) (h2 : 2 ≤ n) (hc : c < n) (ho : o < n) (hco : c ≠ o) {x : Nat} (hx : x < n) (s : sd X Y c o x = 0) (p1 : 0 ≤ prt X Y c o x) (p2 : prt X Y c o x ≤ lng X Y c o) : ∃ r, r ∈ mtR X Y n c o ∧ r.1 * lng X Y c o = prt X Y c o x * r.2 := by
  have hL := hD c o hc ho hco
  rcases pv_of hx (show 0 ≤ lng X Y c o - prt X Y c o x by omega) p1 (by omega) (Int.le_of_lt hL) (Int.le_refl 0) (cb_lift (m := nx n x) s) with ⟨a, b⟩ | ⟨r, r1, r2⟩
  · exact ⟨(prt X Y c o x, lng X Y c o), mem_mt.mpr (Or.inl ⟨x, hx, ⟨p1, p2⟩, Or.inl ⟨by omega, a, Or.inl rfl⟩⟩), rfl⟩
  · exact ⟨r, r1, by rw [show lng X Y c o - prt X Y c o x + prt X Y c o x = lng X Y c o by omega] at r2; exact r2⟩
theorem pv_end {X Y : Nat → Int} {n c o : Nat} {k x : Nat} (hk : k < n) (hx : x = k ∨ x = nx n k) (s1 : sd X Y k (nx n k) c = 0) (s2 : sd X Y k (nx n k) o = 0) (p1 : 0 ≤ prt X Y c o x) (p2 : prt X Y c o x ≤ lng X Y c o) : (prt X Y c o x, lng X Y c o) ∈ mtR X Y n c o := by
  refine mem_mt.mpr (Or.inl ⟨k, hk, ⟨p1, p2⟩, Or.inl ⟨by omega, s1, ?_⟩⟩)
  rcases hx with rfl | rfl
  · exact Or.inl rfl
  · exact Or.inr rfl
