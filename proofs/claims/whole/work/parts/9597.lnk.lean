/-! Sound fields of the reference, told by points. -/
def hat (X Y : Nat → Int) : Nat → V3 := fun k => (X k, Y k, 1)
theorem hat_dv (X Y : Nat → Int) (a b c : Nat) : dv (hat X Y a) (hat X Y b) (hat X Y c) = sd X Y a b c := by
  unfold dv hat sd
  simp only
  grind
theorem hat_ne {n : Nat} {X Y : Nat → Int} (hD : Dst n X Y) {i j : Nat} (hi : i < n) (hj : j < n) (h : i ≠ j) : hat X Y i ≠ hat X Y j := fun e => by
  have := hD i j hi hj h
  have e1 := congrArg (fun z : V3 => z.1) e
  have e2 := congrArg (fun z : V3 => z.2.1) e
  simp only [hat] at e1 e2
  unfold lng at this
  rw [e1, e2] at this
  simp at this
/-- the weights of a common point, along the axes -/
theorem cb_xy {X Y : Nat → Int} {a b c d : Nat} {i j k l : Int} (e : cb i (hat X Y a) j (hat X Y b) = cb k (hat X Y c) l (hat X Y d)) : i * X a + j * X b = k * X c + l * X d ∧ i * Y a + j * Y b = k * Y c + l * Y d ∧ i + j = k + l := by
  have e1 := congrArg (fun z : V3 => z.1) e
  have e2 := congrArg (fun z : V3 => z.2.1) e
  have e3 := congrArg (fun z : V3 => z.2.2) e
  simp only [cb, hat, Int.mul_one] at e1 e2 e3
  exact ⟨e1, e2, e3⟩
theorem cb_of {X Y : Nat → Int} {a b c d : Nat} {i j k l : Int} (h1 : i * X a + j * X b = k * X c + l * X d) (h2 : i * Y a + j * Y b = k * Y c + l * Y d) (h3 : i + j = k + l) : cb i (hat X Y a) j (hat X Y b) = cb k (hat X Y c) l (hat X Y d) := by
  unfold cb hat
  refine v3_ext ?_ ?_ ?_ <;> simp only [Int.mul_one]
  · exact h1
  · exact h2
  · exact h3
theorem cl_adj {X Y : Nat → Int} {a b c : Nat} (hab : 0 < lng X Y a b) (hbc : 0 < lng X Y b c) (hb : ¬ (sd X Y a b c = 0 ∧ 0 < dt X Y b a c)) : Cl (hat X Y a) (hat X Y b) (hat X Y b) (hat X Y c) := fun i j k l hi hj hk hl e => by
  obtain ⟨e1, e2, e3⟩ := cb_xy e
  have x1 : i * (X a - X b) = l * (X c - X b) := by grind
  have x2 : i * (Y a - Y b) = l * (Y c - Y b) := by grind
  by_cases i0 : i = 0
  · subst i0
    refine ⟨Or.inl rfl, Or.inr (Classical.byContradiction fun l0 => ?_)⟩
    have y1 : X c - X b = 0 := by
      rcases Int.mul_eq_zero.mp (show l * (X c - X b) = 0 by omega) with w | w
      · exact absurd w l0
      · exact w
    have y2 : Y c - Y b = 0 := by
      rcases Int.mul_eq_zero.mp (show l * (Y c - Y b) = 0 by omega) with w | w
      · exact absurd w l0
      · exact w
    unfold lng at hbc
    rw [show X b - X c = 0 by omega, show Y b - Y c = 0 by omega] at hbc
    simp at hbc
  · by_cases l0 : l = 0
    · exfalso
      subst l0
      have y1 : X a - X b = 0 := by
        rcases Int.mul_eq_zero.mp (show i * (X a - X b) = 0 by omega) with w | w
        · exact absurd w i0
        · exact w
      have y2 : Y a - Y b = 0 := by
        rcases Int.mul_eq_zero.mp (show i * (Y a - Y b) = 0 by omega) with w | w
        · exact absurd w i0
        · exact w
      unfold lng at hab
      rw [y1, y2] at hab
      simp at hab
    · exfalso
      have s0 : i * sd X Y a b c = 0 := by unfold sd; grind
      have s1 : i * dt X Y b a c = l * lng X Y b c := by unfold dt lng; grind
      have l1 := Int.mul_pos (show 0 < l by omega) hbc
      refine hb ⟨?_, ?_⟩
      · rcases Int.mul_eq_zero.mp s0 with w | w
        · exact absurd w i0
        · exact w
      · rw [← s1] at l1
        exact (pos_mul (show 0 < i by omega)).mp l1
/-- a corner on a segment -/
theorem on_bt {X Y : Nat → Int} {a c d : Nat} {i k l : Int} (hi : 0 < i) (hk : 0 ≤ k) (hl : 0 ≤ l) (e1 : i * X a = k * X c + l * X d) (e2 : i * Y a = k * Y c + l * Y d) (e3 : i = k + l) : sd X Y c d a = 0 ∧ btM X Y c d a = true := by
  have s0 : i * sd X Y c d a = 0 := by unfold sd; grind
  refine ⟨?_, ?_⟩
  · rcases Int.mul_eq_zero.mp s0 with w | w
    · omega
    · exact w
  · have ii := Int.mul_pos hi hi
    have kl := Int.mul_nonneg hk hl
    have sq : ∀ z : Int, 0 ≤ z * z := fun z => by rcases Int.le_total 0 z with y | y; exact Int.mul_nonneg y y; exact Int.mul_nonneg_of_nonpos_of_nonpos y y
    have b1 : (i * i) * ((X a - X c) * (X a - X d)) = -((k * l) * ((X d - X c) * (X d - X c))) := by
      have w1 : i * (X a - X c) = l * (X d - X c) := by grind
      have w2 : i * (X a - X d) = k * (X c - X d) := by grind
      grind
    have b2 : (i * i) * ((Y a - Y c) * (Y a - Y d)) = -((k * l) * ((Y d - Y c) * (Y d - Y c))) := by
      have w1 : i * (Y a - Y c) = l * (Y d - Y c) := by grind
      have w2 : i * (Y a - Y d) = k * (Y c - Y d) := by grind
      grind
    have c1 := Int.mul_nonneg kl (sq (X d - X c))
    have c2 := Int.mul_nonneg kl (sq (Y d - Y c))
    unfold btM
    rw [Bool.and_eq_true, decide_eq_true_eq, decide_eq_true_eq]
    exact ⟨(le_mul ii).mp (by omega), (le_mul ii).mp (by omega)⟩
theorem cl_far {X Y : Nat → Int} {a b c d : Nat} (hcd : 0 < lng X Y c d) (hab : 0 < lng X Y a b) (hac : 0 < lng X Y a c) (had : 0 < lng X Y a d) (hbc : 0 < lng X Y b c) (hbd : 0 < lng X Y b d) (h : meM X Y a b c d = false) : Cl (hat X Y a) (hat X Y b) (hat X Y c) (hat X Y d) := fun i j k l hi hj hk hl e => by
  obtain ⟨e1, e2, e3⟩ := cb_xy e
  by_cases z : i + j = 0
  · exact ⟨Or.inl (by omega), Or.inl (by omega)⟩
  exfalso
  unfold meM at h
  simp only [Bool.or_eq_false_iff] at h
  obtain ⟨⟨⟨⟨h1, h2⟩, h3⟩, h4⟩, h5⟩ := h
  have k1 : j ≠ 0 := fun j0 => by
    subst j0
    obtain ⟨p, q⟩ := on_bt (X := X) (Y := Y) (a := a) (c := c) (d := d) (i := i) (k := k) (l := l) (by omega) hk hl (by omega) (by omega) (by omega)
    rw [decide_eq_true p, q] at h3; cases h3
  have k2 : i ≠ 0 := fun j0 => by
    subst j0
    obtain ⟨p, q⟩ := on_bt (X := X) (Y := Y) (a := b) (c := c) (d := d) (i := j) (k := k) (l := l) (by omega) hk hl (by omega) (by omega) (by omega)
    rw [decide_eq_true p, q] at h4; cases h4
  have k3 : l ≠ 0 := fun j0 => by
    subst j0
    obtain ⟨p, q⟩ := on_bt (X := X) (Y := Y) (a := c) (c := a) (d := b) (i := k) (k := i) (l := j) (by omega) hi hj (by omega) (by omega) (by omega)
    rw [decide_eq_true p, q] at h1; cases h1
  have k4 : k ≠ 0 := fun j0 => by
    subst j0
    obtain ⟨p, q⟩ := on_bt (X := X) (Y := Y) (a := d) (c := a) (d := b) (i := l) (k := i) (l := j) (by omega) hi hj (by omega) (by omega) (by omega)
    rw [decide_eq_true p, q] at h2; cases h2
  have f1 : i * sd X Y c d a + j * sd X Y c d b = 0 := by unfold sd; grind
  have f2 : k * sd X Y a b c + l * sd X Y a b d = 0 := by unfold sd; grind
  have f3 : sd X Y a b c - sd X Y a b d = sd X Y c d b - sd X Y c d a := by unfold sd; grind
  have pn : ∀ {x y u v : Int}, 0 < x → 0 < y → x * u + y * v = 0 → u ≠ 0 → u * v < 0 := fun {x y u v} hx hy w u0 => by
    rcases Int.lt_or_gt_of_ne u0 with q | q
    · have := Int.mul_neg_of_pos_of_neg hx q
      exact Int.mul_neg_of_neg_of_pos q ((pos_mul hy).mp (by omega))
    · have := Int.mul_pos hx q
      exact Int.mul_neg_of_pos_of_neg q ((neg_mul' hy).mp (by omega))
  by_cases fz : sd X Y c d a = 0
  · have gz : sd X Y c d b = 0 := by
      rw [fz, Int.mul_zero, Int.zero_add] at f1
      rcases Int.mul_eq_zero.mp f1 with w | w
      · omega
      · exact w
    have fz' : sd X Y a b c = 0 ∧ sd X Y a b d = 0 := by
      have e4 : sd X Y a b c = sd X Y a b d := by omega
      have e5 : (k + l) * sd X Y a b d = 0 := by rw [Int.add_mul]; rw [e4] at f2; exact f2
      rcases Int.mul_eq_zero.mp e5 with w | w
      · omega
      · exact ⟨by omega, w⟩
    -- all on one line
    have bt1 : btw X Y c d a = false := by rw [btw_eq (by rw [lng_sw]; exact hac) (by rw [lng_sw]; exact had)]; exact h3
    have bt2 : btw X Y c d b = false := by rw [btw_eq (by rw [lng_sw]; exact hbc) (by rw [lng_sw]; exact hbd)]; exact h4
    have bt3 : btw X Y a b c = false := by rw [btw_eq hac hbc]; exact h1
    have p1 : ¬ (0 < prt X Y c d a ∧ prt X Y c d a < lng X Y c d) := fun q => by
      rw [← Bool.not_eq_true, btw_p hcd] at bt1
      exact bt1 ⟨fz, q⟩
    have p2 : ¬ (0 < prt X Y c d b ∧ prt X Y c d b < lng X Y c d) := fun q => by
      rw [← Bool.not_eq_true, btw_p hcd] at bt2
      exact bt2 ⟨gz, q⟩
    have p3 : i * prt X Y c d a + j * prt X Y c d b = l * lng X Y c d := by unfold prt lng; grind
    have lg := lag X Y c d a b c
    have c0 : prt X Y c d c = 0 := by unfold prt; grind
    have c1 : sd X Y c d c = 0 := by unfold sd; grind
    rw [fz, gz, c0, c1] at lg
    simp only [Int.sub_zero, Int.mul_zero, Int.add_zero] at lg
    have q1 : ∀ u, u ≠ c → 0 < lng X Y u c → sd X Y c d u = 0 → prt X Y c d u ≠ 0 := fun u _ hu s p => by
      have e : lng X Y u c * lng X Y c d = prt X Y c d u * prt X Y c d u + sd X Y c d u * sd X Y c d u := by unfold lng prt sd; grind
      rw [s, p] at e
      have := Int.mul_pos hu hcd
      omega
    have ac : a ≠ c := fun z => by rw [z] at hac; unfold lng at hac; simp at hac
    have bc : b ≠ c := fun z => by rw [z] at hbc; unfold lng at hbc; simp at hbc
    have a0 := q1 a ac hac fz
    have b0 := q1 b bc hbc gz
    have LL := Int.mul_pos (show 0 < l by omega) hcd
    have KK := Int.mul_pos (show 0 < k by omega) hcd
    have fin : prt X Y c d a * prt X Y c d b < 0 → False := fun w => by
      rw [← lg] at w
      have := neg_of_mul hcd w
      unfold btw at bt3
      rw [decide_eq_true fz'.1, decide_eq_true this] at bt3
      cases bt3
    rcases Int.lt_or_gt_of_ne a0 with x | x <;> rcases Int.lt_or_gt_of_ne b0 with y | y
    · have := Int.mul_neg_of_pos_of_neg (show 0 < i by omega) x
      have := Int.mul_neg_of_pos_of_neg (show 0 < j by omega) y
      omega
    · exact fin (Int.mul_neg_of_neg_of_pos x y)
    · exact fin (Int.mul_neg_of_pos_of_neg x y)
    · have u1 := Int.mul_le_mul_of_nonneg_left (show lng X Y c d ≤ prt X Y c d a by omega) hi
      have u2 := Int.mul_le_mul_of_nonneg_left (show lng X Y c d ≤ prt X Y c d b by omega) hj
      have u3 : (i + j) * lng X Y c d = (k + l) * lng X Y c d := by rw [e3]
      rw [Int.add_mul, Int.add_mul] at u3
      omega
  · have n1 := pn (show 0 < i by omega) (show 0 < j by omega) f1 fz
    have fz' : sd X Y a b c ≠ 0 := fun w => by
      rw [w, Int.mul_zero, Int.zero_add] at f2
      have : sd X Y a b d = 0 := by
        rcases Int.mul_eq_zero.mp f2 with t | t
        · omega
        · exact t
      have e4 : sd X Y c d b = sd X Y c d a := by omega
      rw [e4] at n1
      rcases Int.lt_or_gt_of_ne fz with t | t
      · have := Int.mul_pos_of_neg_of_neg t t; omega
      · have := Int.mul_pos t t; omega
    have n2 := pn (show 0 < k by omega) (show 0 < l by omega) f2 fz'
    rw [decide_eq_true ((sgn_mul _ _).mpr n2), decide_eq_true ((sgn_mul _ _).mpr n1)] at h5
    cases h5
theorem SndF.sn {n : Nat} {X Y : Nat → Int} (h : SndF n X Y) : SnG n (hat X Y) := by
  obtain ⟨h3, hR, hD, hb, hm⟩ := id h
  refine ⟨h3, fun k hk => rfl, fun k hk => hR k hk, fun i j hi hj hij => hat_ne hD hi hj hij, fun e k he hk ek => ?_⟩
  have ne := nx_ne (show 2 ≤ n by omega) he
  have nk := nx_ne (show 2 ≤ n by omega) hk
  by_cases a1 : k = nx n e
  · subst a1
    have := hb e he
    refine cl_adj (hD _ _ he hk (Ne.symm ne)) (hD _ _ hk (nx_lt hk) (Ne.symm nk)) this
  · by_cases a2 : nx n k = e
    · have w := cl_adj (X := X) (Y := Y) (hD _ _ hk (nx_lt hk) (Ne.symm nk)) (by rw [a2]; exact hD _ _ he (nx_lt he) (Ne.symm ne)) (hb k hk)
      rw [a2] at w
      rw [a2]
      exact w.sw
    · have d : nx n e ≠ nx n k := fun z => ek (nx_inj he hk z)
      exact cl_far (hD _ _ hk (nx_lt hk) (Ne.symm nk)) (hD _ _ he (nx_lt he) (Ne.symm ne)) (hD _ _ he hk ek) (hD _ _ he (nx_lt hk) (Ne.symm a2)) (hD _ _ (nx_lt he) hk (Ne.symm a1)) (hD _ _ (nx_lt he) (nx_lt hk) d) (hm e k he hk ek a1 a2)
