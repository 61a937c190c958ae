/-! Segments that touch nothing. -/
/-- no point of A B is one of p q -/
def Ft (A B p q : V3) : Prop := ∀ i j k l : Int, 0 ≤ i → 0 ≤ j → 0 ≤ k → 0 ≤ l → cb i A j B = cb k p l q → i = 0 ∧ j = 0
/-- P is no point of p q -/
def Nn (P p q : V3) : Prop := ∀ i k l : Int, 0 < i → 0 ≤ k → 0 ≤ l → cb i P 0 P ≠ cb k p l q
theorem cb_0 (i : Int) (A B C : V3) : cb i A 0 B = cb i A 0 C := by unfold cb; simp
theorem cb_sw (i : Int) (A : V3) (j : Int) (B : V3) : cb i A j B = cb j B i A := by
  unfold cb; refine v3_ext ?_ ?_ ?_ <;> simp only <;> omega
theorem Ft.a {A B p q : V3} (h : Ft A B p q) : Nn A p q := fun i k l hi hk hl e => by
  have := (h i 0 k l (by omega) (by omega) hk hl (by rw [cb_0 i A B A]; exact e)).1
  omega
theorem Ft.sw {A B p q : V3} (h : Ft A B p q) : Ft B A p q := fun i j k l hi hj hk hl e => by
  have := h j i k l hj hi hk hl (by rw [cb_sw]; exact e)
  omega
theorem Ft.b {A B p q : V3} (h : Ft A B p q) : Nn B p q := h.sw.a
theorem cb_3 {i j k l : Int} {A B p q : V3} (hp : p.2.2 = 1) (hq : q.2.2 = 1) (h : cb i A j B = cb k p l q) : i * A.2.2 + j * B.2.2 = k + l := by
  have := congrArg (fun z : V3 => z.2.2) h
  simp only [cb, hp, hq] at this
  omega
theorem four3 {A B p q : V3} (hp : p.2.2 = 1) (hq : q.2.2 = 1) : dv A B p - dv A B q = dv p q B * A.2.2 - dv p q A * B.2.2 := by
  have := congrArg (fun z : V3 => z.2.2) (four A B p q)
  simp only [cb, hp, hq] at this
  grind
theorem cb_neg {i j k l : Int} {A B p q : V3} (h : cb i A j B = cb k p l q) : cb (-i) A (-j) B = cb (-k) p (-l) q := by
  have h1 := congrArg (fun z : V3 => z.1) h
  have h2 := congrArg (fun z : V3 => z.2.1) h
  have h3 := congrArg (fun z : V3 => z.2.2) h
  simp only [cb] at h1 h2 h3
  unfold cb
  refine v3_ext ?_ ?_ ?_ <;> simp only [Int.neg_mul] <;> omega
theorem nt_a {A B p q : V3} (hA : 0 < A.2.2) (hp : p.2.2 = 1) (hq : q.2.2 = 1) (h : Nn A p q) (z : ¬ (dv A B p = 0 ∧ dv A B q = 0 ∧ dv p q A = 0 ∧ dv p q B = 0)) (s : dv p q A = 0) : 0 < dv A B p * dv A B q := by
  refine Int.not_le.mp fun c => ?_
  have f := four A B p q
  have f3 := four3 (A := A) (B := B) hp hq
  rw [s] at f f3
  rw [Int.zero_mul, Int.sub_zero] at f3
  have e : cb (dv p q B) A 0 A = cb (-(dv A B q)) p (dv A B p) q := by
    rw [cb_sw (-(dv A B q)), f, Int.neg_zero]; exact cb_0 ..
  rcases Int.lt_trichotomy (dv p q B) 0 with b | b | b
  · have e2 := cb_neg e
    rw [Int.neg_neg, Int.neg_zero] at e2
    have m := Int.mul_neg_of_neg_of_pos b hA
    have : 0 ≤ dv A B q ∧ dv A B p ≤ 0 := by
      by_cases x : dv A B p ≤ 0
      · refine ⟨?_, x⟩
        refine Int.not_lt.mp fun y => ?_
        have := Int.mul_pos_of_neg_of_neg (show dv A B p < 0 by omega) y
        omega
      · have y : 0 < dv A B q := by omega
        have := Int.mul_pos (show 0 < dv A B p by omega) y
        omega
    exact h _ _ _ (by omega) this.1 (by omega) e2
  · rw [b, Int.zero_mul] at f3
    refine z ⟨?_, ?_, s, b⟩
    · refine Classical.byContradiction fun y => ?_
      have e1 : dv A B p = dv A B q := by omega
      rw [e1] at c y
      rcases Int.lt_or_gt_of_ne y with w | w
      · have := Int.mul_pos_of_neg_of_neg w w; omega
      · have := Int.mul_pos w w; omega
    · refine Classical.byContradiction fun y => ?_
      have e1 : dv A B p = dv A B q := by omega
      rw [e1] at c
      rcases Int.lt_or_gt_of_ne y with w | w
      · have := Int.mul_pos_of_neg_of_neg w w; omega
      · have := Int.mul_pos w w; omega
  · have m := Int.mul_pos b hA
    have : dv A B q ≤ 0 ∧ 0 ≤ dv A B p := by
      by_cases x : 0 ≤ dv A B p
      · refine ⟨?_, x⟩
        refine Int.not_lt.mp fun y => ?_
        have := Int.mul_pos (show 0 < dv A B p by omega) y
        omega
      · have y : dv A B q < 0 := by omega
        have := Int.mul_pos_of_neg_of_neg (show dv A B p < 0 by omega) y
        omega
    exact h _ _ _ b (by omega) this.2 e
theorem nt_of {A B p q : V3} (hA : 0 < A.2.2) (hB : 0 < B.2.2) (hp : p.2.2 = 1) (hq : q.2.2 = 1) (h1 : Nn A p q) (h2 : Nn B p q) : nt A B p q := by
  by_cases z : dv A B p = 0 ∧ dv A B q = 0 ∧ dv p q A = 0 ∧ dv p q B = 0
  · exact Or.inl z
  · refine Or.inr ⟨nt_a hA hp hq h1 z, fun s => ?_⟩
    have := nt_a (A := B) (B := A) hB hp hq h2 (fun y => z ⟨by have := dv_sw A B p; omega, by have := dv_sw A B q; omega, y.2.2.2, y.2.2.1⟩) s
    rw [dv_sw A B p, dv_sw A B q, Int.neg_mul_neg] at this
    exact this
/-- where a fence is crossed there is a point of both -/
theorem hV_pt {s : Int} {A B p q : V3} (hA : 0 < A.2.2) (hB : 0 < B.2.2) (hp : p.2.2 = 1) (hq : q.2.2 = 1) (hs : s = 1 ∨ s = -1) (h : hV s A B p q = true) : ∃ i j k l : Int, 0 < i ∧ 0 < j ∧ 0 ≤ k ∧ 0 ≤ l ∧ cb i A j B = cb k p l q := by
  unfold hV hN at h
  rw [Bool.and_eq_true, decide_eq_true_eq] at h
  obtain ⟨h1, h2⟩ := h
  have f := four A B p q
  have f3 := four3 (A := A) (B := B) hp hq
  have e : cb (dv p q B) A (-(dv p q A)) B = cb (-(dv A B q)) p (dv A B p) q := by
    rw [cb_sw (-(dv A B q)), f]
  have tt : (0 ≤ dv A B p ∧ dv A B q ≤ 0) ∨ (dv A B p ≤ 0 ∧ 0 ≤ dv A B q) := by
    rcases hs with rfl | rfl
    · by_cases a : 1 * dv A B p < 0 <;> by_cases b : 1 * dv A B q < 0
      · rw [decide_eq_true a, decide_eq_true b] at h1; cases h1
      · right; omega
      · left; omega
      · rw [decide_eq_false a, decide_eq_false b] at h1; cases h1
    · by_cases a : -1 * dv A B p < 0 <;> by_cases b : -1 * dv A B q < 0
      · rw [decide_eq_true a, decide_eq_true b] at h1; cases h1
      · left; omega
      · right; omega
      · rw [decide_eq_false a, decide_eq_false b] at h1; cases h1
  rcases mul_neg_s h2 with ⟨a, b⟩ | ⟨a, b⟩
  · have m1 := Int.mul_pos b hA
    have m2 := Int.mul_neg_of_neg_of_pos a hB
    exact ⟨_, _, _, _, b, by omega, by omega, by omega, e⟩
  · have m1 := Int.mul_neg_of_neg_of_pos b hA
    have m2 := Int.mul_pos a hB
    have e2 := cb_neg e
    rw [Int.neg_neg, Int.neg_neg] at e2
    exact ⟨_, _, _, _, by omega, a, by omega, by omega, e2⟩
theorem Ft.nt {A B p q : V3} (hA : 0 < A.2.2) (hB : 0 < B.2.2) (hp : p.2.2 = 1) (hq : q.2.2 = 1) (h : Ft A B p q) : nt A B p q := nt_of hA hB hp hq h.a h.b
theorem Ft.hV {s : Int} {A B p q : V3} (hA : 0 < A.2.2) (hB : 0 < B.2.2) (hp : p.2.2 = 1) (hq : q.2.2 = 1) (hs : s = 1 ∨ s = -1) (h : Ft A B p q) : hV s A B p q = false := by
  refine Bool.eq_false_iff.mpr fun c => ?_
  obtain ⟨i, j, k, l, hi, hj, hk, hl, e⟩ := hV_pt hA hB hp hq hs c
  have := h i j k l (by omega) (by omega) hk hl e
  omega
/-- a segment that touches no fence: both ends within, or both beyond -/
theorem pr_free {G : Nat → V3} {n : Nat} (hG : oneG n G) {A B : V3} (hA : 0 < A.2.2) (hB : 0 < B.2.2) (h : ∀ k, k < n → Ft A B (G k) (G (nx n k))) : pr G n A = pr G n B := by
  obtain ⟨s, hs, e⟩ := pr_AB hG hA hB (fun k hk => (h k hk).nt hA hB (hG k hk) (hG _ (nx_lt hk)))
  rw [xr_0 (fun k hk => (h k hk).hV hA hB (hG k hk) (hG _ (nx_lt hk)) hs)] at e
  revert e
  cases pr G n A <;> cases pr G n B <;> simp
/-- all fences lie on the other side of a line -/
theorem pr_half {G : Nat → V3} {n : Nat} (hG : oneG n G) {P : V3} (hP : 0 < P.2.2) {a b c : Int} (h : 0 < a * P.1 + b * P.2.1 + c * P.2.2) (hc : ∀ k, k < n → a * (G k).1 + b * (G k).2.1 + c ≤ 0) : pr G n P = false := by
  have key : ∀ p q : V3, p.2.2 = 1 → q.2.2 = 1 → a * p.1 + b * p.2.1 + c ≤ 0 → a * q.1 + b * q.2.1 + c ≤ 0 → p.2.1 * P.2.2 ≤ P.2.1 → P.2.1 < q.2.1 * P.2.2 → a * dv p q P < 0 := by
    intro p q hp hq h1 h2 h3 h4
    have e : - (a * dv p q P) = (a * P.1 + b * P.2.1 + c * P.2.2) * (q.2.1 - p.2.1) - ((a * p.1 + b * p.2.1 + c) * (q.2.1 * P.2.2 - P.2.1) + (a * q.1 + b * q.2.1 + c) * (P.2.1 - p.2.1 * P.2.2)) := by
      unfold dv; rw [hp, hq]; grind
    have qp : 0 < q.2.1 - p.2.1 := by
      have : p.2.1 * P.2.2 < q.2.1 * P.2.2 := by omega
      have := (pos_lt hP).mp this
      omega
    have m1 := Int.mul_pos h qp
    have m2 := Int.mul_nonpos_of_nonpos_of_nonneg h1 (show 0 ≤ q.2.1 * P.2.2 - P.2.1 by omega)
    have m3 := Int.mul_nonpos_of_nonpos_of_nonneg h2 (show 0 ≤ P.2.1 - p.2.1 * P.2.2 by omega)
    omega
  have one : ∀ k, k < n → cV (G k) (G (nx n k)) P = (decide (a < 0) && (decide ((G k).2.1 * P.2.2 ≤ P.2.1) != decide ((G (nx n k)).2.1 * P.2.2 ≤ P.2.1))) := by
    intro k hk
    have hk2 := nx_lt hk
    have g1 := hG k hk
    have g2 := hG _ hk2
    have c1 := hc k hk
    have c2 := hc _ hk2
    generalize G k = p at *
    generalize G (nx n k) = q at *
    unfold cV
    by_cases x : p.2.1 * P.2.2 ≤ P.2.1 <;> by_cases y : q.2.1 * P.2.2 ≤ P.2.1
    · rw [decide_eq_true x, decide_eq_true y]; simp
    · have w := key p q g1 g2 c1 c2 x (by omega)
      have qp : ¬ q.2.1 ≤ p.2.1 := fun z => by
        have := (pos_le (a := q.2.1) (b := p.2.1) hP).mpr z
        omega
      rw [decide_eq_true x, decide_eq_false y, if_neg qp, show (true != false) = true from rfl, Bool.true_and, Bool.and_true]
      refine decide_eq_decide.mpr ⟨fun z => ?_, fun z => ?_⟩
      · refine Int.not_le.mp fun u => ?_
        have := Int.mul_nonneg u (show 0 ≤ dv p q P by omega)
        omega
      · refine Int.not_le.mp fun u => ?_
        have := Int.mul_nonneg_of_nonpos_of_nonpos (show a ≤ 0 by omega) u
        omega
    · have w := key q p g2 g1 c2 c1 y (by omega)
      have qp : q.2.1 ≤ p.2.1 := by
        have : q.2.1 * P.2.2 < p.2.1 * P.2.2 := by omega
        have := (pos_lt hP).mp this
        omega
      have s := dv_sw p q P
      rw [s] at w
      rw [decide_eq_false x, decide_eq_true y, if_pos qp, show (false != true) = true from rfl, Bool.true_and, Bool.and_true]
      refine decide_eq_decide.mpr ⟨fun z => ?_, fun z => ?_⟩
      · refine Int.not_le.mp fun u => ?_
        have := Int.mul_nonneg u (show 0 ≤ - dv p q P by omega)
        omega
      · refine Int.not_le.mp fun u => ?_
        have := Int.mul_nonneg_of_nonpos_of_nonpos (show a ≤ 0 by omega) (show - dv p q P ≤ 0 by omega)
        omega
    · rw [decide_eq_false x, decide_eq_false y]; simp
  unfold pr
  rw [xr_c one]
  by_cases s : a < 0
  · rw [decide_eq_true s]
    have := xr_cyc (fun k => decide ((G k).2.1 * P.2.2 ≤ P.2.1)) n
    simp only [Bool.true_and]
    exact this
  · rw [decide_eq_false s]
    exact xr_0 (fun k hk => by rw [Bool.false_and])
