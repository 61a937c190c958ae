/-! Points as rows of three numbers: x and y times the third. -/
abbrev V3 := Int × Int × Int
def cb (i : Int) (A : V3) (j : Int) (B : V3) : V3 := (i * A.1 + j * B.1, i * A.2.1 + j * B.2.1, i * A.2.2 + j * B.2.2)
def dv (p q r : V3) : Int := p.1 * (q.2.1 * r.2.2 - q.2.2 * r.2.1) - p.2.1 * (q.1 * r.2.2 - q.2.2 * r.1) + p.2.2 * (q.1 * r.2.1 - q.2.1 * r.1)
theorem v3_ext {A B : V3} (h1 : A.1 = B.1) (h2 : A.2.1 = B.2.1) (h3 : A.2.2 = B.2.2) : A = B := by
  obtain ⟨a, b, c⟩ := A
  obtain ⟨x, y, z⟩ := B
  simp only at h1 h2 h3
  rw [h1, h2, h3]
theorem dv_cb (x y : V3) (i : Int) (A : V3) (j : Int) (B : V3) : dv x y (cb i A j B) = i * dv x y A + j * dv x y B := by unfold dv cb; grind
theorem dv_cb1 (x y : V3) (i : Int) (A : V3) (j : Int) (B : V3) : dv (cb i A j B) x y = i * dv A x y + j * dv B x y := by unfold dv cb; grind
theorem dv_cb2 (x y : V3) (i : Int) (A : V3) (j : Int) (B : V3) : dv x (cb i A j B) y = i * dv x A y + j * dv x B y := by unfold dv cb; grind
theorem dv_rt (p q r : V3) : dv q r p = dv p q r := by unfold dv; grind
theorem dv_sw (p q r : V3) : dv q p r = - dv p q r := by unfold dv; grind
theorem dv_s2 (p q r : V3) : dv p r q = - dv p q r := by unfold dv; grind
theorem dv_1 (p q : V3) : dv p q p = 0 := by unfold dv; grind
theorem dv_2 (p q : V3) : dv p q q = 0 := by unfold dv; grind
theorem dv_0 (p q : V3) : dv p p q = 0 := by unfold dv; grind
/-- four points of the plane -/
theorem four (A B p q : V3) : cb (dv A B p) q (-(dv A B q)) p = cb (dv p q B) A (-(dv p q A)) B := by
  unfold cb dv
  refine v3_ext ?_ ?_ ?_ <;> simp only <;> grind
def cV (p q P : V3) : Bool := (decide (p.2.1 * P.2.2 ≤ P.2.1) != decide (q.2.1 * P.2.2 ≤ P.2.1)) && (if q.2.1 ≤ p.2.1 then decide (dv p q P < 0) else decide (0 < dv p q P))
theorem pos_lt {k a b : Int} (h : 0 < k) : a * k < b * k ↔ a < b := Int.mul_lt_mul_right h
theorem pos_le {k a b : Int} (h : 0 < k) : a * k ≤ b * k ↔ a ≤ b := Int.mul_le_mul_right h
theorem cV_N {p q A B : V3} (hA : 0 < A.2.2) (hB : 0 < B.2.2) : cV p q A = cN (p.2.1 * A.2.2 * B.2.2) (q.2.1 * A.2.2 * B.2.2) (A.2.1 * B.2.2) (dv p q A * B.2.2) := by
  unfold cV cN
  have e : ∀ k : Int, decide (k * A.2.2 ≤ A.2.1) = decide (k * A.2.2 * B.2.2 ≤ A.2.1 * B.2.2) := fun k => decide_eq_decide.mpr (pos_le hB).symm
  rw [e, e]
  have e2 : (q.2.1 * A.2.2 * B.2.2 ≤ p.2.1 * A.2.2 * B.2.2) ↔ q.2.1 ≤ p.2.1 := by rw [pos_le hB, pos_le hA]
  have e3 : decide (dv p q A < 0) = decide (dv p q A * B.2.2 < 0) := decide_eq_decide.mpr (by have := pos_lt (a := dv p q A) (b := 0) hB; rw [Int.zero_mul] at this; exact this.symm)
  have e4 : decide (0 < dv p q A) = decide (0 < dv p q A * B.2.2) := decide_eq_decide.mpr (by have := pos_lt (a := 0) (b := dv p q A) hB; rw [Int.zero_mul] at this; exact this.symm)
  rw [e3, e4]
  congr 1
  by_cases c : q.2.1 ≤ p.2.1
  · rw [if_pos c, if_pos (e2.mpr c)]
  · rw [if_neg c, if_neg (fun z => c (e2.mp z))]
/-- fence p q is not touched at A nor at B, or lies on the line -/
def nt (A B p q : V3) : Prop := (dv A B p = 0 ∧ dv A B q = 0 ∧ dv p q A = 0 ∧ dv p q B = 0) ∨ ((dv p q A = 0 → 0 < dv A B p * dv A B q) ∧ (dv p q B = 0 → 0 < dv A B p * dv A B q))
/-- the crossing of fence p q, by a side -/
def hV (s : Int) (A B p q : V3) : Bool := hN (s * dv A B p) (s * dv A B q) (dv p q A) (dv p q B)
theorem mul_neg_p {a b k l : Int} (hk : 0 < k) (hl : 0 < l) : (a * k) * (b * l) < 0 ↔ a * b < 0 := by
  have e : (a * k) * (b * l) = (a * b) * (k * l) := by grind
  have := pos_lt (a := a * b) (b := 0) (Int.mul_pos hk hl)
  rw [Int.zero_mul] at this
  rw [e, this]
theorem cV_col {p q A : V3} (h : dv p q A = 0) : cV p q A = false := by
  unfold cV
  rw [h]
  cases (decide (p.2.1 * A.2.2 ≤ A.2.1) != decide (q.2.1 * A.2.2 ≤ A.2.1)) <;> simp
theorem iN_0 {t yp ya yb : Int} (h : t = 0) : iN yp t ya yb = false := by unfold iN; rw [h]; simp
theorem hN_pos {tp tq a b k l : Int} (hk : 0 < k) (hl : 0 < l) : hN tp tq (a * k) (b * l) = hN tp tq a b := by
  unfold hN
  congr 1
  exact decide_eq_decide.mpr (mul_neg_p hk hl)
theorem one_up {A B : V3} (hA : 0 < A.2.2) (hB : 0 < B.2.2) (hy : A.2.1 * B.2.2 < B.2.1 * A.2.2) : ∃ g : V3 → Bool, ∀ p q : V3, p.2.2 = 1 → q.2.2 = 1 → nt A B p q → ((cV p q A != cV p q B) != hV 1 A B p q) = (g p != g q) := by
  refine ⟨fun p => iN (p.2.1 * A.2.2 * B.2.2) (dv A B p) (A.2.1 * B.2.2) (B.2.1 * A.2.2), fun p q hp hq h => ?_⟩
  have f := four A B p q
  have f2 : dv A B p * q.2.1 - dv A B q * p.2.1 = dv p q B * A.2.1 - dv p q A * B.2.1 := by
    have := congrArg (fun z : V3 => z.2.1) f
    simp only [cb] at this
    grind
  have f3 : dv A B p - dv A B q = dv p q B * A.2.2 - dv p q A * B.2.2 := by
    have := congrArg (fun z : V3 => z.2.2) f
    simp only [cb, hp, hq] at this
    grind
  unfold hV
  rw [Int.one_mul, Int.one_mul]
  rcases h with ⟨t1, t2, t3, t4⟩ | ⟨nA, nB⟩
  · simp only [cV_col t3, cV_col t4, iN_0 t1, iN_0 t2]
    unfold hN
    rw [t1, t2]
    simp
  · rw [cV_N hA hB, cV_N (A := B) (B := A) hB hA, ← hN_pos (a := dv p q A) (b := dv p q B) hB hA]
    have w := par_all (tp := dv A B p) (tq := dv A B q) (sA := dv p q A * B.2.2) (sB := dv p q B * A.2.2) (yp := p.2.1 * A.2.2 * B.2.2) (yq := q.2.1 * A.2.2 * B.2.2) (ya := A.2.1 * B.2.2) (yb := B.2.1 * A.2.2) f3 (by grind) hy (fun z => nA (by rcases Int.mul_eq_zero.mp z with y | y <;> omega)) (fun z => nB (by rcases Int.mul_eq_zero.mp z with y | y <;> omega))
    rw [show p.2.1 * B.2.2 * A.2.2 = p.2.1 * A.2.2 * B.2.2 by grind, show q.2.1 * B.2.2 * A.2.2 = q.2.1 * A.2.2 * B.2.2 by grind]
    exact w
theorem nt_sw {A B p q : V3} (h : nt A B p q) : nt B A p q := by
  unfold nt at h ⊢
  rw [dv_sw A B p, dv_sw A B q, Int.neg_mul_neg]
  rcases h with ⟨a, b, c, d⟩ | ⟨a, b⟩
  · left; omega
  · right; exact ⟨b, a⟩
theorem hV_sw (s : Int) (A B p q : V3) : hV s B A p q = hV (-s) A B p q := by
  unfold hV hN
  rw [dv_sw A B p, dv_sw A B q, Int.mul_comm (dv p q B)]
  rw [Int.mul_neg, Int.mul_neg, Int.neg_mul, Int.neg_mul]

theorem sg_x {a b : Int} {c : Prop} [Decidable c] (ha : a ≠ 0) (hb : b ≠ 0) : ((((true != false) && (if c then decide (a < 0) else decide (0 < a))) != ((true != false) && (if c then decide (b < 0) else decide (0 < b)))) != (((!true) != (!false)) && decide (a * b < 0))) = false := by
  have e : decide (a * b < 0) = (decide (a < 0) != decide (b < 0)) := by
    by_cases x : a < 0 <;> by_cases y : b < 0
    · have := Int.mul_pos_of_neg_of_neg x y
      rw [decide_eq_true x, decide_eq_true y, decide_eq_false (by omega)]; rfl
    · have := Int.mul_neg_of_neg_of_pos x (show 0 < b by omega)
      rw [decide_eq_true x, decide_eq_false y, decide_eq_true this]; rfl
    · have := Int.mul_neg_of_pos_of_neg (show 0 < a by omega) y
      rw [decide_eq_false x, decide_eq_true y, decide_eq_true this]; rfl
    · have := Int.mul_pos (show 0 < a by omega) (show 0 < b by omega)
      rw [decide_eq_false x, decide_eq_false y, decide_eq_false (by omega)]; rfl
  have e1 : decide (0 < a) = !decide (a < 0) := by by_cases x : a < 0 <;> simp [x] <;> omega
  have e2 : decide (0 < b) = !decide (b < 0) := by by_cases x : b < 0 <;> simp [x] <;> omega
  rw [e, e1, e2]
  by_cases x : c
  · simp only [if_pos x]; cases decide (a < 0) <;> cases decide (b < 0) <;> rfl
  · simp only [if_neg x]; cases decide (a < 0) <;> cases decide (b < 0) <;> rfl
theorem one_flat {A B : V3} (hA : 0 < A.2.2) (hB : 0 < B.2.2) (hy : A.2.1 * B.2.2 = B.2.1 * A.2.2) : ∃ s : Int, (s = 1 ∨ s = -1) ∧ ∀ p q : V3, p.2.2 = 1 → q.2.2 = 1 → nt A B p q → ((cV p q A != cV p q B) != hV s A B p q) = false := by
  have key : ∀ p : V3, p.2.2 = 1 → dv A B p * A.2.2 = (B.1 * A.2.2 - A.1 * B.2.2) * (p.2.1 * A.2.2 - A.2.1) := fun p hp => by
    unfold dv
    rw [hp]
    grind
  have rule : ∃ s : Int, (s = 1 ∨ s = -1) ∧ (B.1 * A.2.2 - A.1 * B.2.2) * s ≤ 0 := by
    by_cases c : B.1 * A.2.2 - A.1 * B.2.2 ≤ 0
    · exact ⟨1, Or.inl rfl, by omega⟩
    · exact ⟨-1, Or.inr rfl, by omega⟩
  obtain ⟨s, hs, hk⟩ := rule
  refine ⟨s, hs, fun p q hp hq h => ?_⟩
  have f := four A B p q
  have f3 : dv A B p - dv A B q = dv p q B * A.2.2 - dv p q A * B.2.2 := by
    have := congrArg (fun z : V3 => z.2.2) f
    simp only [cb, hp, hq] at this
    grind
  rcases h with ⟨t1, t2, t3, t4⟩ | ⟨nA, nB⟩
  · rw [cV_col t3, cV_col t4]
    unfold hV hN
    rw [t1, t2]
    simp
  · have kp := key p hp
    have kq := key q hq
    generalize hd : B.1 * A.2.2 - A.1 * B.2.2 = d at kp kq hk
    have e : ∀ k : Int, decide (k * B.2.2 ≤ B.2.1) = decide (k * A.2.2 ≤ A.2.1) := fun k => decide_eq_decide.mpr (by
      rw [← pos_le (a := k * B.2.2) hA, ← pos_le (a := k * A.2.2) hB, ← hy, show k * B.2.2 * A.2.2 = k * A.2.2 * B.2.2 by grind])
    by_cases d0 : d = 0
    · rw [d0, Int.zero_mul] at kp kq
      have tp : dv A B p = 0 := by rcases Int.mul_eq_zero.mp kp with y | y <;> omega
      have tq : dv A B q = 0 := by rcases Int.mul_eq_zero.mp kq with y | y <;> omega
      have eh : hV s A B p q = false := by unfold hV hN; rw [tp, tq]; simp
      have es : dv p q B * A.2.2 = dv p q A * B.2.2 := by omega
      have w1 : ∀ z : Int, z < 0 ↔ z * A.2.2 < 0 := fun z => by have := pos_lt (a := z) (b := 0) hA; rw [Int.zero_mul] at this; exact this.symm
      have w2 : ∀ z : Int, 0 < z ↔ 0 < z * A.2.2 := fun z => by have := pos_lt (a := 0) (b := z) hA; rw [Int.zero_mul] at this; exact this.symm
      have w3 : ∀ z : Int, z < 0 ↔ z * B.2.2 < 0 := fun z => by have := pos_lt (a := z) (b := 0) hB; rw [Int.zero_mul] at this; exact this.symm
      have w4 : ∀ z : Int, 0 < z ↔ 0 < z * B.2.2 := fun z => by have := pos_lt (a := 0) (b := z) hB; rw [Int.zero_mul] at this; exact this.symm
      have ec : cV p q B = cV p q A := by
        unfold cV
        rw [e, e, decide_eq_decide.mpr (show dv p q B < 0 ↔ dv p q A < 0 by rw [w1, es, ← w3]), decide_eq_decide.mpr (show 0 < dv p q B ↔ 0 < dv p q A by rw [w2, es, ← w4])]
      rw [eh, ec]
      cases cV p q A <;> rfl
    · have side : ∀ p : V3, dv A B p * A.2.2 = d * (p.2.1 * A.2.2 - A.2.1) → decide (s * dv A B p < 0) = !decide (p.2.1 * A.2.2 ≤ A.2.1) := fun p kp => by
        by_cases c : p.2.1 * A.2.2 ≤ A.2.1
        · rw [decide_eq_true c]
          refine decide_eq_false fun z => ?_
          have z2 := Int.mul_neg_of_neg_of_pos z hA
          rw [Int.mul_assoc, kp, ← Int.mul_assoc, Int.mul_comm s d] at z2
          have := Int.mul_nonneg_of_nonpos_of_nonpos hk (show p.2.1 * A.2.2 - A.2.1 ≤ 0 by omega)
          omega
        · rw [decide_eq_false c]
          refine decide_eq_true ?_
          have h0 : d * s < 0 := by
            have : d * s ≠ 0 := Int.mul_ne_zero d0 (by omega)
            omega
          have := Int.mul_neg_of_neg_of_pos h0 (show 0 < p.2.1 * A.2.2 - A.2.1 by omega)
          rw [Int.mul_comm d s, Int.mul_assoc, ← kp, ← Int.mul_assoc] at this
          refine Int.lt_of_not_ge fun z => ?_
          have := Int.mul_nonneg z (show 0 ≤ A.2.2 by omega)
          omega
      have sp := side p kp
      have sq := side q kq
      unfold hV hN cV
      rw [e, e, sp, sq]
      by_cases a : p.2.1 * A.2.2 ≤ A.2.1 <;> by_cases b : q.2.1 * A.2.2 ≤ A.2.1
      · rw [decide_eq_true a, decide_eq_true b]; simp
      · rw [decide_eq_true a, decide_eq_false b]
        have ts : dv A B p * dv A B q ≤ 0 := by
          refine Int.not_lt.mp fun z => ?_
          have z2 := Int.mul_pos z (Int.mul_pos hA hA)
          have : dv A B p * dv A B q * (A.2.2 * A.2.2) = (d * d) * ((p.2.1 * A.2.2 - A.2.1) * (q.2.1 * A.2.2 - A.2.1)) := by
            rw [show dv A B p * dv A B q * (A.2.2 * A.2.2) = (dv A B p * A.2.2) * (dv A B q * A.2.2) by grind, kp, kq]; grind
          rw [this] at z2
          have m := Int.mul_nonpos_of_nonpos_of_nonneg (show p.2.1 * A.2.2 - A.2.1 ≤ 0 by omega) (show 0 ≤ q.2.1 * A.2.2 - A.2.1 by omega)
          have dd : 0 ≤ d * d := by rcases Int.le_total 0 d with y | y; exact Int.mul_nonneg y y; exact Int.mul_nonneg_of_nonpos_of_nonpos y y
          have := Int.mul_nonpos_of_nonneg_of_nonpos dd m
          omega
        have a0 : dv p q A ≠ 0 := fun z => by have := nA z; omega
        have b0 : dv p q B ≠ 0 := fun z => by have := nB z; omega
        exact sg_x a0 b0
      · rw [decide_eq_false a, decide_eq_true b, show (false != true) = (true != false) from rfl, show ((!false) != (!true)) = ((!true) != (!false)) from rfl]
        have ts : dv A B p * dv A B q ≤ 0 := by
          refine Int.not_lt.mp fun z => ?_
          have z2 := Int.mul_pos z (Int.mul_pos hA hA)
          have : dv A B p * dv A B q * (A.2.2 * A.2.2) = (d * d) * ((p.2.1 * A.2.2 - A.2.1) * (q.2.1 * A.2.2 - A.2.1)) := by
            rw [show dv A B p * dv A B q * (A.2.2 * A.2.2) = (dv A B p * A.2.2) * (dv A B q * A.2.2) by grind, kp, kq]; grind
          rw [this] at z2
          have m := Int.mul_nonpos_of_nonneg_of_nonpos (show 0 ≤ p.2.1 * A.2.2 - A.2.1 by omega) (show q.2.1 * A.2.2 - A.2.1 ≤ 0 by omega)
          have dd : 0 ≤ d * d := by rcases Int.le_total 0 d with y | y; exact Int.mul_nonneg y y; exact Int.mul_nonneg_of_nonpos_of_nonpos y y
          have := Int.mul_nonpos_of_nonneg_of_nonpos dd m
          omega
        have a0 : dv p q A ≠ 0 := fun z => by have := nA z; omega
        have b0 : dv p q B ≠ 0 := fun z => by have := nB z; omega
        exact sg_x a0 b0
      · rw [decide_eq_false a, decide_eq_false b]; simp

/-- one fence, all cases -/
theorem one_all {A B : V3} (hA : 0 < A.2.2) (hB : 0 < B.2.2) : ∃ (s : Int) (g : V3 → Bool), (s = 1 ∨ s = -1) ∧ ∀ p q : V3, p.2.2 = 1 → q.2.2 = 1 → nt A B p q → ((cV p q A != cV p q B) != hV s A B p q) = (g p != g q) := by
  rcases Int.lt_trichotomy (A.2.1 * B.2.2) (B.2.1 * A.2.2) with c | c | c
  · obtain ⟨g, hg⟩ := one_up hA hB c
    exact ⟨1, g, Or.inl rfl, hg⟩
  · obtain ⟨s, h1, h2⟩ := one_flat hA hB c
    exact ⟨s, fun _ => false, h1, h2⟩
  · obtain ⟨g, hg⟩ := one_up hB hA c
    refine ⟨-1, g, Or.inr rfl, fun p q hp hq h => ?_⟩
    rw [← hg p q hp hq (nt_sw h), hV_sw]
    cases cV p q A <;> cases cV p q B <;> rfl
/-- the sum, odd or even -/
def xr (f : Nat → Bool) : Nat → Bool
  | 0 => false
  | n + 1 => xr f n != f n
theorem xr_ne (f g : Nat → Bool) : ∀ n, xr (fun k => f k != g k) n = (xr f n != xr g n)
  | 0 => rfl
  | n + 1 => by
    rw [xr, xr, xr, xr_ne f g n]
    cases xr f n <;> cases xr g n <;> cases f n <;> cases g n <;> rfl
theorem xr_c {f g : Nat → Bool} : ∀ {n : Nat}, (∀ k, k < n → f k = g k) → xr f n = xr g n
  | 0, _ => rfl
  | n + 1, h => by rw [xr, xr, xr_c (fun k hk => h k (by omega)), h n (by omega)]
theorem xr_0 {f : Nat → Bool} : ∀ {n : Nat}, (∀ k, k < n → f k = false) → xr f n = false
  | 0, _ => rfl
  | n + 1, h => by rw [xr, xr_0 (fun k hk => h k (by omega)), h n (by omega)]; rfl
theorem xr_tel (g : Nat → Bool) : ∀ n, xr (fun k => g k != g (k + 1)) n = (g 0 != g n)
  | 0 => by rw [xr]; cases g 0 <;> rfl
  | n + 1 => by
    rw [xr, xr_tel g n]
    cases g 0 <;> cases g n <;> cases g (n + 1) <;> rfl
theorem xr_cyc (g : Nat → Bool) (n : Nat) : xr (fun k => g k != g (nx n k)) n = false := by
  cases n with
  | zero => rfl
  | succ n =>
    have e : xr (fun k => g k != g (nx (n + 1) k)) n = (g 0 != g n) := by
      rw [← xr_tel g n]
      exact xr_c (fun k hk => by unfold nx; rw [if_pos (by omega)])
    rw [xr, e]
    have : nx (n + 1) n = 0 := by unfold nx; rw [if_neg (by omega)]
    rw [this]
    cases g 0 <;> cases g n <;> rfl
/-- a point is within, by its fences -/
def pr (G : Nat → V3) (n : Nat) (P : V3) : Bool := xr (fun k => cV (G k) (G (nx n k)) P) n
def oneG (n : Nat) (G : Nat → V3) : Prop := ∀ k, k < n → (G k).2.2 = 1
/-- from A to B: what changes -/
theorem pr_AB {G : Nat → V3} {n : Nat} (hG : oneG n G) {A B : V3} (hA : 0 < A.2.2) (hB : 0 < B.2.2) (h : ∀ k, k < n → nt A B (G k) (G (nx n k))) : ∃ s : Int, (s = 1 ∨ s = -1) ∧ (pr G n A != pr G n B) = xr (fun k => hV s A B (G k) (G (nx n k))) n := by
  obtain ⟨s, g, hs, hg⟩ := one_all hA hB
  refine ⟨s, hs, ?_⟩
  have e := xr_cyc (fun k => g (G k)) n
  have e2 : xr (fun k => (cV (G k) (G (nx n k)) A != cV (G k) (G (nx n k)) B) != hV s A B (G k) (G (nx n k))) n = xr (fun k => g (G k) != g (G (nx n k))) n := xr_c (fun k hk => hg _ _ (hG k hk) (hG _ (nx_lt hk)) (h k hk))
  rw [e, xr_ne, xr_ne] at e2
  unfold pr
  revert e2
  cases xr (fun k => cV (G k) (G (nx n k)) A) n <;> cases xr (fun k => cV (G k) (G (nx n k)) B) n <;> cases xr (fun k => hV s A B (G k) (G (nx n k))) n <;> simp
