/-! Crossings: one fence, all cases. -/
def cN (yp yq y s : Int) : Bool := (decide (yp ≤ y) != decide (yq ≤ y)) && (if yq ≤ yp then decide (s < 0) else decide (0 < s))
def xN (tp tq sA sB : Int) : Bool := decide (tp * tq < 0) && decide (sA * sB < 0)
def iN (yp tp ya yb : Int) : Bool := decide (ya < yp ∧ yp ≤ yb) && decide (tp < 0)
theorem cN_up {yp yq y s : Int} (h : yp ≤ yq) : cN yp yq y s = decide (yp ≤ y ∧ y < yq ∧ 0 < s) := by
  unfold cN
  rw [Bool.eq_iff_iff]
  by_cases a : yp ≤ y <;> by_cases b : yq ≤ y <;> by_cases c : yq ≤ yp <;> simp [a, b, c] <;> omega
theorem xN_iff {tp tq sA sB : Int} : xN tp tq sA sB = true ↔ (tp * tq < 0 ∧ sA * sB < 0) := by
  unfold xN; rw [Bool.and_eq_true, decide_eq_true_eq, decide_eq_true_eq]
theorem xN_t {tp tq sA sB : Int} (h : tp * tq < 0 ∧ sA * sB < 0) : xN tp tq sA sB = true := xN_iff.mpr h
theorem xN_f {tp tq sA sB : Int} (h : ¬ (tp * tq < 0 ∧ sA * sB < 0)) : xN tp tq sA sB = false := by
  rw [← Bool.not_eq_true, xN_iff]; exact h
theorem iN_out {yp tp ya yb : Int} (h : ¬ (ya < yp ∧ yp ≤ yb)) : iN yp tp ya yb = false := by unfold iN; rw [decide_eq_false h]; rfl
theorem iN_in {yp tp ya yb : Int} (h : ya < yp ∧ yp ≤ yb) : iN yp tp ya yb = decide (tp < 0) := by unfold iN; rw [decide_eq_true h]; rfl
theorem par_up {tp tq sA sB yp yq ya yb : Int} (h1 : tp - tq = sB - sA) (h2 : tp * yq - tq * yp = sB * ya - sA * yb) (hy : ya < yb) (nA : sA = 0 → 0 < tp * tq) (nB : sB = 0 → 0 < tp * tq) (np : tp = 0 → 0 < sA * sB) (nq : tq = 0 → 0 < sA * sB) (ho : yp ≤ yq) : ((cN yp yq ya sA != cN yp yq yb sB) != xN tp tq sA sB) = (iN yp tp ya yb != iN yq tq ya yb) := by
  rw [cN_up ho, cN_up ho]
  by_cases p1 : yp ≤ ya
  · by_cases q1 : yq ≤ ya
    · rw [xN_f (par_ll h1 h2 hy p1 q1), iN_out (by omega), iN_out (by omega), decide_eq_false (by omega), decide_eq_false (by omega)]; rfl
    · by_cases q2 : yq ≤ yb
      · obtain ⟨a, b⟩ := par_lm h1 h2 hy p1 ⟨by omega, q2⟩ nA np nq
        rw [iN_out (by omega), iN_in ⟨by omega, q2⟩, decide_eq_false (show ¬ (yp ≤ yb ∧ yb < yq ∧ 0 < sB) by omega)]
        by_cases t : tq < 0
        · rw [decide_eq_true t]
          rcases a t with ⟨c, d⟩ | ⟨c, d⟩
          · rw [xN_f d, decide_eq_true (by omega)]; rfl
          · rw [xN_t d, decide_eq_false (by omega)]; rfl
        · rw [decide_eq_false t]
          rcases b (by omega) with ⟨c, d⟩ | ⟨c, d⟩
          · rw [xN_t d, decide_eq_true (by omega)]; rfl
          · rw [xN_f d, decide_eq_false (by omega)]; rfl
      · have w := par_lh h1 h2 hy p1 (by omega) nA nB
        rw [iN_out (by omega), iN_out (by omega)]
        by_cases a : 0 < sA <;> by_cases b : 0 < sB
        · rw [xN_f (fun z => (w.mp z) ⟨fun _ => b, fun _ => a⟩), decide_eq_true (by omega), decide_eq_true (by omega)]; rfl
        · rw [xN_t (w.mpr fun z => b (z.mp a)), decide_eq_true (by omega), decide_eq_false (by omega)]; rfl
        · rw [xN_t (w.mpr fun z => a (z.mpr b)), decide_eq_false (by omega), decide_eq_true (by omega)]; rfl
        · rw [xN_f (fun z => (w.mp z) ⟨fun y => absurd y a, fun y => absurd y b⟩), decide_eq_false (by omega), decide_eq_false (by omega)]; rfl
  · by_cases p2 : yp ≤ yb
    · by_cases q2 : yq ≤ yb
      · rw [iN_in ⟨by omega, p2⟩, iN_in ⟨by omega, q2⟩, decide_eq_false (show ¬ (yp ≤ ya ∧ ya < yq ∧ 0 < sA) by omega), decide_eq_false (show ¬ (yp ≤ yb ∧ yb < yq ∧ 0 < sB) by omega)]
        by_cases a : tp < 0 <;> by_cases b : tq < 0
        · have := Int.mul_pos_of_neg_of_neg a b
          rw [xN_f (fun z => by omega), decide_eq_true a, decide_eq_true b]; rfl
        · rw [xN_t (par_mm1 h1 h2 hy ⟨by omega, p2⟩ ⟨by omega, q2⟩ nB nq a (by omega)), decide_eq_true a, decide_eq_false b]; rfl
        · have w := par_mm1 (tp := tq) (tq := tp) (sA := -sA) (sB := -sB) (yp := yq) (yq := yp) (ya := ya) (yb := yb) (by omega) (by grind) hy ⟨by omega, q2⟩ ⟨by omega, p2⟩ (fun z => by rw [Int.mul_comm]; exact nB (by omega)) (fun z => by rw [Int.neg_mul_neg]; exact np z) b (by omega)
          rw [Int.neg_mul_neg, Int.mul_comm tq tp] at w
          rw [xN_t w, decide_eq_false a, decide_eq_true b]; rfl
        · have := Int.mul_nonneg (show 0 ≤ tp by omega) (show 0 ≤ tq by omega)
          rw [xN_f (fun z => by omega), decide_eq_false a, decide_eq_false b]; rfl
      · obtain ⟨a, b⟩ := par_mh h1 h2 hy ⟨by omega, p2⟩ (by omega) nB np
        rw [iN_in ⟨by omega, p2⟩, iN_out (by omega), decide_eq_false (show ¬ (yp ≤ ya ∧ ya < yq ∧ 0 < sA) by omega)]
        by_cases t : tp < 0
        · rw [decide_eq_true t]
          rcases a t with ⟨c, d⟩ | ⟨c, d⟩
          · rw [xN_f d, decide_eq_true (by omega)]; rfl
          · rw [xN_t d, decide_eq_false (by omega)]; rfl
        · rw [decide_eq_false t]
          rcases b (by omega) with ⟨c, d⟩ | ⟨c, d⟩
          · rw [xN_t d, decide_eq_true (by omega)]; rfl
          · rw [xN_f d, decide_eq_false (by omega)]; rfl
    · rw [xN_f (par_hh h1 h2 hy (by omega) (by omega)), iN_out (by omega), iN_out (by omega), decide_eq_false (by omega), decide_eq_false (by omega)]; rfl
