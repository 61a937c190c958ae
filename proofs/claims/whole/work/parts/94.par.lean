/-! Crossings: a fence that ends high. -/
theorem par_mh {tp tq sA sB yp yq ya yb : Int} (h1 : tp - tq = sB - sA) (h2 : tp * yq - tq * yp = sB * ya - sA * yb) (hy : ya < yb) (lp : ya < yp ∧ yp ≤ yb) (lq : yb < yq) (nB : sB = 0 → 0 < tp * tq) (np : tp = 0 → 0 < sA * sB) : (tp < 0 → (0 < sB ∧ ¬ (tp * tq < 0 ∧ sA * sB < 0)) ∨ (¬ 0 < sB ∧ tp * tq < 0 ∧ sA * sB < 0)) ∧ (0 ≤ tp → (0 < sB ∧ tp * tq < 0 ∧ sA * sB < 0) ∨ (¬ 0 < sB ∧ ¬ (tp * tq < 0 ∧ sA * sB < 0))) := by
  have e1 := par_e1 h1 h2
  have e2 := par_e2 h1 h2
  have hd : 0 < yb - ya := by omega
  have up : ∀ s : Int, 0 < s * (yb - ya) → 0 < s := fun s h => by
    refine Int.not_le.mp fun z => ?_
    have := Int.mul_nonpos_of_nonpos_of_nonneg z (Int.le_of_lt hd)
    omega
  have dn : ∀ s : Int, s * (yb - ya) < 0 → s < 0 := fun s h => by
    refine Int.not_le.mp fun z => ?_
    have := Int.mul_nonneg z (Int.le_of_lt hd)
    omega
  constructor
  · intro t
    have m2 := Int.mul_neg_of_neg_of_pos t (show 0 < yq - ya by omega)
    have m4 := Int.mul_neg_of_neg_of_pos t (show 0 < yq - yb by omega)
    by_cases c : tq ≤ 0
    · left
      have m3 := Int.mul_nonneg_of_nonpos_of_nonpos c (show yp - yb ≤ 0 by omega)
      have pt := Int.mul_nonneg_of_nonpos_of_nonpos (Int.le_of_lt t) c
      exact ⟨up sB (by omega), fun z => by omega⟩
    · have cp : 0 < tq := by omega
      have m1 := Int.mul_pos cp (show 0 < yp - ya by omega)
      have sa := up sA (by omega)
      have neg := Int.mul_neg_of_neg_of_pos t cp
      have b0 : sB ≠ 0 := fun z => by have := nB z; omega
      by_cases w : 0 < sB
      · left
        have := Int.mul_pos sa w
        exact ⟨w, fun z => by omega⟩
      · right
        exact ⟨w, neg, Int.mul_neg_of_pos_of_neg sa (by omega)⟩
  · intro t
    by_cases t0 : tp = 0
    · have n := np t0
      right
      rw [t0, Int.zero_mul, Int.sub_zero] at e1 e2
      refine ⟨fun w => ?_, fun z => by omega⟩
      have w2 := Int.mul_pos w hd
      have tn : tq < 0 := by
        refine Int.not_le.mp fun z => ?_
        have := Int.mul_nonpos_of_nonneg_of_nonpos z (show yp - yb ≤ 0 by omega)
        omega
      have m1 := Int.mul_neg_of_neg_of_pos tn (show 0 < yp - ya by omega)
      have sa := dn sA (by omega)
      have := Int.mul_neg_of_neg_of_pos sa w
      omega
    · have tpos : 0 < tp := by omega
      have m2 := Int.mul_pos tpos (show 0 < yq - ya by omega)
      have m4 := Int.mul_pos tpos (show 0 < yq - yb by omega)
      by_cases c : 0 ≤ tq
      · right
        have m3 := Int.mul_nonpos_of_nonneg_of_nonpos c (show yp - yb ≤ 0 by omega)
        have pt := Int.mul_nonneg t c
        have sb := dn sB (by omega)
        exact ⟨by omega, fun z => by omega⟩
      · have cn : tq < 0 := by omega
        have m1 := Int.mul_neg_of_neg_of_pos cn (show 0 < yp - ya by omega)
        have sa := dn sA (by omega)
        have neg := Int.mul_neg_of_pos_of_neg tpos cn
        by_cases w : 0 < sB
        · left
          exact ⟨w, neg, Int.mul_neg_of_neg_of_pos sa w⟩
        · right
          have := Int.mul_nonneg_of_nonpos_of_nonpos (Int.le_of_lt sa) (show sB ≤ 0 by omega)
          exact ⟨w, fun z => by omega⟩
theorem par_lh {tp tq sA sB yp yq ya yb : Int} (h1 : tp - tq = sB - sA) (h2 : tp * yq - tq * yp = sB * ya - sA * yb) (hy : ya < yb) (lp : yp ≤ ya) (lq : yb < yq) (nA : sA = 0 → 0 < tp * tq) (nB : sB = 0 → 0 < tp * tq) : (tp * tq < 0 ∧ sA * sB < 0) ↔ ¬ (0 < sA ↔ 0 < sB) := by
  have e3 := par_e3 h1 h2
  have e4 := par_e4 h1 h2
  have hd : 0 < yq - yp := by omega
  have up : ∀ s : Int, 0 < s * (yq - yp) → 0 < s := fun s h => by
    refine Int.not_le.mp fun z => ?_
    have := Int.mul_nonpos_of_nonpos_of_nonneg z (Int.le_of_lt hd)
    omega
  have dn : ∀ s : Int, s * (yq - yp) < 0 → s < 0 := fun s h => by
    refine Int.not_le.mp fun z => ?_
    have := Int.mul_nonneg z (Int.le_of_lt hd)
    omega
  constructor
  · rintro ⟨_, b⟩
    rw [sg_neg] at b
    omega
  · intro h
    by_cases w : 0 < sA
    · have w2 : sB ≤ 0 := Int.not_lt.mp fun z => h ⟨fun _ => z, fun _ => w⟩
      have m1 := Int.mul_nonpos_of_nonpos_of_nonneg w2 (show 0 ≤ ya - yp by omega)
      have m2 := Int.mul_pos w (show 0 < yb - yp by omega)
      have m3 := Int.mul_nonneg_of_nonpos_of_nonpos w2 (show ya - yq ≤ 0 by omega)
      have m4 := Int.mul_neg_of_pos_of_neg w (show yb - yq < 0 by omega)
      have neg := Int.mul_neg_of_neg_of_pos (dn tp (by omega)) (up tq (by omega))
      have b0 : sB ≠ 0 := fun z => by have := nB z; omega
      exact ⟨neg, Int.mul_neg_of_pos_of_neg w (by omega)⟩
    · have w2 : 0 < sB := Classical.byContradiction fun z => h ⟨fun y => absurd y w, fun y => absurd y z⟩
      have w3 : sA ≤ 0 := by omega
      have m1 := Int.mul_nonneg (Int.le_of_lt w2) (show 0 ≤ ya - yp by omega)
      have m2 := Int.mul_nonpos_of_nonpos_of_nonneg w3 (show 0 ≤ yb - yp by omega)
      have m3 := Int.mul_neg_of_pos_of_neg w2 (show ya - yq < 0 by omega)
      have m4 := Int.mul_nonneg_of_nonpos_of_nonpos w3 (show yb - yq ≤ 0 by omega)
      have q := dn tq (by omega)
      have p : 0 ≤ tp := Int.not_lt.mp fun z => by
        have := Int.mul_neg_of_neg_of_pos z hd
        omega
      have le := Int.mul_nonpos_of_nonneg_of_nonpos p (Int.le_of_lt q)
      have a0 : sA ≠ 0 := fun z => by have := nA z; omega
      have a1 := Int.mul_neg_of_neg_of_pos (show sA < 0 by omega) (show 0 < yb - yp by omega)
      exact ⟨Int.mul_neg_of_pos_of_neg (up tp (by omega)) q, Int.mul_neg_of_neg_of_pos (by omega) w2⟩
