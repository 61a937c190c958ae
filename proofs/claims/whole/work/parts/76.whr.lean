/-! Where a point is: the class and the reference say the same. -/
theorem sqB_k (X Y : Nat → Int) (p q : Nat) (u v b k : Int) : sqB X Y p q (k * u) (k * v) (k * b) = k * k * sqB X Y p q u v b := by
  unfold sqB
  grind
theorem pos_mul {k z : Int} (hk : 0 < k) : 0 < k * z ↔ 0 < z := by
  constructor
  · intro h
    refine Int.not_le.mp fun q => ?_
    have := Int.mul_nonneg (show 0 ≤ k by omega) (show 0 ≤ -z by omega)
    rw [Int.mul_neg] at this
    omega
  · exact fun h => Int.mul_pos hk h
theorem neg_mul' {k z : Int} (hk : 0 < k) : k * z < 0 ↔ z < 0 := by
  have := pos_mul (z := -z) hk
  rw [Int.mul_neg] at this
  constructor <;> intro h <;> omega
theorem zer_mul {k z : Int} (hk : 0 < k) : k * z = 0 ↔ z = 0 := by
  have h1 := pos_mul (z := z) hk
  have h2 := neg_mul' (z := z) hk
  omega
theorem le_mul {k z : Int} (hk : 0 < k) : k * z ≤ 0 ↔ z ≤ 0 := by
  have h1 := pos_mul (z := z) hk
  omega
theorem lek {k u v : Int} (hk : 0 < k) : k * u ≤ k * v ↔ u ≤ v := by
  have h1 := le_mul (z := u - v) hk
  rw [Int.mul_sub] at h1
  omega
/-- a point told by k times as much is the same point -/
theorem onB_k {X Y : Nat → Int} {p q : Nat} {u v b k : Int} (hk : 0 < k) : onB X Y p q (k * u) (k * v) (k * b) = onB X Y p q u v b := by
  have kk := Int.mul_pos hk hk
  have e1 : (k * u - X p * (k * b)) * (k * u - X q * (k * b)) = k * k * ((u - X p * b) * (u - X q * b)) := by grind
  have e2 : (k * v - Y p * (k * b)) * (k * v - Y q * (k * b)) = k * k * ((v - Y p * b) * (v - Y q * b)) := by grind
  unfold onB
  rw [sqB_k, e1, e2]
  congr 1
  · congr 1
    · exact decide_eq_decide.mpr (zer_mul kk)
    · exact decide_eq_decide.mpr (le_mul kk)
  · exact decide_eq_decide.mpr (le_mul kk)
theorem cxB_k {X Y : Nat → Int} {p q : Nat} {u v b k : Int} (hk : 0 < k) : cxB X Y p q (k * u) (k * v) (k * b) = cxB X Y p q u v b := by
  have kk := Int.mul_pos hk hk
  have e1 : Y p * (k * b) = k * (Y p * b) := by grind
  have e2 : Y q * (k * b) = k * (Y q * b) := by grind
  have d1 : decide (k * (Y p * b) ≤ k * v) = decide (Y p * b ≤ v) := decide_eq_decide.mpr (lek hk)
  have d2 : decide (k * (Y q * b) ≤ k * v) = decide (Y q * b ≤ v) := decide_eq_decide.mpr (lek hk)
  have d3 : decide (k * k * sqB X Y p q u v b < 0) = decide (sqB X Y p q u v b < 0) := decide_eq_decide.mpr (neg_mul' kk)
  have d4 : decide (0 < k * k * sqB X Y p q u v b) = decide (0 < sqB X Y p q u v b) := decide_eq_decide.mpr (pos_mul kk)
  unfold cxB
  rw [sqB_k, e1, e2, d1, d2, d3, d4]
  congr 1
  by_cases c : Y q * b ≤ Y p * b
  · rw [if_pos c, if_pos ((lek hk).mpr c)]
  · rw [if_neg c, if_neg (fun z => c ((lek hk).mp z))]
theorem whF_k {X Y : Nat → Int} {n : Nat} {u v b k : Int} (hk : 0 < k) : ∀ (d i : Nat) (w : Bool), whF X Y n (k * u) (k * v) (k * b) i d w = whF X Y n u v b i d w
  | 0, i, w => rfl
  | d + 1, i, w => by rw [whF, whF, onB_k hk, cxB_k hk, whF_k hk d (i + 1)]
theorem whM_k {X Y : Nat → Int} {n : Nat} {u v b k : Int} (hk : 0 < k) : whM X Y n (k * u) (k * v) (k * b) = whM X Y n u v b := whF_k hk n 0 false
/-- a point on the line of a fence, at the height of it, is on it -/
theorem on_of {X Y : Nat → Int} {p q : Nat} {u v b : Int} (h : sqB X Y p q u v b = 0) (hc : (Y p * b ≤ v ∧ v < Y q * b) ∨ (Y q * b ≤ v ∧ v < Y p * b)) : onB X Y p q u v b = true := by
  have hp : 0 ≤ ((u - X p * b) * (u - X q * b)) * ((v - Y p * b) * (v - Y q * b)) := by
    have e : ((u - X p * b) * (u - X q * b)) * ((v - Y p * b) * (v - Y q * b)) = ((u - X p * b) * (v - Y q * b)) * ((u - X p * b) * (v - Y q * b)) := by
      unfold sqB at h
      grind
    rw [e]; exact sq_nn _
  have hy : (v - Y p * b) * (v - Y q * b) ≤ 0 := by
    rcases hc with ⟨q1, q2⟩ | ⟨q1, q2⟩
    · have := Int.mul_nonneg (show 0 ≤ v - Y p * b by omega) (show 0 ≤ -(v - Y q * b) by omega)
      rw [Int.mul_neg] at this; omega
    · have := Int.mul_nonneg (show 0 ≤ -(v - Y p * b) by omega) (show 0 ≤ v - Y q * b by omega)
      rw [Int.neg_mul] at this; omega
  have hx : (u - X p * b) * (u - X q * b) ≤ 0 := by
    by_cases z : (v - Y p * b) * (v - Y q * b) = 0
    · rcases Int.mul_eq_zero.mp z with z | z
      · have ev : v = Y p * b := by omega
        have : (Y q * b - Y p * b) * (u - X p * b) = 0 := by unfold sqB at h; rw [ev, Int.sub_self, Int.mul_zero] at h; omega
        rcases Int.mul_eq_zero.mp this with w | w
        · omega
        · rw [w]; simp
      · have ev : v = Y q * b := by omega
        have : (Y q * b - Y p * b) * (u - X q * b) = 0 := by unfold sqB at h; rw [ev] at h; grind
        rcases Int.mul_eq_zero.mp this with w | w
        · omega
        · rw [w]; simp
    · refine Int.not_lt.mp fun w => ?_
      have := Int.mul_neg_of_pos_of_neg w (show (v - Y p * b) * (v - Y q * b) < 0 by omega)
      omega
  unfold onB
  rw [decide_eq_true h, decide_eq_true hx, decide_eq_true hy]; rfl
theorem pOn_eq (X Y : Nat → Int) (n : Nat) (tx ty : Int) (i : Nat) : pOn X Y n tx ty i = onB X Y i (nx n i) tx ty 2 ∧ pSd X Y n tx ty i = sqB X Y i (nx n i) tx ty 2 := by
  have es : pSd X Y n tx ty i = sqB X Y i (nx n i) tx ty 2 := by unfold pSd sqB; grind
  refine ⟨?_, es⟩
  unfold pOn onB
  rw [es]
  by_cases h : sqB X Y i (nx n i) tx ty 2 = 0
  · rw [decide_eq_true h, Bool.true_and, Bool.true_and, ← Bool.decide_and]
    refine decide_eq_decide.mpr ?_
    have e1 : (2 * X i - tx) * (2 * X (nx n i) - tx) = (tx - X i * 2) * (tx - X (nx n i) * 2) := by grind
    have e2 : (2 * Y i - ty) * (2 * Y (nx n i) - ty) = (ty - Y i * 2) * (ty - Y (nx n i) * 2) := by grind
    rw [e1, e2]
    have hp : 0 ≤ ((tx - X i * 2) * (tx - X (nx n i) * 2)) * ((ty - Y i * 2) * (ty - Y (nx n i) * 2)) := by
      have e : ((tx - X i * 2) * (tx - X (nx n i) * 2)) * ((ty - Y i * 2) * (ty - Y (nx n i) * 2)) = ((tx - X i * 2) * (ty - Y (nx n i) * 2)) * ((tx - X i * 2) * (ty - Y (nx n i) * 2)) := by
        unfold sqB at h
        grind
      rw [e]; exact sq_nn _
    constructor
    · intro q; exact pn hp q
    · intro q; omega
  · rw [decide_eq_false h, Bool.false_and, Bool.false_and, Bool.false_and]
theorem pTg_eq {X Y : Nat → Int} {n : Nat} {tx ty : Int} {i : Nat} (h : ¬ pOn X Y n tx ty i = true) : pTg X Y n tx ty i = cxB X Y i (nx n i) tx ty 2 := by
  obtain ⟨e1, e2⟩ := pOn_eq X Y n tx ty i
  rw [e1] at h
  unfold pTg cxB
  rw [e2]
  have d1 : decide (0 < 2 * Y i - ty) = !decide (Y i * 2 ≤ ty) := by
    by_cases c : Y i * 2 ≤ ty
    · rw [decide_eq_true c, decide_eq_false (by omega)]; rfl
    · rw [decide_eq_false c, decide_eq_true (by omega)]; rfl
  have d2 : decide (0 < 2 * Y (nx n i) - ty) = !decide (Y (nx n i) * 2 ≤ ty) := by
    by_cases c : Y (nx n i) * 2 ≤ ty
    · rw [decide_eq_true c, decide_eq_false (by omega)]; rfl
    · rw [decide_eq_false c, decide_eq_true (by omega)]; rfl
  rw [d1, d2]
  by_cases c1 : Y i * 2 ≤ ty
  · by_cases c2 : Y (nx n i) * 2 ≤ ty
    · rw [decide_eq_true c1, decide_eq_true c2]; rfl
    · rw [decide_eq_true c1, decide_eq_false c2, if_neg (by omega), decide_eq_true (show 2 * Y i - ty < 2 * Y (nx n i) - ty by omega)]
      cases decide (0 < sqB X Y i (nx n i) tx ty 2) <;> rfl
  · by_cases c2 : Y (nx n i) * 2 ≤ ty
    · have nz : sqB X Y i (nx n i) tx ty 2 ≠ 0 := fun z => h (on_of z (Or.inr ⟨by omega, by omega⟩))
      rw [decide_eq_false c1, decide_eq_true c2, if_pos (by omega), decide_eq_false (show ¬ 2 * Y i - ty < 2 * Y (nx n i) - ty by omega)]
      by_cases c3 : 0 < sqB X Y i (nx n i) tx ty 2
      · rw [decide_eq_true c3, decide_eq_false (by omega)]; rfl
      · rw [decide_eq_false c3, decide_eq_true (show sqB X Y i (nx n i) tx ty 2 < 0 by omega)]; rfl
    · rw [decide_eq_false c1, decide_eq_false c2]; rfl
theorem plF_eq (X Y : Nat → Int) (n : Nat) (tx ty : Int) : ∀ (d i : Nat) (w : Bool), plF X Y n tx ty i d w = whF X Y n tx ty 2 i d w
  | 0, i, w => by rw [plF, whF]
  | d + 1, i, w => by
    rw [plF, whF]
    by_cases h : pOn X Y n tx ty i = true
    · rw [if_pos h, if_pos (by rw [← (pOn_eq X Y n tx ty i).1]; exact h)]
    · rw [if_neg h, if_neg (by rw [← (pOn_eq X Y n tx ty i).1]; exact h), pTg_eq h, plF_eq X Y n tx ty d (i + 1)]
      congr 1
      cases w <;> cases cxB X Y i (nx n i) tx ty 2 <;> rfl
theorem plF_dot (X Y : Nat → Int) (n : Nat) (x y : Int) : plF X Y n (2 * x) (2 * y) 0 n false = whM X Y n x y 1 := by
  rw [plF_eq]
  have := whM_k (X := X) (Y := Y) (n := n) (u := x) (v := y) (b := 1) (k := 2) (by omega)
  exact this
theorem pmid_eq (X Y : Nat → Int) (n a b : Nat) : pmid X Y n a b = whM X Y n (X a + X b) (Y a + Y b) 2 := plF_eq X Y n _ _ n 0 false
theorem onB_c {n : Nat} {X Y X' Y' : Nat → Int} (hx : Ag n X X') (hy : Ag n Y Y') {p q : Nat} (hp : p < n) (hq : q < n) (u v b : Int) : onB X Y p q u v b = onB X' Y' p q u v b ∧ cxB X Y p q u v b = cxB X' Y' p q u v b := by
  unfold onB cxB sqB
  rw [hx p hp, hx q hq, hy p hp, hy q hq]
  exact ⟨rfl, rfl⟩
theorem whF_c {n : Nat} {X Y X' Y' : Nat → Int} (hx : Ag n X X') (hy : Ag n Y Y') (u v b : Int) : ∀ (d i : Nat) (w : Bool), i + d ≤ n → whF X Y n u v b i d w = whF X' Y' n u v b i d w
  | 0, i, w, h => rfl
  | d + 1, i, w, h => by
    obtain ⟨e1, e2⟩ := onB_c hx hy (show i < n by omega) (nx_lt (show i < n by omega)) u v b
    rw [whF, whF, e1, e2, whF_c hx hy u v b d (i + 1) _ (by omega)]
theorem whM_c {n : Nat} {X Y X' Y' : Nat → Int} (hx : Ag n X X') (hy : Ag n Y Y') (u v b : Int) : whM X Y n u v b = whM X' Y' n u v b := whF_c hx hy u v b n 0 false (by omega)
theorem ob_where {Z : CZ} {M : MZ} (hI : Inv Z M) (f x y : Int) : aWhere Z f x y = bWhere M f x y := by
  unfold aWhere bWhere
  by_cases h : fB f = true
  · obtain ⟨p, hp, rfl⟩ := fB_t h
    rw [if_pos h, if_pos h, i_nn, sn_eq hI hp, plF_dot, hI.N hp, whM_c (hI.X hp) (hI.Y hp)]
  · rw [if_neg h, if_neg h]
theorem itF_add {α : Type} (f : Nat → α → α) : ∀ (d e i : Nat) (s : α), itF f i (d + e) s = itF f (i + d) e (itF f i d s)
  | 0, e, i, s => by rw [Nat.zero_add, Nat.add_zero]; rfl
  | d + 1, e, i, s => by
    rw [show d + 1 + e = d + e + 1 by omega, itF, itF, itF_add f d e (i + 1), show i + 1 + d = i + (d + 1) by omega]
/-- a loop over pairs as one loop -/
theorem itF_sq {α : Type} (m : Nat) (G : Nat → Nat → α → α) (F : Nat → α → α) (hF : ∀ x y, y < m → F (m * x + y) = G x y) : ∀ (d x : Nat) (s : α), itF F (m * x) (m * d) s = itF (fun x c => itF (G x) 0 m c) x d s
  | 0, x, s => rfl
  | d + 1, x, s => by
    have row : ∀ (e j : Nat) (s : α), j + e = m → itF F (m * x + j) e s = itF (G x) j e s := by
      intro e
      induction e with
      | zero => intro j s _; rfl
      | succ e ih =>
        intro j s hj
        rw [itF, itF, hF x j (by omega)]
        have := ih (j + 1) (G x j s) (by omega)
        rw [show m * x + (j + 1) = m * x + j + 1 by omega] at this
        exact this
    rw [show m * (d + 1) = m + m * d by rw [Nat.mul_add, Nat.mul_one, Nat.add_comm], itF_add, itF]
    have r := row m 0 s (by omega)
    rw [Nat.add_zero] at r
    rw [r, show m * x + m = m * (x + 1) by rw [Nat.mul_add, Nat.mul_one]]
    exact itF_sq m G F hF d (x + 1) _
theorem pl_eq {Z : CZ} {M : MZ} (hI : Inv Z M) {f : Nat} (hf : f < 4) (x y : Nat) : plZ Z f x y = whM (fw (mX M) f) (fw (mY M) f) (mM M f) x y 1 := by
  unfold plZ
  rw [plF_dot, hI.N hf, whM_c (hI.X hf) (hI.Y hf)]
theorem rf_eq {Z : CZ} {M : MZ} (hI : Inv Z M) (f g : Int) : rfB Z f g = rfM M f g := by
  unfold rfB rfM
  by_cases h : fB f = true ∧ fB g = true
  · obtain ⟨p, hp, rfl⟩ := fB_t h.1
    obtain ⟨r, hr, rfl⟩ := fB_t h.2
    rw [if_pos h, if_pos h, i_nn, i_nn, sn_eq hI hp, sn_eq hI hr]
  · rw [if_neg h, if_neg h]
theorem rfM_t {M : MZ} {f g : Int} (h : rfM M f g = 0) : ∃ a b : Nat, a < 4 ∧ b < 4 ∧ f = (a : Int) ∧ g = (b : Int) ∧ sM M a = true ∧ sM M b = true := by
  unfold rfM at h
  split at h
  · rename_i c
    obtain ⟨a, ha, rfl⟩ := fB_t c.1
    obtain ⟨b, hb, rfl⟩ := fB_t c.2
    rw [i_nn, i_nn] at h
    split at h
    · rename_i c2
      exact ⟨a, b, ha, hb, rfl, rfl, c2.1, c2.2⟩
    · omega
  · omega
theorem ob_common {Z : CZ} {M : MZ} (hI : Inv Z M) (f g : Int) : aCommon Z f g = bCommon M f g := by
  unfold aCommon bCommon
  rw [rf_eq hI]
  by_cases h : rfM M f g = 0
  · rw [if_pos h, if_pos h]
    obtain ⟨p, r, hp, hr, rfl, rfl, -, -⟩ := rfM_t h
    rw [i_nn, i_nn]
    congr 1
    unfold cmN
    have w := itF_sq 16 (cmT Z p r) (cmM M p r) (fun x y hy => by
      funext c
      unfold cmT cmM
      rw [pl_eq hI hp, pl_eq hI hr, show (16 * x + y) / 16 = x by omega, show (16 * x + y) % 16 = y by omega]
      have b1 := whM_bd (fw (mX M) p) (fw (mY M) p) (mM M p) x y 1
      have b2 := whM_bd (fw (mX M) r) (fw (mY M) r) (mM M r) x y 1
      split <;> split <;> omega) 16 0 0
    exact w.symm
  · rw [if_neg h, if_neg h]
