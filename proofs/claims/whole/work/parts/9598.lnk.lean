/-! Where a point is, strips, cuts and the area, told by points. -/
theorem xr_cons (f : Nat → Bool) (d : Nat) : xr f (d + 1) = (f 0 != xr (fun k => f (k + 1)) d) := by
  have e := xr_add f 1 d
  rw [Nat.add_comm 1 d] at e
  rw [e, xr, xr, Bool.false_bne, xr_c (g := fun k => f (k + 1)) (fun k _ => by rw [Nat.add_comm])]
theorem whF_eq (X Y : Nat → Int) (n : Nat) (u v b : Int) : ∀ (d i : Nat) (w : Bool), whF X Y n u v b i d w = if anyF (fun e => onB X Y e (nx n e) u v b) i d = true then 0 else if (w != xr (fun k => cxB X Y (i + k) (nx n (i + k)) u v b) d) = true then 1 else 2
  | 0, i, w => by
    rw [whF, anyF, xr, Bool.bne_false]
    simp
  | d + 1, i, w => by
    rw [whF, anyF, xr_cons, whF_eq X Y n u v b d (i + 1)]
    by_cases c : onB X Y i (nx n i) u v b = true
    · rw [if_pos c, c]; simp
    · rw [if_neg c]
      rw [Bool.not_eq_true] at c
      rw [c, Bool.false_or]
      congr 2
      rw [Nat.add_zero, xr_c (g := fun k => cxB X Y (i + (k + 1)) (nx n (i + (k + 1))) u v b) (f := fun k => cxB X Y (i + 1 + k) (nx n (i + 1 + k)) u v b) (fun k _ => by rw [show i + 1 + k = i + (k + 1) by omega])]
      cases w <;> cases cxB X Y i (nx n i) u v b <;> cases xr (fun k => cxB X Y (i + (k + 1)) (nx n (i + (k + 1))) u v b) d <;> rfl
theorem cxB_V {X Y : Nat → Int} {p q : Nat} {u v b : Int} (hb : 0 < b) : cxB X Y p q u v b = cV (hat X Y p) (hat X Y q) (u, v, b) := by
  have e : sqB X Y p q u v b = b * dv (hat X Y p) (hat X Y q) (u, v, b) := by unfold sqB dv hat; simp only; grind
  have d3 : decide (b * dv (hat X Y p) (hat X Y q) (u, v, b) < 0) = decide (dv (hat X Y p) (hat X Y q) (u, v, b) < 0) := decide_eq_decide.mpr (neg_mul' hb)
  have d4 : decide (0 < b * dv (hat X Y p) (hat X Y q) (u, v, b)) = decide (0 < dv (hat X Y p) (hat X Y q) (u, v, b)) := decide_eq_decide.mpr (pos_mul hb)
  unfold cxB cV
  rw [e, d3, d4]
  show _ = ((decide (Y p * b ≤ v) != decide (Y q * b ≤ v)) && (if Y q ≤ Y p then _ else _))
  congr 1
  by_cases c : Y q ≤ Y p
  · rw [if_pos c, if_pos ((pos_le hb).mpr c)]
  · rw [if_neg c, if_neg (fun z => c ((pos_le hb).mp z))]
theorem on_nn {X Y : Nat → Int} {p q : Nat} (hpq : 0 < lng X Y p q) {u v b : Int} (hb : 0 < b) : onB X Y p q u v b = true ↔ ¬ Nn (u, v, b) (hat X Y p) (hat X Y q) := by
  have es : sqB X Y p q u v b = b * dv (hat X Y p) (hat X Y q) (u, v, b) := by unfold sqB dv hat; simp only; grind
  unfold onB
  rw [Bool.and_eq_true, Bool.and_eq_true, decide_eq_true_eq, decide_eq_true_eq, decide_eq_true_eq]
  constructor
  · rintro ⟨⟨h1, h2⟩, h3⟩ hn
    rw [es] at h1
    have d0 : dv (hat X Y p) (hat X Y q) (u, v, b) = 0 := (zer_mul hb).mp h1
    unfold dv hat at d0
    simp only at d0
    have put : ∀ i k l : Int, 0 < i → 0 ≤ k → 0 ≤ l → i * u = k * X p + l * X q → i * v = k * Y p + l * Y q → i * b = k + l → False := fun i k l hi hk hl e1 e2 e3 => hn i k l hi hk hl (by
      unfold cb hat
      refine v3_ext ?_ ?_ ?_ <;> simp only [Int.zero_mul, Int.add_zero, Int.mul_one]
      · exact e1
      · exact e2
      · exact e3)
    rcases Int.lt_trichotomy (X p) (X q) with c | c | c
    · have m := Int.mul_lt_mul_of_pos_right c hb
      have s : X p * b ≤ u ∧ u ≤ X q * b := by
        constructor
        · refine Int.not_lt.mp fun z => ?_
          have := Int.mul_pos_of_neg_of_neg (show u - X p * b < 0 by omega) (show u - X q * b < 0 by omega)
          omega
        · refine Int.not_lt.mp fun z => ?_
          have := Int.mul_pos (show 0 < u - X p * b by omega) (show 0 < u - X q * b by omega)
          omega
      exact put (X q - X p) (X q * b - u) (u - X p * b) (by omega) (by omega) (by omega) (by grind) (by grind) (by grind)
    · have u0 : u - X p * b = 0 := by
        rw [← c] at h2
        refine Classical.byContradiction fun z => ?_
        rcases Int.lt_or_gt_of_ne z with y | y
        · have := Int.mul_pos_of_neg_of_neg y y; omega
        · have := Int.mul_pos y y; omega
      rcases Int.lt_trichotomy (Y p) (Y q) with g | g | g
      · have m := Int.mul_lt_mul_of_pos_right g hb
        have s : Y p * b ≤ v ∧ v ≤ Y q * b := by
          constructor
          · refine Int.not_lt.mp fun z => ?_
            have := Int.mul_pos_of_neg_of_neg (show v - Y p * b < 0 by omega) (show v - Y q * b < 0 by omega)
            omega
          · refine Int.not_lt.mp fun z => ?_
            have := Int.mul_pos (show 0 < v - Y p * b by omega) (show 0 < v - Y q * b by omega)
            omega
        exact put (Y q - Y p) (Y q * b - v) (v - Y p * b) (by omega) (by omega) (by omega) (by grind) (by grind) (by grind)
      · unfold lng at hpq
        rw [c, g] at hpq
        simp at hpq
      · have m := Int.mul_lt_mul_of_pos_right g hb
        have s : Y q * b ≤ v ∧ v ≤ Y p * b := by
          constructor
          · refine Int.not_lt.mp fun z => ?_
            have := Int.mul_pos_of_neg_of_neg (show v - Y p * b < 0 by omega) (show v - Y q * b < 0 by omega)
            omega
          · refine Int.not_lt.mp fun z => ?_
            have := Int.mul_pos (show 0 < v - Y p * b by omega) (show 0 < v - Y q * b by omega)
            omega
        exact put (Y p - Y q) (v - Y q * b) (Y p * b - v) (by omega) (by omega) (by omega) (by grind) (by grind) (by grind)
    · have m := Int.mul_lt_mul_of_pos_right c hb
      have s : X q * b ≤ u ∧ u ≤ X p * b := by
        constructor
        · refine Int.not_lt.mp fun z => ?_
          have := Int.mul_pos_of_neg_of_neg (show u - X p * b < 0 by omega) (show u - X q * b < 0 by omega)
          omega
        · refine Int.not_lt.mp fun z => ?_
          have := Int.mul_pos (show 0 < u - X p * b by omega) (show 0 < u - X q * b by omega)
          omega
      exact put (X p - X q) (u - X q * b) (X p * b - u) (by omega) (by omega) (by omega) (by grind) (by grind) (by grind)
  · intro hn
    unfold Nn at hn
    have hx : ∃ i k l : Int, 0 < i ∧ 0 ≤ k ∧ 0 ≤ l ∧ cb i (u, v, b) 0 (u, v, b) = cb k (hat X Y p) l (hat X Y q) := by
      refine Classical.byContradiction fun z => hn fun i k l hi hk hl e => z ⟨i, k, l, hi, hk, hl, e⟩
    obtain ⟨i, k, l, hi, hk, hl, e⟩ := hx
    have d0 := congrArg (dv (hat X Y p) (hat X Y q)) e
    rw [dv_cb, dv_cb, dv_1, dv_2] at d0
    have d1 : dv (hat X Y p) (hat X Y q) (u, v, b) = 0 := (zer_mul hi).mp (by omega)
    have e1 := congrArg (fun z : V3 => z.1) e
    have e2 := congrArg (fun z : V3 => z.2.1) e
    have e3 := congrArg (fun z : V3 => z.2.2) e
    simp only [cb, hat, Int.mul_one, Int.zero_mul, Int.add_zero] at e1 e2 e3
    have ii := Int.mul_pos hi hi
    have kl := Int.mul_nonneg hk hl
    have sq : ∀ z : Int, 0 ≤ z * z := fun z => by rcases Int.le_total 0 z with y | y; exact Int.mul_nonneg y y; exact Int.mul_nonneg_of_nonpos_of_nonpos y y
    have b1 : (i * i) * ((u - X p * b) * (u - X q * b)) = -((k * l) * ((X q - X p) * (X q - X p))) := by
      have w1 : i * (u - X p * b) = l * (X q - X p) := by grind
      have w2 : i * (u - X q * b) = k * (X p - X q) := by grind
      grind
    have b2 : (i * i) * ((v - Y p * b) * (v - Y q * b)) = -((k * l) * ((Y q - Y p) * (Y q - Y p))) := by
      have w1 : i * (v - Y p * b) = l * (Y q - Y p) := by grind
      have w2 : i * (v - Y q * b) = k * (Y p - Y q) := by grind
      grind
    have c1 := Int.mul_nonneg kl (sq (X q - X p))
    have c2 := Int.mul_nonneg kl (sq (Y q - Y p))
    exact ⟨⟨by rw [es, d1, Int.mul_zero], (le_mul ii).mp (by omega)⟩, (le_mul ii).mp (by omega)⟩
/-- on no fence: within or beyond -/
theorem wh_off {n : Nat} {X Y : Nat → Int} (hD : Dst n X Y) (h2 : 2 ≤ n) {u v b : Int} (hb : 0 < b) (h : ∀ e, e < n → Nn (u, v, b) (hat X Y e) (hat X Y (nx n e))) : whM X Y n u v b = if pr (hat X Y) n (u, v, b) = true then 1 else 2 := by
  unfold whM
  have no : anyF (fun e => onB X Y e (nx n e) u v b) 0 n = false := by
    rw [← Bool.not_eq_true, anyF_iff]
    rintro ⟨e, _, h1, h3⟩
    exact (on_nn (hD e (nx n e) (by omega) (nx_lt (by omega)) (Ne.symm (nx_ne h2 (by omega)))) hb).mp h3 (h e (by omega))
  rw [whF_eq, no, if_neg (by simp), Bool.false_bne]
  have : xr (fun k => cxB X Y (0 + k) (nx n (0 + k)) u v b) n = pr (hat X Y) n (u, v, b) := xr_c (fun k hk => by rw [Nat.zero_add]; exact cxB_V hb)
  rw [this]
theorem wh_on {n : Nat} {X Y : Nat → Int} (hD : Dst n X Y) (h2 : 2 ≤ n) {u v b : Int} (hb : 0 < b) {e : Nat} (he : e < n) {i k l : Int} (hi : 0 < i) (hk : 0 ≤ k) (hl : 0 ≤ l) (h : cb i (u, v, b) 0 (u, v, b) = cb k (hat X Y e) l (hat X Y (nx n e))) : whM X Y n u v b = 0 := by
  unfold whM
  have yes : anyF (fun e => onB X Y e (nx n e) u v b) 0 n = true := by
    rw [anyF_iff]
    exact ⟨e, by omega, by omega, (on_nn (hD e (nx n e) he (nx_lt he) (Ne.symm (nx_ne h2 he))) hb).mpr fun z => z i k l hi hk hl h⟩
  rw [whF_eq, yes, if_pos rfl]
