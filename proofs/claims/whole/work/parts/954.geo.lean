/-! A corner at the rim. -/
theorem xr_one (a : Bool) (u : Nat) : ∀ n, xr (fun k => decide (k = u) && a) n = (decide (u < n) && a)
  | 0 => by simp [xr]
  | n + 1 => by
    rw [xr, xr_one a u n]
    by_cases c : u < n
    · rw [decide_eq_true c, decide_eq_true (show u < n + 1 by omega), decide_eq_false (show ¬ n = u by omega)]; cases a <;> rfl
    · by_cases d : n = u
      · rw [decide_eq_false c, decide_eq_true (show u < n + 1 by omega), decide_eq_true d]; cases a <;> rfl
      · rw [decide_eq_false c, decide_eq_false (show ¬ u < n + 1 by omega), decide_eq_false d]; cases a <;> rfl
theorem xr_two {f : Nat → Bool} {n u v : Nat} (hu : u < n) (hv : v < n) (h : u ≠ v) (h0 : ∀ k, k < n → k ≠ u → k ≠ v → f k = false) : xr f n = (f u != f v) := by
  have e : xr f n = xr (fun k => (decide (k = u) && f u) != (decide (k = v) && f v)) n := xr_c (fun k hk => by
    by_cases a : k = u
    · subst a
      rw [decide_eq_true rfl, decide_eq_false h]; cases f k <;> rfl
    · by_cases b : k = v
      · subst b
        rw [decide_eq_true rfl, decide_eq_false a]; cases f k <;> rfl
      · rw [h0 k hk a b, decide_eq_false a, decide_eq_false b]; rfl)
  rw [e, xr_ne, xr_one, xr_one, decide_eq_true hu, decide_eq_true hv]; rfl
theorem xr_1 {f : Nat → Bool} {n u : Nat} (hu : u < n) (h0 : ∀ k, k < n → k ≠ u → f k = false) : xr f n = f u := by
  have e : xr f n = xr (fun k => decide (k = u) && f u) n := xr_c (fun k hk => by
    by_cases a : k = u
    · subst a
      rw [decide_eq_true rfl]; rfl
    · rw [h0 k hk a, decide_eq_false a]; rfl)
  rw [e, xr_one, decide_eq_true hu]; rfl
/-- how far out -/
def oF (c : Int) (P : V3) : Int := 16 * P.1 + P.2.1 - c * P.2.2
theorem oF_cb (c i j : Int) (A B : V3) : oF c (cb i A j B) = i * oF c A + j * oF c B := by unfold oF cb; grind
theorem sg_two {s x y : Int} (hs : s = 1 ∨ s = -1) (hx : x ≠ 0) (hy : y ≠ 0) : (decide (s * x < 0) != decide (s * y < 0)) = decide (x * y < 0) := by
  rcases Int.lt_or_gt_of_ne hx with a | a <;> rcases Int.lt_or_gt_of_ne hy with b | b
  · have := Int.mul_pos_of_neg_of_neg a b
    rw [decide_eq_false (show ¬ x * y < 0 by omega)]
    rcases hs with rfl | rfl
    · rw [decide_eq_true (by omega), decide_eq_true (by omega)]; rfl
    · rw [decide_eq_false (by omega), decide_eq_false (by omega)]; rfl
  · have := Int.mul_neg_of_neg_of_pos a b
    rw [decide_eq_true (show x * y < 0 by omega)]
    rcases hs with rfl | rfl
    · rw [decide_eq_true (by omega), decide_eq_false (by omega)]; rfl
    · rw [decide_eq_false (by omega), decide_eq_true (by omega)]; rfl
  · have := Int.mul_neg_of_pos_of_neg a b
    rw [decide_eq_true (show x * y < 0 by omega)]
    rcases hs with rfl | rfl
    · rw [decide_eq_false (by omega), decide_eq_true (by omega)]; rfl
    · rw [decide_eq_true (by omega), decide_eq_false (by omega)]; rfl
  · have := Int.mul_pos a b
    rw [decide_eq_false (show ¬ x * y < 0 by omega)]
    rcases hs with rfl | rfl
    · rw [decide_eq_false (by omega), decide_eq_false (by omega)]; rfl
    · rw [decide_eq_true (by omega), decide_eq_true (by omega)]; rfl
theorem pr_out {G : Nat → V3} {n : Nat} (hG : oneG n G) {P : V3} (hP : 0 < P.2.2) {c : Int} (h : 0 < oF c P) (hF : ∀ k, k < n → oF c (G k) ≤ 0) : pr G n P = false := by
  refine pr_half hG hP (a := 16) (b := 1) (c := -c) ?_ (fun k hk => ?_)
  · unfold oF at h
    have e : -c * P.2.2 = -(c * P.2.2) := Int.neg_mul ..
    omega
  · have := hF k hk
    unfold oF at this
    rw [hG k hk] at this
    omega
theorem pr_tip {G : Nat → V3} {n : Nat} (hG : oneG n G) {u v : Nat} (hu : u < n) (hv : nx n u = v) (huv : u ≠ v) {c : Int} (hF : ∀ k, k < n → oF c (G k) ≤ 0) (hFv : oF c (G v) = 0) {A : V3} (hA : 0 < A.2.2) (hFA : oF c A < 0) (tu : dv A (G v) (G u) ≠ 0) (tw : dv A (G v) (G (nx n v)) ≠ 0) (h : ∀ e, e < n → e ≠ u → e ≠ v → Ft (G v) A (G e) (G (nx n e))) : pr G n A = decide (dv A (G v) (G u) * dv A (G v) (G (nx n v)) < 0) := by
  have hvn : v < n := by rw [← hv]; exact nx_lt hu
  have gv := hG v hvn
  have hB3 : (cb (2 * A.2.2) (G v) (-1) A).2.2 = A.2.2 := by simp only [cb, gv]; omega
  have hFB : oF c (cb (2 * A.2.2) (G v) (-1) A) = - oF c A := by rw [oF_cb, hFv]; omega
  have tB : ∀ p, dv A (cb (2 * A.2.2) (G v) (-1) A) p = (2 * A.2.2) * dv A (G v) p := fun p => by rw [dv_cb2, dv_0]; omega
  generalize hBB : cb (2 * A.2.2) (G v) (-1) A = B at hB3 hFB tB
  have hB : 0 < B.2.2 := by omega
  have fr : ∀ e, e < n → e ≠ u → e ≠ v → Ft A B (G e) (G (nx n e)) := fun e he e1 e2 i j k l hi hj hk hl q => by
    have q2 : cb i A j B = cb (2 * A.2.2 * j) (G v) (i - j) A := by
      rw [← hBB]; unfold cb; refine v3_ext ?_ ?_ ?_ <;> simp only <;> grind
    by_cases ij : j ≤ i
    · rw [q2] at q
      have w := h e he e1 e2 _ _ _ _ (Int.mul_nonneg (by omega) hj) (by omega) hk hl q
      rcases Int.mul_eq_zero.mp w.1 with z | z <;> omega
    · have w := congrArg (oF c) q
      rw [oF_cb, oF_cb, hFB] at w
      have w1 := Int.mul_nonpos_of_nonneg_of_nonpos hk (hF e he)
      have w2 := Int.mul_nonpos_of_nonneg_of_nonpos hl (hF _ (nx_lt he))
      have w3 : i * oF c A + j * -oF c A = (j - i) * (- oF c A) := by grind
      have := Int.mul_pos (show 0 < j - i by omega) (show 0 < - oF c A by omega)
      omega
  have sv : dv (G v) (G (nx n v)) A = dv A (G v) (G (nx n v)) := dv_rt ..
  have su : dv (G u) (G v) A = - dv A (G v) (G u) := by unfold dv; grind
  have sq : ∀ z : Int, z ≠ 0 → z * -z < 0 := fun z hz => by
    rcases Int.lt_or_gt_of_ne hz with y | y
    · exact Int.mul_neg_of_neg_of_pos y (by omega)
    · exact Int.mul_neg_of_pos_of_neg y (by omega)
  have svB : dv (G v) (G (nx n v)) B = - dv A (G v) (G (nx n v)) := by rw [← hBB, dv_cb, dv_1, sv]; omega
  have suB : dv (G u) (G v) B = dv A (G v) (G u) := by rw [← hBB, dv_cb, dv_2, su]; omega
  obtain ⟨s, hs, e⟩ := pr_AB hG hA hB (fun k hk => by
    by_cases k1 : k = u
    · subst k1
      rw [hv]
      exact Or.inr ⟨fun z => absurd z (by rw [su]; omega), fun z => absurd z (by rw [suB]; exact tu)⟩
    · by_cases k2 : k = v
      · subst k2
        exact Or.inr ⟨fun z => absurd z (by rw [sv]; exact tw), fun z => absurd z (by rw [svB]; omega)⟩
      · exact (fr k hk k1 k2).nt hA hB (hG k hk) (hG _ (nx_lt hk)))
  have pB : pr G n B = false := pr_out hG hB (c := c) (by omega) hF
  rw [xr_two hu hvn huv (fun k hk k1 k2 => (fr k hk k1 k2).hV hA hB (hG k hk) (hG _ (nx_lt hk)) hs), pB, hv] at e
  have h1 : hV s A B (G u) (G v) = decide (s * dv A (G v) (G u) < 0) := by
    unfold hV hN
    rw [su, suB, tB, tB, dv_2, Int.mul_zero, Int.mul_zero, decide_eq_true (show - dv A (G v) (G u) * dv A (G v) (G u) < 0 by rw [Int.mul_comm]; exact sq _ tu), Bool.and_true, decide_eq_false (show ¬ (0 : Int) < 0 by omega), Bool.bne_false]
    refine decide_eq_decide.mpr ?_
    rw [show s * (2 * A.2.2 * dv A (G v) (G u)) = (s * dv A (G v) (G u)) * (2 * A.2.2) by grind]
    have := pos_lt (a := s * dv A (G v) (G u)) (b := 0) (show 0 < 2 * A.2.2 by omega)
    rw [Int.zero_mul] at this
    exact this
  have h2 : hV s A B (G v) (G (nx n v)) = decide (s * dv A (G v) (G (nx n v)) < 0) := by
    unfold hV hN
    rw [sv, svB, tB, tB, dv_2, Int.mul_zero, Int.mul_zero, decide_eq_true (sq _ tw), Bool.and_true, decide_eq_false (show ¬ (0 : Int) < 0 by omega), Bool.false_bne]
    refine decide_eq_decide.mpr ?_
    rw [show s * (2 * A.2.2 * dv A (G v) (G (nx n v))) = (s * dv A (G v) (G (nx n v))) * (2 * A.2.2) by grind]
    have := pos_lt (a := s * dv A (G v) (G (nx n v))) (b := 0) (show 0 < 2 * A.2.2 by omega)
    rw [Int.zero_mul] at this
    exact this
  rw [h1, h2, Bool.bne_false] at e
  rw [e]
  exact sg_two hs tu tw
