/-! Rings made of some fences and a strip. -/
def pS (S : Nat → Bool) (G : Nat → V3) (n : Nat) (x y P : V3) : Bool := xr (fun k => S k && cV (G k) (G (nx n k)) P) n != cV x y P
def clo (S : Nat → Bool) (G : Nat → V3) (n : Nat) (x y : V3) : Prop := ∀ g : V3 → Bool, xr (fun k => S k && (g (G k) != g (G (nx n k)))) n = (g x != g y)
theorem xr_nS (S f g : Nat → Bool) (n : Nat) : xr (fun k => S k && (f k != g k)) n = (xr (fun k => S k && f k) n != xr (fun k => S k && g k) n) := by
  rw [← xr_ne]
  exact xr_c (fun k _ => by cases S k <;> cases f k <;> cases g k <;> rfl)
theorem pS_AB {S : Nat → Bool} {G : Nat → V3} {n : Nat} {x y : V3} (hG : oneG n G) (hx : x.2.2 = 1) (hy : y.2.2 = 1) (hc : clo S G n x y) {A B : V3} (hA : 0 < A.2.2) (hB : 0 < B.2.2) (h : ∀ k, k < n → S k = true → nt A B (G k) (G (nx n k))) (h2 : nt A B x y) : ∃ s : Int, (s = 1 ∨ s = -1) ∧ (pS S G n x y A != pS S G n x y B) = (xr (fun k => S k && hV s A B (G k) (G (nx n k))) n != hV s A B x y) := by
  obtain ⟨s, g, hs, hg⟩ := one_all hA hB
  refine ⟨s, hs, ?_⟩
  have e := hc g
  have e3 := hg x y hx hy h2
  have e2 : xr (fun k => S k && ((cV (G k) (G (nx n k)) A != cV (G k) (G (nx n k)) B) != hV s A B (G k) (G (nx n k)))) n = xr (fun k => S k && (g (G k) != g (G (nx n k)))) n := xr_c (fun k hk => by
    cases c : S k with
    | false => rfl
    | true => rw [hg _ _ (hG k hk) (hG _ (nx_lt hk)) (h k hk c)])
  rw [e, ← e3, xr_nS, xr_nS] at e2
  unfold pS
  revert e2
  cases xr (fun k => S k && cV (G k) (G (nx n k)) A) n <;> cases xr (fun k => S k && cV (G k) (G (nx n k)) B) n <;> cases xr (fun k => S k && hV s A B (G k) (G (nx n k))) n <;> cases cV x y A <;> cases cV x y B <;> cases hV s A B x y <;> simp
theorem pS_free {S : Nat → Bool} {G : Nat → V3} {n : Nat} {x y : V3} (hG : oneG n G) (hx : x.2.2 = 1) (hy : y.2.2 = 1) (hc : clo S G n x y) {A B : V3} (hA : 0 < A.2.2) (hB : 0 < B.2.2) (h : ∀ k, k < n → S k = true → Ft A B (G k) (G (nx n k))) (h2 : Ft A B x y) : pS S G n x y A = pS S G n x y B := by
  obtain ⟨s, hs, e⟩ := pS_AB hG hx hy hc hA hB (fun k hk q => (h k hk q).nt hA hB (hG k hk) (hG _ (nx_lt hk))) (h2.nt hA hB hx hy)
  rw [xr_0 (fun k hk => by cases q : S k with
    | false => rfl
    | true => rw [(h k hk q).hV hA hB (hG k hk) (hG _ (nx_lt hk)) hs]; rfl), h2.hV hA hB hx hy hs] at e
  revert e
  cases pS S G n x y A <;> cases pS S G n x y B <;> simp
theorem cV_half {P : V3} (hP : 0 < P.2.2) {a b c : Int} (h : 0 < a * P.1 + b * P.2.1 + c * P.2.2) {p q : V3} (g1 : p.2.2 = 1) (g2 : q.2.2 = 1) (c1 : a * p.1 + b * p.2.1 + c ≤ 0) (c2 : a * q.1 + b * q.2.1 + c ≤ 0) : cV p q P = (decide (a < 0) && (decide (p.2.1 * P.2.2 ≤ P.2.1) != decide (q.2.1 * P.2.2 ≤ P.2.1))) := by
  have key : ∀ p q : V3, p.2.2 = 1 → q.2.2 = 1 → a * p.1 + b * p.2.1 + c ≤ 0 → a * q.1 + b * q.2.1 + c ≤ 0 → p.2.1 * P.2.2 ≤ P.2.1 → P.2.1 < q.2.1 * P.2.2 → a * dv p q P < 0 := by
    intro p q hp hq h1 h2 h3 h4
    have e : - (a * dv p q P) = (a * P.1 + b * P.2.1 + c * P.2.2) * (q.2.1 - p.2.1) - ((a * p.1 + b * p.2.1 + c) * (q.2.1 * P.2.2 - P.2.1) + (a * q.1 + b * q.2.1 + c) * (P.2.1 - p.2.1 * P.2.2)) := by
      unfold dv; rw [hp, hq]; grind
    have qp : 0 < q.2.1 - p.2.1 := by
      have : p.2.1 * P.2.2 < q.2.1 * P.2.2 := by omega
      have := (pos_lt hP).mp this
      omega
    have m1 := Int.mul_pos h qp
    have m2 := Int.mul_nonpos_of_nonpos_of_nonneg h1 (show 0 ≤ q.2.1 * P.2.2 - P.2.1 by omega)
    have m3 := Int.mul_nonpos_of_nonpos_of_nonneg h2 (show 0 ≤ P.2.1 - p.2.1 * P.2.2 by omega)
    omega
  unfold cV
  by_cases x : p.2.1 * P.2.2 ≤ P.2.1 <;> by_cases y : q.2.1 * P.2.2 ≤ P.2.1
  · rw [decide_eq_true x, decide_eq_true y]; simp
  · have w := key p q g1 g2 c1 c2 x (by omega)
    have qp : ¬ q.2.1 ≤ p.2.1 := fun z => by
      have := (pos_le (a := q.2.1) (b := p.2.1) hP).mpr z
      omega
    rw [decide_eq_true x, decide_eq_false y, if_neg qp, show (true != false) = true from rfl, Bool.true_and, Bool.and_true]
    refine decide_eq_decide.mpr ⟨fun z => ?_, fun z => ?_⟩
    · refine Int.not_le.mp fun u => ?_
      have := Int.mul_nonneg u (show 0 ≤ dv p q P by omega)
      omega
    · refine Int.not_le.mp fun u => ?_
      have := Int.mul_nonneg_of_nonpos_of_nonpos (show a ≤ 0 by omega) u
      omega
  · have w := key q p g2 g1 c2 c1 y (by omega)
    have qp : q.2.1 ≤ p.2.1 := by
      have : q.2.1 * P.2.2 < p.2.1 * P.2.2 := by omega
      have := (pos_lt hP).mp this
      omega
    have s := dv_sw p q P
    rw [s] at w
    rw [decide_eq_false x, decide_eq_true y, if_pos qp, show (false != true) = true from rfl, Bool.true_and, Bool.and_true]
    refine decide_eq_decide.mpr ⟨fun z => ?_, fun z => ?_⟩
    · refine Int.not_le.mp fun u => ?_
      have := Int.mul_nonneg u (show 0 ≤ - dv p q P by omega)
      omega
    · refine Int.not_le.mp fun u => ?_
      have := Int.mul_nonneg_of_nonpos_of_nonpos (show a ≤ 0 by omega) (show - dv p q P ≤ 0 by omega)
      omega
  · rw [decide_eq_false x, decide_eq_false y]; simp
theorem pS_half {S : Nat → Bool} {G : Nat → V3} {n : Nat} {x y : V3} (hG : oneG n G) (hx : x.2.2 = 1) (hy : y.2.2 = 1) (hc : clo S G n x y) {P : V3} (hP : 0 < P.2.2) {a b c : Int} (h : 0 < a * P.1 + b * P.2.1 + c * P.2.2) (hk : ∀ k, k < n → S k = true → a * (G k).1 + b * (G k).2.1 + c ≤ 0 ∧ a * (G (nx n k)).1 + b * (G (nx n k)).2.1 + c ≤ 0) (h1 : a * x.1 + b * x.2.1 + c ≤ 0) (h2 : a * y.1 + b * y.2.1 + c ≤ 0) : pS S G n x y P = false := by
  unfold pS
  rw [cV_half hP h hx hy h1 h2]
  have e : xr (fun k => S k && cV (G k) (G (nx n k)) P) n = xr (fun k => S k && ((fun z : V3 => decide (a < 0) && decide (z.2.1 * P.2.2 ≤ P.2.1)) (G k) != (fun z : V3 => decide (a < 0) && decide (z.2.1 * P.2.2 ≤ P.2.1)) (G (nx n k)))) n := xr_c (fun k q => by
    cases w : S k with
    | false => rfl
    | true =>
      rw [cV_half hP h (hG k q) (hG _ (nx_lt q)) (hk k q w).1 (hk k q w).2]
      cases decide (a < 0) <;> rfl)
  rw [e, hc (fun z : V3 => decide (a < 0) && decide (z.2.1 * P.2.2 ≤ P.2.1))]
  cases decide (a < 0) <;> simp
theorem hV_qp (s : Int) (A B p q : V3) : hV s A B q p = hV s A B p q := by
  unfold hV
  rw [dv_sw p q A, dv_sw p q B, hN_sw]
theorem pS_tip {S : Nat → Bool} {G : Nat → V3} {n : Nat} {v w z : V3} (hG : oneG n G) (hv : v.2.2 = 1) (hz : z.2.2 = 1) (hc : clo S G n v z) {e0 : Nat} (he : e0 < n) (hS : S e0 = true) (hw : (G e0 = v ∧ G (nx n e0) = w) ∨ (G e0 = w ∧ G (nx n e0) = v)) {c : Int} (hF : ∀ k, k < n → oF c (G k) ≤ 0) (hFv : oF c v = 0) (hFz : oF c z ≤ 0) {A : V3} (hA : 0 < A.2.2) (hFA : oF c A < 0) (tw : dv A v w ≠ 0) (tz : dv A v z ≠ 0) (h : ∀ e, e < n → S e = true → e ≠ e0 → Ft v A (G e) (G (nx n e))) : pS S G n v z A = decide (dv A v w * dv A v z < 0) := by
  have hB3 : (cb (2 * A.2.2) v (-1) A).2.2 = A.2.2 := by simp only [cb, hv]; omega
  have hFB : oF c (cb (2 * A.2.2) v (-1) A) = - oF c A := by rw [oF_cb, hFv]; omega
  have tB : ∀ p, dv A (cb (2 * A.2.2) v (-1) A) p = (2 * A.2.2) * dv A v p := fun p => by rw [dv_cb2, dv_0]; omega
  generalize hBB : cb (2 * A.2.2) v (-1) A = B at hB3 hFB tB
  have hB : 0 < B.2.2 := by omega
  have fr : ∀ e, e < n → S e = true → e ≠ e0 → Ft A B (G e) (G (nx n e)) := fun e he s1 e1 i j k l hi hj hk hl q => by
    have q2 : cb i A j B = cb (2 * A.2.2 * j) v (i - j) A := by
      rw [← hBB]; unfold cb; refine v3_ext ?_ ?_ ?_ <;> simp only <;> grind
    by_cases ij : j ≤ i
    · rw [q2] at q
      have w := h e he s1 e1 _ _ _ _ (Int.mul_nonneg (by omega) hj) (by omega) hk hl q
      rcases Int.mul_eq_zero.mp w.1 with z | z <;> omega
    · have w := congrArg (oF c) q
      rw [oF_cb, oF_cb, hFB] at w
      have w1 := Int.mul_nonpos_of_nonneg_of_nonpos hk (hF e he)
      have w2 := Int.mul_nonpos_of_nonneg_of_nonpos hl (hF _ (nx_lt he))
      have w3 : i * oF c A + j * -oF c A = (j - i) * (- oF c A) := by grind
      have := Int.mul_pos (show 0 < j - i by omega) (show 0 < - oF c A by omega)
      omega
  have sq : ∀ z : Int, z ≠ 0 → z * -z < 0 := fun z hz => by
    rcases Int.lt_or_gt_of_ne hz with y | y
    · exact Int.mul_neg_of_neg_of_pos y (by omega)
    · exact Int.mul_neg_of_pos_of_neg y (by omega)
  have sA : ∀ w, dv v w A = dv A v w := fun w => dv_rt ..
  have sB : ∀ w, dv v w B = - dv A v w := fun w => by rw [← hBB, dv_cb, dv_1, sA]; omega
  have ntv : ∀ w, dv A v w ≠ 0 → nt A B v w := fun w hw => Or.inr ⟨fun z => absurd z (by rw [sA]; exact hw), fun z => absurd z (by rw [sB]; omega)⟩
  have ntw : nt A B (G e0) (G (nx n e0)) := by
    rcases hw with ⟨a, b⟩ | ⟨a, b⟩
    · rw [a, b]; exact ntv w tw
    · rw [a, b]
      have := ntv w tw
      unfold nt at this ⊢
      rw [dv_sw v w A, dv_sw v w B, Int.mul_comm (dv A B w)]
      rcases this with q | q
      · left; omega
      · right; exact ⟨fun z => q.1 (by omega), fun z => q.2 (by omega)⟩
  obtain ⟨s, hs, e⟩ := pS_AB hG hv hz hc hA hB (fun k hk sk => by
    by_cases k1 : k = e0
    · subst k1; exact ntw
    · exact (fr k hk sk k1).nt hA hB (hG k hk) (hG _ (nx_lt hk))) (ntv z tz)
  have hvw : ∀ w, dv A v w ≠ 0 → hV s A B v w = decide (s * dv A v w < 0) := fun w hw => by
    unfold hV hN
    rw [sA, sB, tB, tB, dv_2, Int.mul_zero, Int.mul_zero, decide_eq_true (sq _ hw), Bool.and_true, decide_eq_false (show ¬ (0 : Int) < 0 by omega), Bool.false_bne]
    refine decide_eq_decide.mpr ?_
    rw [show s * (2 * A.2.2 * dv A v w) = (s * dv A v w) * (2 * A.2.2) by grind]
    have := pos_lt (a := s * dv A v w) (b := 0) (show 0 < 2 * A.2.2 by omega)
    rw [Int.zero_mul] at this
    exact this
  have h0 : hV s A B (G e0) (G (nx n e0)) = decide (s * dv A v w < 0) := by
    rcases hw with ⟨a, b⟩ | ⟨a, b⟩
    · rw [a, b]; exact hvw w tw
    · rw [a, b, hV_qp]; exact hvw w tw
  have pB : pS S G n v z B = false := by
    have tr : ∀ P : V3, P.2.2 = 1 → oF c P ≤ 0 → 16 * P.1 + 1 * P.2.1 + -c ≤ 0 := fun P h1 h2 => by
      unfold oF at h2; rw [h1] at h2; omega
    refine pS_half hG hv hz hc hB (a := 16) (b := 1) (c := -c) ?_ (fun k hk _ => ⟨tr _ (hG k hk) (hF k hk), tr _ (hG _ (nx_lt hk)) (hF _ (nx_lt hk))⟩) (tr _ hv (by omega)) (tr _ hz hFz)
    have : 0 < oF c B := by omega
    unfold oF at this
    have e : -c * B.2.2 = -(c * B.2.2) := Int.neg_mul ..
    omega
  rw [xr_1 he (fun k hk k1 => by cases sk : S k with
    | false => rfl
    | true => rw [(fr k hk sk k1).hV hA hB (hG k hk) (hG _ (nx_lt hk)) hs]; rfl), pB, hS, Bool.true_and, h0, hvw z tz, Bool.bne_false, sg_two hs tw tz] at e
  exact e
