/-! The strip that cuts off the corner farthest out. -/
section
variable {n : Nat} {G : Nat → V3} {u v a b : Nat} {c : Int}
theorem Rim.ein (h : Rim n G u v c a b) (hno : ∀ r, r < n → ¬ Cd n G v a b r) {e : Nat} (he : e < n) {k l : Int} (hk : 0 ≤ k) (hl : 0 ≤ l) (tA : 0 < bA (G v) (G a) (G b) (cb k (G e) l (G (nx n e)))) (tB : 0 < bB (G v) (G a) (G b) (cb k (G e) l (G (nx n e)))) : ¬ 0 < bC (G v) (G a) (G b) (cb k (G e) l (G (nx n e))) := fun tC => by
  obtain ⟨r, r0, r1, r2, r3, r4, r5, r6, r7⟩ := h.blk he hk hl tA tB tC
  exact hno r r0 ⟨r1, r2, r3, r4, r5, by omega⟩
/-- a little way on from T towards P -/
theorem far (x y : Int) (hx : 0 < x) (y0 : 0 ≤ y) (z : Int) (hz : -y ≤ z) : 0 < (y + 1) * x + z := by
  have := Int.mul_le_mul_of_nonneg_left (show 1 ≤ x by omega) (show 0 ≤ y + 1 by omega)
  omega
theorem Rim.eflat (h : Rim n G u v c a b) (hno : ∀ r, r < n → ¬ Cd n G v a b r) {e : Nat} (he : e < n) {k l : Int} (hk : 0 ≤ k) (hl : 0 ≤ l) (tA : 0 < bA (G v) (G a) (G b) (cb k (G e) l (G (nx n e)))) (tB : 0 < bB (G v) (G a) (G b) (cb k (G e) l (G (nx n e)))) : bC (G v) (G a) (G b) (G e) ≤ 0 ∧ bC (G v) (G a) (G b) (G (nx n e)) ≤ 0 ∨ bC (G v) (G a) (G b) (cb k (G e) l (G (nx n e))) < 0 := by
  by_cases tC : bC (G v) (G a) (G b) (cb k (G e) l (G (nx n e))) < 0
  · exact Or.inr tC
  · left
    have st : ∀ (x y : Int), 0 ≤ x → 0 ≤ y → (cb x (G e) y (G (nx n e)) = G e ∨ cb x (G e) y (G (nx n e)) = G (nx n e)) → bC (G v) (G a) (G b) (cb x (G e) y (G (nx n e))) ≤ 0 := by
      intro x y hx hy hq
      refine Int.not_lt.mp fun pos => ?_
      obtain ⟨N, hN⟩ : ∃ N : Int, N = (bA (G v) (G a) (G b) (cb x (G e) y (G (nx n e)))).natAbs + (bB (G v) (G a) (G b) (cb x (G e) y (G (nx n e)))).natAbs := ⟨_, rfl⟩
      have N0 : 0 ≤ N := by omega
      have e1 : cb ((N + 1) * k + x) (G e) ((N + 1) * l + y) (G (nx n e)) = cb (N + 1) (cb k (G e) l (G (nx n e))) 1 (cb x (G e) y (G (nx n e))) := by
        unfold cb; refine v3_ext ?_ ?_ ?_ <;> simp only <;> grind
      have p1 : 0 ≤ (N + 1) * k + x := by have := Int.mul_nonneg (show 0 ≤ N + 1 by omega) hk; omega
      have p2 : 0 ≤ (N + 1) * l + y := by have := Int.mul_nonneg (show 0 ≤ N + 1 by omega) hl; omega
      refine h.ein hno he p1 p2 ?_ ?_ ?_
      · rw [e1, bA_cb, Int.one_mul]; exact far _ N tA N0 _ (by omega)
      · rw [e1, bB_cb, Int.one_mul]; exact far _ N tB N0 _ (by omega)
      · rw [e1, bC_cb, Int.one_mul]
        have := Int.mul_nonneg (show 0 ≤ N + 1 by omega) (show 0 ≤ bC (G v) (G a) (G b) (cb k (G e) l (G (nx n e))) by omega)
        omega
    have x1 : cb 1 (G e) 0 (G (nx n e)) = G e := by unfold cb; refine v3_ext ?_ ?_ ?_ <;> simp only <;> omega
    have x2 : cb 0 (G e) 1 (G (nx n e)) = G (nx n e) := by unfold cb; refine v3_ext ?_ ?_ ?_ <;> simp only <;> omega
    have y1 := st 1 0 (by omega) (by omega) (Or.inl x1)
    have y2 := st 0 1 (by omega) (by omega) (Or.inr x2)
    rw [x1] at y1
    rw [x2] at y2
    exact ⟨y1, y2⟩
theorem Rim.nadj (h : Rim n G u v c a b) (h4 : 4 ≤ n) : nx n a ≠ b ∧ nx n b ≠ a := by
  have hu := h.2.1
  have hv := h.2.2.1
  have huv := h.2.2.2.1
  have k1 : nx n u ≠ nx n v := by rw [huv]; exact Ne.symm h.ne.2.1
  have k2 : nx n (nx n v) ≠ u := by rw [← huv]; unfold nx; (repeat' split) <;> omega
  rcases h.2.2.2.2.2.2.2 with ⟨rfl, rfl⟩ | ⟨rfl, rfl⟩
  · exact ⟨k1, k2⟩
  · exact ⟨k2, k1⟩
theorem mul_nn {x y : Int} (h : ¬ x * y < 0) (s : ∃ k l : Int, 0 ≤ k ∧ 0 ≤ l ∧ 0 < k * x + l * y) : 0 ≤ x ∧ 0 ≤ y := by
  obtain ⟨k, l, hk, hl, w⟩ := s
  by_cases a : x < 0
  · exfalso
    have y0 : y ≤ 0 := Int.not_lt.mp fun z => h (Int.mul_neg_of_neg_of_pos a z)
    have := Int.mul_nonpos_of_nonneg_of_nonpos hk (show x ≤ 0 by omega)
    have := Int.mul_nonpos_of_nonneg_of_nonpos hl y0
    omega
  · by_cases b : y < 0
    · exfalso
      have x0 : x ≤ 0 := Int.not_lt.mp fun z => h (Int.mul_neg_of_pos_of_neg z b)
      have := Int.mul_nonpos_of_nonneg_of_nonpos hk x0
      have := Int.mul_nonpos_of_nonneg_of_nonpos hl (show y ≤ 0 by omega)
      omega
    · exact ⟨by omega, by omega⟩
theorem Rim.ecl (h : Rim n G u v c a b) (h4 : 4 ≤ n) (hno : ∀ r, r < n → ¬ Cd n G v a b r) {e : Nat} (he : e < n) : Cl (G a) (G b) (G e) (G (nx n e)) := fun i j k l hi hj hk hl q => by
  obtain ⟨a1, a2, a3, a4, a5⟩ := h.ab
  have hD := h.2.2.2.2.2.2.1
  have first : i = 0 ∨ j = 0 := by
    refine Classical.byContradiction fun w => ?_
    have hi0 : 0 < i := by omega
    have hj0 : 0 < j := by omega
    have sA : bA (G v) (G a) (G b) (cb k (G e) l (G (nx n e))) = i * dv (G v) (G a) (G b) := by rw [← q, bA_cb, bA_a, bA_b]; omega
    have sB : bB (G v) (G a) (G b) (cb k (G e) l (G (nx n e))) = j * dv (G v) (G a) (G b) := by rw [← q, bB_cb, bB_a, bB_b]; omega
    have sC : bC (G v) (G a) (G b) (cb k (G e) l (G (nx n e))) = 0 := by rw [← q, bC_cb, bC_a, bC_b]; omega
    have tA := Int.mul_pos hi0 hD
    have tB := Int.mul_pos hj0 hD
    rw [← sA] at tA
    rw [← sB] at tB
    have hp := nx_lt he
    -- an end in the three-cornered field is a or b
    have inn : ∀ r, r < n → 0 ≤ bA (G v) (G a) (G b) (G r) → 0 ≤ bB (G v) (G a) (G b) (G r) → bC (G v) (G a) (G b) (G r) = 0 → r = a ∨ r = b := fun r hr r1 r2 r3 => by
      refine Classical.byContradiction fun z => hno r hr ⟨fun y => ?_, fun y => z (Or.inl y), fun y => z (Or.inr y), r1, r2, by omega⟩
      rw [y, bC_v] at r3; omega
    have fl := h.eflat hno he hk hl tA tB
    have fl2 : bC (G v) (G a) (G b) (G e) ≤ 0 ∧ bC (G v) (G a) (G b) (G (nx n e)) ≤ 0 := by
      rcases fl with f | f
      · exact f
      · omega
    have c0 : k * bC (G v) (G a) (G b) (G e) + l * bC (G v) (G a) (G b) (G (nx n e)) = 0 := by rw [← bC_cb]; exact sC
    have cA : 0 < k * bA (G v) (G a) (G b) (G e) + l * bA (G v) (G a) (G b) (G (nx n e)) := by rw [← bA_cb]; exact tA
    have cB : 0 < k * bB (G v) (G a) (G b) (G e) + l * bB (G v) (G a) (G b) (G (nx n e)) := by rw [← bB_cb]; exact tB
    have z1 := Int.mul_nonpos_of_nonneg_of_nonpos hk fl2.1
    have z2 := Int.mul_nonpos_of_nonneg_of_nonpos hl fl2.2
    have g1 : k = 0 ∨ bC (G v) (G a) (G b) (G e) = 0 := Int.mul_eq_zero.mp (by omega)
    have g2 : l = 0 ∨ bC (G v) (G a) (G b) (G (nx n e)) = 0 := Int.mul_eq_zero.mp (by omega)
    have two : ∀ r, r < n → r = a ∨ r = b → ¬ (0 < bA (G v) (G a) (G b) (G r) ∧ 0 < bB (G v) (G a) (G b) (G r)) := fun r _ r1 => by
      rintro ⟨r2, r3⟩
      rcases r1 with rfl | rfl
      · rw [bB_a] at r3; omega
      · rw [bA_b] at r2; omega
    have pos : ∀ {x y : Int}, 0 ≤ x → 0 < x * y → 0 < y := fun {x y} x0 xy => Int.not_le.mp fun z => by
      have := Int.mul_nonpos_of_nonneg_of_nonpos x0 z; omega
    by_cases k0 : k = 0
    · rw [k0, Int.zero_mul, Int.zero_add] at cA cB
      have l0 : l ≠ 0 := fun z => by rw [z, Int.zero_mul] at cA; omega
      have p1 := pos hl cA
      have p2 := pos hl cB
      exact two _ hp (inn _ hp (by omega) (by omega) (by omega)) ⟨p1, p2⟩
    · by_cases l0 : l = 0
      · rw [l0, Int.zero_mul, Int.add_zero] at cA cB
        have p1 := pos hk cA
        have p2 := pos hk cB
        exact two _ he (inn _ he (by omega) (by omega) (by omega)) ⟨p1, p2⟩
      · have gp : bC (G v) (G a) (G b) (G e) = 0 := by omega
        have gq : bC (G v) (G a) (G b) (G (nx n e)) = 0 := by omega
        have bs1 := bary_s (P := G e) (h.1.f3 h.2.2.1) (h.1.f3 a1) (h.1.f3 a2)
        have bs2 := bary_s (P := G (nx n e)) (h.1.f3 h.2.2.1) (h.1.f3 a1) (h.1.f3 a2)
        rw [h.1.f3 he, Int.mul_one, gp, Int.add_zero] at bs1
        rw [h.1.f3 hp, Int.mul_one, gq, Int.add_zero] at bs2
        have nA : ¬ bA (G v) (G a) (G b) (G e) * bA (G v) (G a) (G b) (G (nx n e)) < 0 := fun y => by
          -- b lies on the fence, not at its ends
          have e0 : bC (G v) (G a) (G b) (cb (bA (G v) (G a) (G b) (G (nx n e))) (G e) (-(bA (G v) (G a) (G b) (G e))) (G (nx n e))) = 0 := by rw [bC_cb, gp, gq]; omega
          have e1 : bA (G v) (G a) (G b) (cb (bA (G v) (G a) (G b) (G (nx n e))) (G e) (-(bA (G v) (G a) (G b) (G e))) (G (nx n e))) = 0 := by rw [bA_cb]; grind
          have e2 : bB (G v) (G a) (G b) (cb (bA (G v) (G a) (G b) (G (nx n e))) (G e) (-(bA (G v) (G a) (G b) (G e))) (G (nx n e))) = dv (G v) (G a) (G b) * (bA (G v) (G a) (G b) (G (nx n e)) - bA (G v) (G a) (G b) (G e)) := by rw [bB_cb]; grind
          have w := bary_a e1
          rw [e0, e2] at w
          generalize bA (G v) (G a) (G b) (G e) = x at *
          generalize bA (G v) (G a) (G b) (G (nx n e)) = x' at *
          have w2 : cb (dv (G v) (G a) (G b) * (x' - x)) (G b) 0 (G v) = cb (dv (G v) (G a) (G b) * x') (G e) (dv (G v) (G a) (G b) * -x) (G (nx n e)) := by
            rw [cb_sw, ← w]
            unfold cb; refine v3_ext ?_ ?_ ?_ <;> simp only <;> grind
          have w3 : cb (dv (G v) (G a) (G b) * (x - x')) (G b) 0 (G v) = cb (dv (G v) (G a) (G b) * -x') (G e) (dv (G v) (G a) (G b) * x) (G (nx n e)) := by
            have := cb_neg w2
            rw [Int.neg_zero] at this
            rw [show dv (G v) (G a) (G b) * (x - x') = -(dv (G v) (G a) (G b) * (x' - x)) by grind, this]
            rw [show -(dv (G v) (G a) (G b) * x') = dv (G v) (G a) (G b) * -x' by grind, show -(dv (G v) (G a) (G b) * -x) = dv (G v) (G a) (G b) * x by grind]
          rcases mul_neg_s y with ⟨y1, y2⟩ | ⟨y1, y2⟩
          · rcases h.1.pt a2 he (Int.mul_nonneg (by omega) (by omega)) (Int.mul_nonneg (by omega) (by omega)) (Int.mul_nonneg (by omega) (by omega)) w2 with t | t <;> rcases Int.mul_eq_zero.mp t with s | s <;> omega
          · rcases h.1.pt a2 he (Int.mul_nonneg (by omega) (by omega)) (Int.mul_nonneg (by omega) (by omega)) (Int.mul_nonneg (by omega) (by omega)) w3 with t | t <;> rcases Int.mul_eq_zero.mp t with s | s <;> omega
        have nB : ¬ bB (G v) (G a) (G b) (G e) * bB (G v) (G a) (G b) (G (nx n e)) < 0 := fun y => by
          have e0 : bC (G v) (G a) (G b) (cb (bB (G v) (G a) (G b) (G (nx n e))) (G e) (-(bB (G v) (G a) (G b) (G e))) (G (nx n e))) = 0 := by rw [bC_cb, gp, gq]; omega
          have e1 : bB (G v) (G a) (G b) (cb (bB (G v) (G a) (G b) (G (nx n e))) (G e) (-(bB (G v) (G a) (G b) (G e))) (G (nx n e))) = 0 := by rw [bB_cb]; grind
          have e2 : bA (G v) (G a) (G b) (cb (bB (G v) (G a) (G b) (G (nx n e))) (G e) (-(bB (G v) (G a) (G b) (G e))) (G (nx n e))) = dv (G v) (G a) (G b) * (bB (G v) (G a) (G b) (G (nx n e)) - bB (G v) (G a) (G b) (G e)) := by rw [bA_cb]; grind
          have w := bary_b e1
          rw [e0, e2] at w
          generalize bB (G v) (G a) (G b) (G e) = x at *
          generalize bB (G v) (G a) (G b) (G (nx n e)) = x' at *
          have w2 : cb (dv (G v) (G a) (G b) * (x' - x)) (G a) 0 (G v) = cb (dv (G v) (G a) (G b) * x') (G e) (dv (G v) (G a) (G b) * -x) (G (nx n e)) := by
            rw [cb_sw, ← w]
            unfold cb; refine v3_ext ?_ ?_ ?_ <;> simp only <;> grind
          have w3 : cb (dv (G v) (G a) (G b) * (x - x')) (G a) 0 (G v) = cb (dv (G v) (G a) (G b) * -x') (G e) (dv (G v) (G a) (G b) * x) (G (nx n e)) := by
            have := cb_neg w2
            rw [Int.neg_zero] at this
            rw [show dv (G v) (G a) (G b) * (x - x') = -(dv (G v) (G a) (G b) * (x' - x)) by grind, this]
            rw [show -(dv (G v) (G a) (G b) * x') = dv (G v) (G a) (G b) * -x' by grind, show -(dv (G v) (G a) (G b) * -x) = dv (G v) (G a) (G b) * x by grind]
          rcases mul_neg_s y with ⟨y1, y2⟩ | ⟨y1, y2⟩
          · rcases h.1.pt a1 he (Int.mul_nonneg (by omega) (by omega)) (Int.mul_nonneg (by omega) (by omega)) (Int.mul_nonneg (by omega) (by omega)) w2 with t | t <;> rcases Int.mul_eq_zero.mp t with s | s <;> omega
          · rcases h.1.pt a1 he (Int.mul_nonneg (by omega) (by omega)) (Int.mul_nonneg (by omega) (by omega)) (Int.mul_nonneg (by omega) (by omega)) w3 with t | t <;> rcases Int.mul_eq_zero.mp t with s | s <;> omega
        obtain ⟨A1, A2⟩ := mul_nn nA ⟨k, l, hk, hl, cA⟩
        obtain ⟨B1, B2⟩ := mul_nn nB ⟨k, l, hk, hl, cB⟩
        have i1 := inn _ he A1 B1 gp
        have i2 := inn _ hp A2 B2 gq
        have ne := nx_ne (show 2 ≤ n by omega) he
        obtain ⟨d1, d2⟩ := h.nadj h4
        rcases i1 with r1 | r1 <;> rcases i2 with r2 | r2
        · exact ne (by rw [r2, r1])
        · exact d1 (by rw [← r1]; exact r2)
        · exact d2 (by rw [← r1]; exact r2)
        · exact ne (by rw [r2, r1])
  refine ⟨first, ?_⟩
  rcases first with rfl | rfl
  · exact h.1.pt a2 he hj hk hl (X := G a) (by rw [← q, cb_sw])
  · exact h.1.pt a1 he hi hk hl (X := G b) q
end
