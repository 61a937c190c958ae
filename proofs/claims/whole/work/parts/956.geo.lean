/-! Sound fields, told by points of both fences. -/
def Cl (a b c d : V3) : Prop := ∀ i j k l : Int, 0 ≤ i → 0 ≤ j → 0 ≤ k → 0 ≤ l → cb i a j b = cb k c l d → (i = 0 ∨ j = 0) ∧ (k = 0 ∨ l = 0)
def SnG (n : Nat) (G : Nat → V3) : Prop := 3 ≤ n ∧ oneG n G ∧ (∀ k, k < n → 0 ≤ (G k).1 ∧ (G k).1 ≤ 15 ∧ 0 ≤ (G k).2.1 ∧ (G k).2.1 ≤ 15) ∧ (∀ i j, i < n → j < n → i ≠ j → G i ≠ G j) ∧ (∀ e k, e < n → k < n → e ≠ k → Cl (G e) (G (nx n e)) (G k) (G (nx n k)))
theorem Cl.sw {a b c d : V3} (h : Cl a b c d) : Cl c d a b := fun i j k l hi hj hk hl e => by
  have := h k l i j hk hl hi hj e.symm
  exact ⟨this.2, this.1⟩
theorem Cl.s2 {a b c d : V3} (h : Cl a b c d) : Cl a b d c := fun i j k l hi hj hk hl e => by
  have := h i j l k hi hj hl hk (by rw [e, cb_sw])
  exact ⟨this.1, this.2.symm⟩
theorem Cl.s1 {a b c d : V3} (h : Cl a b c d) : Cl b a c d := h.sw.s2.sw
theorem pv_eq {P Q R S : V3} (hP : P.2.2 = 1) (hQ : Q.2.2 = 1) {i j : Int} (hi : i ≠ 0) (h : cb i P 0 R = cb j Q 0 S) : P = Q ∧ i = j := by
  have h1 := congrArg (fun z : V3 => z.1) h
  have h2 := congrArg (fun z : V3 => z.2.1) h
  have h3 := congrArg (fun z : V3 => z.2.2) h
  simp only [cb, Int.zero_mul, Int.add_zero, hP, hQ, Int.mul_one] at h1 h2 h3
  subst h3
  exact ⟨v3_ext (Int.eq_of_mul_eq_mul_left hi h1) (Int.eq_of_mul_eq_mul_left hi h2) (by rw [hP, hQ]), rfl⟩
/-- no common end: no common point -/
theorem Cl.ft {a b c d : V3} (h : Cl a b c d) (ha : a.2.2 = 1) (hb : b.2.2 = 1) (hc : c.2.2 = 1) (hd : d.2.2 = 1) (n1 : a ≠ c) (n2 : a ≠ d) (n3 : b ≠ c) (n4 : b ≠ d) : Ft a b c d := fun i j k l hi hj hk hl e => by
  obtain ⟨p, q⟩ := h i j k l hi hj hk hl e
  rcases p with rfl | rfl <;> rcases q with rfl | rfl
  · refine ⟨rfl, Classical.byContradiction fun z => n4 (pv_eq hb hd z (R := a) (S := c) (j := l) ?_).1⟩
    rw [cb_sw j, cb_sw l]; exact e
  · refine ⟨rfl, Classical.byContradiction fun z => n3 (pv_eq hb hc z (R := a) (S := d) (j := k) ?_).1⟩
    rw [cb_sw j]; exact e
  · refine ⟨Classical.byContradiction fun z => n2 (pv_eq ha hd z (R := b) (S := c) (j := l) ?_).1, rfl⟩
    rw [cb_sw l]; exact e
  · exact ⟨Classical.byContradiction fun z => n1 (pv_eq ha hc z e).1, rfl⟩
theorem nx_ne {n i : Nat} (h : 2 ≤ n) (hi : i < n) : nx n i ≠ i := by unfold nx; split <;> omega
/-- a corner on a fence is one of its ends -/
theorem SnG.pt {n : Nat} {G : Nat → V3} (h : SnG n G) {r e : Nat} (hr : r < n) (he : e < n) {j k l : Int} {X : V3} (hj : 0 ≤ j) (hk : 0 ≤ k) (hl : 0 ≤ l) (q : cb j (G r) 0 X = cb k (G e) l (G (nx n e))) : k = 0 ∨ l = 0 := by
  by_cases c : r = e
  · subst c
    right
    refine Classical.byContradiction fun z => ?_
    have h3 := congrArg (fun z : V3 => z.2.2) q
    have h1 := congrArg (fun z : V3 => z.1) q
    have h2 := congrArg (fun z : V3 => z.2.1) q
    have o1 := h.2.1 r hr
    have o2 := h.2.1 _ (nx_lt hr)
    simp only [cb, Int.zero_mul, Int.add_zero, o1, o2, Int.mul_one] at h1 h2 h3
    subst h3
    rw [Int.add_mul] at h1 h2
    refine h.2.2.2.1 r _ hr (nx_lt hr) (Ne.symm (nx_ne (by have := h.1; omega) hr)) (v3_ext (Int.eq_of_mul_eq_mul_left z (by omega)) (Int.eq_of_mul_eq_mul_left z (by omega)) (by rw [o1, o2]))
  · exact (h.2.2.2.2 r e hr he c j 0 k l hj (by omega) hk hl (by rw [cb_0 j _ _ X]; exact q)).2
theorem SnG.cor {n : Nat} {G : Nat → V3} (h : SnG n G) {r e : Nat} (hr : r < n) (he : e < n) (h1 : r ≠ e) (h2 : r ≠ nx n e) : Nn (G r) (G e) (G (nx n e)) := fun i k l hi hk hl q => by
  have o1 := h.2.1 r hr
  have o2 := h.2.1 e he
  have o3 := h.2.1 _ (nx_lt he)
  rcases h.pt hr he (by omega) hk hl q with rfl | rfl
  · have q2 : cb i (G r) 0 (G r) = cb l (G (nx n e)) 0 (G e) := by rw [q, cb_sw]
    exact h.2.2.2.1 r _ hr (nx_lt he) h2 (pv_eq o1 o3 (by omega) q2).1
  · exact h.2.2.2.1 r e hr he h1 (pv_eq o1 o2 (by omega) q).1
/-- a place in a three-cornered field -/
def bA (v a b P : V3) : Int := dv v P b
def bB (v a b P : V3) : Int := dv v a P
def bC (v a b P : V3) : Int := dv P a b
theorem bA_cb (v a b : V3) (i : Int) (P : V3) (j : Int) (Q : V3) : bA v a b (cb i P j Q) = i * bA v a b P + j * bA v a b Q := dv_cb2 ..
theorem bB_cb (v a b : V3) (i : Int) (P : V3) (j : Int) (Q : V3) : bB v a b (cb i P j Q) = i * bB v a b P + j * bB v a b Q := dv_cb ..
theorem bC_cb (v a b : V3) (i : Int) (P : V3) (j : Int) (Q : V3) : bC v a b (cb i P j Q) = i * bC v a b P + j * bC v a b Q := dv_cb1 ..
theorem bary_a {v a b P : V3} (h : bA v a b P = 0) : cb (dv v a b) P 0 P = cb (bC v a b P) v (bB v a b P) b := by
  unfold bA bB bC dv at *
  unfold cb
  refine v3_ext ?_ ?_ ?_ <;> simp only <;> grind
theorem bary_b {v a b P : V3} (h : bB v a b P = 0) : cb (dv v a b) P 0 P = cb (bC v a b P) v (bA v a b P) a := by
  unfold bA bB bC dv at *
  unfold cb
  refine v3_ext ?_ ?_ ?_ <;> simp only <;> grind
theorem bary_c {v a b P : V3} (h : bC v a b P = 0) : cb (dv v a b) P 0 P = cb (bA v a b P) a (bB v a b P) b := by
  unfold bA bB bC dv at *
  unfold cb
  refine v3_ext ?_ ?_ ?_ <;> simp only <;> grind
theorem bary_s {v a b P : V3} (hv : v.2.2 = 1) (ha : a.2.2 = 1) (hb : b.2.2 = 1) : bA v a b P + bB v a b P + bC v a b P = dv v a b * P.2.2 := by
  unfold bA bB bC dv
  rw [hv, ha, hb]
  grind

theorem block1 {v a b p q : V3} (hD : 0 < dv v a b) (cA : Cl p q v a) (cB : Cl p q v b) {k l : Int} (hk : 0 ≤ k) (hl : 0 ≤ l) (tA : 0 < bA v a b (cb k p l q)) (tB : 0 < bB v a b (cb k p l q)) (tC : 0 < bC v a b (cb k p l q)) (hg : 0 < bC v a b p) : 0 ≤ bA v a b p ∧ 0 ≤ bB v a b p := by
  rw [bA_cb] at tA
  rw [bB_cb] at tB
  rw [bC_cb] at tC
  have ka : ¬ (bA v a b p < 0 ∧ bA v a b p * (k * bB v a b p + l * bB v a b q) ≤ (k * bA v a b p + l * bA v a b q) * bB v a b p) := by
    rintro ⟨h1, h2⟩
    have e1 : bA v a b (cb ((k * bA v a b p + l * bA v a b q) - bA v a b p * k) p (-(bA v a b p) * l) q) = 0 := by rw [bA_cb]; grind
    have e2 : bB v a b (cb ((k * bA v a b p + l * bA v a b q) - bA v a b p * k) p (-(bA v a b p) * l) q) = (k * bA v a b p + l * bA v a b q) * bB v a b p - bA v a b p * (k * bB v a b p + l * bB v a b q) := by rw [bB_cb]; grind
    have e3 : bC v a b (cb ((k * bA v a b p + l * bA v a b q) - bA v a b p * k) p (-(bA v a b p) * l) q) = (k * bA v a b p + l * bA v a b q) * bC v a b p - bA v a b p * (k * bC v a b p + l * bC v a b q) := by rw [bC_cb]; grind
    have w := bary_a e1
    have m1 := Int.mul_nonpos_of_nonpos_of_nonneg (show bA v a b p ≤ 0 by omega) hk
    have m2 : 0 ≤ -(bA v a b p) * l := Int.mul_nonneg (by omega) hl
    have m3 := Int.mul_pos tA hg
    have m4 := Int.mul_neg_of_neg_of_pos h1 tC
    have w2 : cb (dv v a b * ((k * bA v a b p + l * bA v a b q) - bA v a b p * k)) p (dv v a b * (-(bA v a b p) * l)) q = cb (dv v a b) (cb ((k * bA v a b p + l * bA v a b q) - bA v a b p * k) p (-(bA v a b p) * l) q) 0 (cb ((k * bA v a b p + l * bA v a b q) - bA v a b p * k) p (-(bA v a b p) * l) q) := by
      unfold cb; refine v3_ext ?_ ?_ ?_ <;> simp only <;> grind
    rw [w] at w2
    have pos : 0 < (k * bA v a b p + l * bA v a b q) - bA v a b p * k := by omega
    obtain ⟨r1, r2⟩ := cB _ _ _ _ (Int.le_of_lt (Int.mul_pos hD pos)) (Int.mul_nonneg (by omega) m2) (by rw [e3]; omega) (by rw [e2]; omega) w2
    have l0 : l = 0 := by
      rcases r1 with r | r
      · have := Int.mul_pos hD pos; omega
      · rcases Int.mul_eq_zero.mp r with z | z
        · omega
        · rcases Int.mul_eq_zero.mp z with y | y <;> omega
    subst l0
    have := Int.mul_nonpos_of_nonneg_of_nonpos hk (show bA v a b p ≤ 0 by omega)
    omega
  have kb : ¬ (bB v a b p < 0 ∧ bB v a b p * (k * bA v a b p + l * bA v a b q) ≤ (k * bB v a b p + l * bB v a b q) * bA v a b p) := by
    rintro ⟨h1, h2⟩
    have e1 : bB v a b (cb ((k * bB v a b p + l * bB v a b q) - bB v a b p * k) p (-(bB v a b p) * l) q) = 0 := by rw [bB_cb]; grind
    have e2 : bA v a b (cb ((k * bB v a b p + l * bB v a b q) - bB v a b p * k) p (-(bB v a b p) * l) q) = (k * bB v a b p + l * bB v a b q) * bA v a b p - bB v a b p * (k * bA v a b p + l * bA v a b q) := by rw [bA_cb]; grind
    have e3 : bC v a b (cb ((k * bB v a b p + l * bB v a b q) - bB v a b p * k) p (-(bB v a b p) * l) q) = (k * bB v a b p + l * bB v a b q) * bC v a b p - bB v a b p * (k * bC v a b p + l * bC v a b q) := by rw [bC_cb]; grind
    have w := bary_b e1
    have m1 := Int.mul_nonpos_of_nonpos_of_nonneg (show bB v a b p ≤ 0 by omega) hk
    have m2 : 0 ≤ -(bB v a b p) * l := Int.mul_nonneg (by omega) hl
    have m3 := Int.mul_pos tB hg
    have m4 := Int.mul_neg_of_neg_of_pos h1 tC
    have w2 : cb (dv v a b * ((k * bB v a b p + l * bB v a b q) - bB v a b p * k)) p (dv v a b * (-(bB v a b p) * l)) q = cb (dv v a b) (cb ((k * bB v a b p + l * bB v a b q) - bB v a b p * k) p (-(bB v a b p) * l) q) 0 (cb ((k * bB v a b p + l * bB v a b q) - bB v a b p * k) p (-(bB v a b p) * l) q) := by
      unfold cb; refine v3_ext ?_ ?_ ?_ <;> simp only <;> grind
    rw [w] at w2
    have pos : 0 < (k * bB v a b p + l * bB v a b q) - bB v a b p * k := by omega
    obtain ⟨r1, r2⟩ := cA _ _ _ _ (Int.le_of_lt (Int.mul_pos hD pos)) (Int.mul_nonneg (by omega) m2) (by rw [e3]; omega) (by rw [e2]; omega) w2
    have l0 : l = 0 := by
      rcases r1 with r | r
      · have := Int.mul_pos hD pos; omega
      · rcases Int.mul_eq_zero.mp r with z | z
        · omega
        · rcases Int.mul_eq_zero.mp z with y | y <;> omega
    subst l0
    have := Int.mul_nonpos_of_nonneg_of_nonpos hk (show bB v a b p ≤ 0 by omega)
    omega
  generalize bA v a b p = x at *
  generalize bB v a b p = y at *
  generalize k * x + l * bA v a b q = tx at *
  generalize k * y + l * bB v a b q = ty at *
  by_cases x0 : x < 0
  · exfalso
    by_cases y0 : y < 0
    · by_cases z : x * ty ≤ tx * y
      · exact ka ⟨x0, z⟩
      · exact kb ⟨y0, by rw [Int.mul_comm y, Int.mul_comm ty]; omega⟩
    · have := Int.mul_neg_of_neg_of_pos x0 tB
      have := Int.mul_nonneg (show 0 ≤ tx by omega) (show 0 ≤ y by omega)
      exact ka ⟨x0, by omega⟩
  · by_cases y0 : y < 0
    · exfalso
      have := Int.mul_neg_of_neg_of_pos y0 tA
      have := Int.mul_nonneg (show 0 ≤ ty by omega) (show 0 ≤ x by omega)
      exact kb ⟨y0, by omega⟩
    · exact ⟨by omega, by omega⟩
/-- a fence into the three-cornered field has an end in it, as far up -/
theorem block {v a b p q : V3} (hD : 0 < dv v a b) (cA : Cl p q v a) (cB : Cl p q v b) {k l : Int} (hk : 0 ≤ k) (hl : 0 ≤ l) (tA : 0 < bA v a b (cb k p l q)) (tB : 0 < bB v a b (cb k p l q)) (tC : 0 < bC v a b (cb k p l q)) : (0 ≤ bA v a b p ∧ 0 ≤ bB v a b p ∧ 0 < bC v a b p ∧ bC v a b (cb k p l q) ≤ bC v a b p * (k + l)) ∨ (0 ≤ bA v a b q ∧ 0 ≤ bB v a b q ∧ 0 < bC v a b q ∧ bC v a b (cb k p l q) ≤ bC v a b q * (k + l)) := by
  have e : bC v a b (cb k p l q) = k * bC v a b p + l * bC v a b q := bC_cb ..
  have one : ∀ x : Int, 0 < x * (k + l) → 0 < x := fun x h => by
    refine Int.not_le.mp fun y => ?_
    have := Int.mul_nonpos_of_nonpos_of_nonneg y (show 0 ≤ k + l by omega)
    omega
  by_cases c : bC v a b q ≤ bC v a b p
  · have := Int.mul_le_mul_of_nonneg_left c hl
    have w : bC v a b (cb k p l q) ≤ bC v a b p * (k + l) := by rw [e, Int.mul_add, Int.mul_comm _ k, Int.mul_comm _ l]; omega
    have g := one _ (show 0 < bC v a b p * (k + l) by omega)
    obtain ⟨h1, h2⟩ := block1 hD cA cB hk hl tA tB tC g
    exact Or.inl ⟨h1, h2, g, w⟩
  · have := Int.mul_le_mul_of_nonneg_left (show bC v a b p ≤ bC v a b q by omega) hk
    have w : bC v a b (cb k p l q) ≤ bC v a b q * (k + l) := by rw [e, Int.mul_add, Int.mul_comm _ k, Int.mul_comm _ l]; omega
    have g := one _ (show 0 < bC v a b q * (k + l) by omega)
    rw [cb_sw] at tA tB tC
    obtain ⟨h1, h2⟩ := block1 hD cA.s1 cB.s1 hl hk tA tB tC g
    exact Or.inr ⟨h1, h2, g, w⟩
