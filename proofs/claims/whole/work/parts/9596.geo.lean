/-! The area of a sound field is not nothing: by its parts. -/
theorem tri3 {p q r : V3} (hp : grd p) (hq : grd q) (hr : grd r) (hD : dv p q r ≠ 0) (tp : dv (cb 1 p 1 q) (rA (cb 1 p 1 q)) p ≠ 0) (tr : dv (cb 1 p 1 q) (rA (cb 1 p 1 q)) r ≠ 0) : (xV (cb 1 p 1 q) (rA (cb 1 p 1 q)) q r != xV (cb 1 p 1 q) (rA (cb 1 p 1 q)) r p) = decide (0 < dv p q (rA (cb 1 p 1 q)) * dv p q r) := by
  have hM := hfM.of hp hq
  have hA3 : (rA (cb 1 p 1 q)).2.2 = 2 := hM.1
  have hAy : 31 ≤ (rA (cb 1 p 1 q)).2.1 := by have := hM.2.2.2.1; unfold rA; simp only; omega
  generalize hA : rA (cb 1 p 1 q) = A at *
  have e1 : dv (cb 1 p 1 q) A p = dv p q A := by unfold dv cb; simp only; grind
  have e2 : dv (cb 1 p 1 q) A q = - dv p q A := by unfold dv cb; simp only; grind
  have e3 : dv (cb 1 p 1 q) A r = dv r p A - dv q r A := by unfold dv cb; simp only; grind
  have e4 : dv q r (cb 1 p 1 q) = dv p q r := by unfold dv cb; simp only; grind
  have e5 : dv r p (cb 1 p 1 q) = dv p q r := by unfold dv cb; simp only; grind
  have e6 : dv q r A + dv r p A + dv p q A = 2 * dv p q r := by unfold dv; rw [hp.1, hq.1, hr.1, hA3]; grind
  have e7 : dv p q r * A.2.1 = dv q r A * p.2.1 + dv r p A * q.2.1 + dv p q A * r.2.1 := by unfold dv; grind
  unfold xV
  rw [e1, e2, e3, e4, e5]
  rw [e1] at tp
  rw [e3] at tr
  clear e1 e2 e3 e4 e5 hA
  generalize dv q r A = x at *
  generalize dv r p A = y at *
  generalize dv p q A = z at *
  generalize dv p q r = D at *
  have out1 : ¬ (0 < D ∧ 0 ≤ x ∧ 0 ≤ y ∧ 0 ≤ z) := by
    rintro ⟨h1, h2, h3, h4⟩
    have a1 := Int.mul_le_mul_of_nonneg_left hp.2.2.2.2 h2
    have a2 := Int.mul_le_mul_of_nonneg_left hq.2.2.2.2 h3
    have a3 := Int.mul_le_mul_of_nonneg_left hr.2.2.2.2 h4
    have a4 := Int.mul_le_mul_of_nonneg_left hAy (show 0 ≤ D by omega)
    omega
  have out2 : ¬ (D < 0 ∧ x ≤ 0 ∧ y ≤ 0 ∧ z ≤ 0) := by
    rintro ⟨h1, h2, h3, h4⟩
    have a1 := Int.mul_le_mul_of_nonneg_left hp.2.2.2.2 (show 0 ≤ -x by omega)
    have a2 := Int.mul_le_mul_of_nonneg_left hq.2.2.2.2 (show 0 ≤ -y by omega)
    have a3 := Int.mul_le_mul_of_nonneg_left hr.2.2.2.2 (show 0 ≤ -z by omega)
    have a4 := Int.mul_le_mul_of_nonneg_left hAy (show 0 ≤ -D by omega)
    simp only [Int.neg_mul] at a1 a2 a3 a4
    omega
  clear e7
  have pos : ∀ {a b : Int}, 0 < a * b ↔ (0 < a ∧ 0 < b) ∨ (a < 0 ∧ b < 0) := fun {a b} => by
    constructor
    · intro h
      rcases Int.lt_trichotomy a 0 with q | q | q
      · right; refine ⟨q, Int.not_le.mp fun w => ?_⟩
        have := Int.mul_nonpos_of_nonpos_of_nonneg (show a ≤ 0 by omega) w; omega
      · rw [q, Int.zero_mul] at h; omega
      · left; refine ⟨q, Int.not_le.mp fun w => ?_⟩
        have := Int.mul_nonpos_of_nonneg_of_nonpos (show 0 ≤ a by omega) w; omega
    · rintro (⟨h1, h2⟩ | ⟨h1, h2⟩)
      · exact Int.mul_pos h1 h2
      · exact Int.mul_pos_of_neg_of_neg h1 h2
  have neg : ∀ {a b : Int}, a * b < 0 ↔ (a < 0 ∧ 0 < b) ∨ (0 < a ∧ b < 0) := fun {a b} => by
    constructor
    · exact mul_neg_s
    · rintro (⟨h1, h2⟩ | ⟨h1, h2⟩)
      · exact Int.mul_neg_of_neg_of_pos h1 h2
      · exact Int.mul_neg_of_pos_of_neg h1 h2
  have d1 : decide (-z * (y - x) < 0) = decide ((0 < z ∧ 0 < y - x) ∨ (z < 0 ∧ y - x < 0)) := decide_eq_decide.mpr (by rw [neg]; omega)
  have d2 : decide ((y - x) * z < 0) = decide ((y - x < 0 ∧ 0 < z) ∨ (0 < y - x ∧ z < 0)) := decide_eq_decide.mpr neg
  have d3 : decide (D * x < 0) = decide ((D < 0 ∧ 0 < x) ∨ (0 < D ∧ x < 0)) := decide_eq_decide.mpr neg
  have d4 : decide (D * y < 0) = decide ((D < 0 ∧ 0 < y) ∨ (0 < D ∧ y < 0)) := decide_eq_decide.mpr neg
  have d5 : decide (0 < z * D) = decide ((0 < z ∧ 0 < D) ∨ (z < 0 ∧ D < 0)) := decide_eq_decide.mpr pos
  rw [d1, d2, d3, d4, d5]
  by_cases c1 : (0 < z ∧ 0 < y - x) ∨ (z < 0 ∧ y - x < 0)
  · rw [decide_eq_true c1, decide_eq_false (show ¬ ((y - x < 0 ∧ 0 < z) ∨ (0 < y - x ∧ z < 0)) by omega), Bool.true_and, Bool.false_and, Bool.bne_false]
    exact decide_eq_decide.mpr (by omega)
  · rw [decide_eq_false c1, decide_eq_true (show (y - x < 0 ∧ 0 < z) ∨ (0 < y - x ∧ z < 0) by omega), Bool.true_and, Bool.false_and, Bool.false_bne]
    exact decide_eq_decide.mpr (by omega)
/-- what the ryV tells of the area -/
def ArG (n : Nat) (G : Nat → V3) : Prop := arG n G ≠ 0 ∧ ∀ i, i < n → ryV n G (cb 1 (G i) 1 (G (nx n i))) = decide (0 < dv (G i) (G (nx n i)) (rA (cb 1 (G i) 1 (G (nx n i)))) * arG n G)
theorem SnG.fmid {n : Nat} {G : Nat → V3} (h : SnG n G) {i k : Nat} (hi : i < n) (hk : k < n) : cb 1 (cb 1 (G i) 1 (G (nx n i))) 0 (cb 1 (G i) 1 (G (nx n i))) ≠ cb 2 (G k) 0 (G k) := fun e => by
  have e2 : cb 2 (G k) 0 (G k) = cb 1 (G i) 1 (G (nx n i)) := by
    rw [← e]; unfold cb; refine v3_ext ?_ ?_ ?_ <;> simp only <;> omega
  have := h.pt hk hi (by omega) (by omega) (by omega) e2
  omega
theorem SnG.ft {n : Nat} {G : Nat → V3} (h : SnG n G) {i k : Nat} (hi : i < n) (hk : k < n) : dv (cb 1 (G i) 1 (G (nx n i))) (rA (cb 1 (G i) 1 (G (nx n i)))) (G k) ≠ 0 := rA_ne (hfM.of (h.grd hi) (h.grd (nx_lt hi))) (h.grd hk) (h.fmid hi hk)
theorem xV_own (p q B : V3) : xV (cb 1 p 1 q) B p q = false := by
  unfold xV
  have : dv p q (cb 1 p 1 q) = 0 := by rw [dv_cb, dv_1, dv_2]; rfl
  rw [this, Int.zero_mul, decide_eq_false (show ¬ (0 : Int) < 0 by omega), Bool.and_false]
theorem SnG.ar3 {G : Nat → V3} (h : SnG 3 G) : ArG 3 G := by
  have hD : dv (G 0) (G 1) (G 2) ≠ 0 := by
    obtain ⟨u, v, c, a, b, hr⟩ := h.toRim
    obtain ⟨a1, a2, a3, a4, a5⟩ := hr.ab
    have hv := hr.2.2.1
    have hp := hr.2.2.2.2.2.2.1
    intro z
    have z1 : dv (G 0) (G 2) (G 1) = 0 := by rw [dv_s2, z]; rfl
    have z2 : dv (G 1) (G 0) (G 2) = 0 := by rw [dv_sw, z]; rfl
    have z3 : dv (G 1) (G 2) (G 0) = 0 := by rw [dv_rt, z]
    have z4 : dv (G 2) (G 0) (G 1) = 0 := by rw [← dv_rt, z]
    have z5 : dv (G 2) (G 1) (G 0) = 0 := by rw [dv_rt, z1]
    have v3 : v = 0 ∨ v = 1 ∨ v = 2 := by omega
    have a3' : a = 0 ∨ a = 1 ∨ a = 2 := by omega
    have b3' : b = 0 ∨ b = 1 ∨ b = 2 := by omega
    rcases v3 with rfl | rfl | rfl <;> rcases a3' with rfl | rfl | rfl <;> rcases b3' with rfl | rfl | rfl <;> omega
  have n0 : nx 3 0 = 1 := rfl
  have n1 : nx 3 1 = 2 := rfl
  have n2 : nx 3 2 = 0 := rfl
  have ea : arG 3 G = dv (G 0) (G 1) (G 2) := by
    unfold arG
    rw [su, su, su, su, n0, n1, n2]
    unfold crV dv
    rw [h.f3 (show 0 < 3 by omega), h.f3 (show 1 < 3 by omega), h.f3 (show 2 < 3 by omega)]
    grind
  refine ⟨by rw [ea]; exact hD, fun i hi => ?_⟩
  have rx : ∀ M, ryV 3 G M = ((xV M (rA M) (G 0) (G 1) != xV M (rA M) (G 1) (G 2)) != xV M (rA M) (G 2) (G 0)) := fun M => by
    unfold ryV
    rw [xr, xr, xr, xr, n0, n1, n2, Bool.false_bne]
  have g0 := h.grd (show 0 < 3 by omega)
  have g1 := h.grd (show 1 < 3 by omega)
  have g2 := h.grd (show 2 < 3 by omega)
  rw [rx, ea]
  have i3 : i = 0 ∨ i = 1 ∨ i = 2 := by omega
  rcases i3 with rfl | rfl | rfl
  · have t1 := h.ft (i := 0) (k := 0) (by omega) (by omega)
    have t2 := h.ft (i := 0) (k := 2) (by omega) (by omega)
    rw [n0] at t1 t2 ⊢
    rw [xV_own, Bool.false_bne]
    exact tri3 g0 g1 g2 hD t1 t2
  · have t1 := h.ft (i := 1) (k := 1) (by omega) (by omega)
    have t2 := h.ft (i := 1) (k := 0) (by omega) (by omega)
    rw [n1] at t1 t2 ⊢
    rw [xV_own, Bool.bne_false, bne_comm, ← dv_rt (G 0) (G 1) (G 2)]
    exact tri3 g1 g2 g0 (by rw [dv_rt]; exact hD) t1 t2
  · have t1 := h.ft (i := 2) (k := 2) (by omega) (by omega)
    have t2 := h.ft (i := 2) (k := 1) (by omega) (by omega)
    rw [n2] at t1 t2 ⊢
    rw [xV_own, Bool.bne_false, dv_rt (G 2) (G 0) (G 1)]
    exact tri3 g2 g0 g1 (by rw [← dv_rt]; exact hD) t1 t2

theorem ray_in {n c o : Nat} {G : Nat → V3} (h1 : c + 2 ≤ o) (h2 : o < n) (M : V3) : ryV (o - c + 1) (gI G c) M = (xr (fun k => mk c o k && xV M (rA M) (G k) (G (nx n k))) n != xV M (rA M) (G c) (G o)) := xr_in (f := fun p q => xV M (rA M) p q) (fun p q => xV_qp M (rA M) p q) h1 h2
theorem ray_ou {n c o : Nat} {G : Nat → V3} (h1 : c + 2 ≤ o) (h2 : o < n) (M : V3) : ryV (n - (o - c - 1)) (gO G c (o - c - 1)) M = (xr (fun k => !mk c o k && xV M (rA M) (G k) (G (nx n k))) n != xV M (rA M) (G c) (G o)) := xr_ou (f := fun p q => xV M (rA M) p q) h1 h2
theorem ray_both {n c o : Nat} {G : Nat → V3} (h1 : c + 2 ≤ o) (h2 : o < n) (M : V3) : ryV n G M = (ryV (o - c + 1) (gI G c) M != ryV (n - (o - c - 1)) (gO G c (o - c - 1)) M) := by
  rw [ray_in h1 h2, ray_ou h1 h2]
  have e : ryV n G M = (xr (fun k => mk c o k && xV M (rA M) (G k) (G (nx n k))) n != xr (fun k => !mk c o k && xV M (rA M) (G k) (G (nx n k))) n) := by
    rw [← xr_ne]
    exact xr_c (fun k _ => by cases mk c o k <;> cases xV M (rA M) (G k) (G (nx n k)) <;> rfl)
  rw [e]
  cases xr (fun k => mk c o k && xV M (rA M) (G k) (G (nx n k))) n <;> cases xr (fun k => !mk c o k && xV M (rA M) (G k) (G (nx n k))) n <;> cases xV M (rA M) (G c) (G o) <;> rfl
/-- the middle of a fence, beside a ring that has an end of the fence beyond it -/
theorem pS_mid {n : Nat} {G : Nat → V3} (h : SnG n G) {S : Nat → Bool} {c o : Nat} (hc : c < n) (ho : o < n) (cl : ∀ e, e < n → Cl (G c) (G o) (G e) (G (nx n e))) (hS : clo S G n (G c) (G o)) {i r s : Nat} (hi : i < n) (si : S i = false) (rs : (r = i ∧ s = nx n i) ∨ (r = nx n i ∧ s = i)) (r1 : r ≠ c) (r2 : r ≠ o) (r3 : ∀ f, f < n → S f = true → r ≠ f ∧ r ≠ nx n f) (r4 : pS S G n (G c) (G o) (G r) = false) : pS S G n (G c) (G o) (cb 1 (G i) 1 (G (nx n i))) = false := by
  have hr : r < n := by rcases rs with ⟨rfl, _⟩ | ⟨rfl, _⟩; exact hi; exact nx_lt hi
  have hs : s < n := by rcases rs with ⟨_, rfl⟩ | ⟨_, rfl⟩; exact nx_lt hi; exact hi
  have em : cb 1 (G i) 1 (G (nx n i)) = cb 1 (G r) 1 (G s) := by
    rcases rs with ⟨rfl, rfl⟩ | ⟨rfl, rfl⟩
    · rfl
    · exact cb_sw ..
  have m : ∀ p t : V3, Cl (G r) (G s) p t → Nn (G r) p t → Ft (G r) (cb 1 (G r) 1 (G s)) p t := fun p t cps nn i' j' k2 l2 hi' hj' hk2 hl2 z => by
    have z2 : cb (i' + j') (G r) j' (G s) = cb k2 p l2 t := by
      rw [← z]; unfold cb; refine v3_ext ?_ ?_ ?_ <;> simp only <;> grind
    rcases (cps _ _ _ _ (by omega) hj' hk2 hl2 z2).1 with w | w
    · omega
    · subst w
      refine ⟨Classical.byContradiction fun b => nn i' k2 l2 (by omega) hk2 hl2 ?_, rfl⟩
      rw [← z]; exact cb_0 ..
  have tu : ∀ p t : V3, Cl (G i) (G (nx n i)) p t → Cl (G r) (G s) p t := fun p t w => by
    rcases rs with ⟨rfl, rfl⟩ | ⟨rfl, rfl⟩
    · exact w
    · exact w.s1
  rw [em, ← r4]
  refine (pS_free h.2.1 (h.f3 hc) (h.f3 ho) hS (by rw [h.f3 hr]; omega) ?_ (fun f hf sf => ?_) ?_).symm
  · have : (cb 1 (G r) 1 (G s)).2.2 = 2 := by simp only [cb, h.f3 hr, h.f3 hs]; rfl
    omega
  · exact m _ _ (tu _ _ (h.2.2.2.2 i f hi hf (fun z => by rw [← z, si] at sf; cases sf))) (h.cor hr hf (r3 f hf sf).1 (r3 f hf sf).2)
  · have cc := tu _ _ (cl i hi).sw
    refine m _ _ cc ?_
    intro i' k2 l2 hi' hk2 hl2 z
    rcases (cc i' 0 k2 l2 (by omega) (by omega) hk2 hl2 (by rw [cb_0 i' _ _ (G r)]; exact z)).2 with t | t
    · subst t
      have z2 : cb i' (G r) 0 (G r) = cb l2 (G o) 0 (G c) := by rw [z, cb_sw]
      exact h.2.2.2.1 r o hr ho r2 (pv_eq (h.f3 hr) (h.f3 ho) (by omega) z2).1
    · subst t
      exact h.2.2.2.1 r c hr hc r1 (pv_eq (h.f3 hr) (h.f3 hc) (by omega) z).1
/-- the middle of a fence lies on no other segment that meets the fence at ends alone -/
theorem mid_nn {p q s t : V3} (h : Cl p q s t) : Nn (cb 1 p 1 q) s t := fun i k l hi hk hl e => by
  have e2 : cb i p i q = cb k s l t := by
    rw [← e]; unfold cb; refine v3_ext ?_ ?_ ?_ <;> simp only <;> grind
  have := (h i i k l (by omega) (by omega) hk hl e2).1
  omega
theorem sign2 {x a b : Int} (hx : x ≠ 0) (ha : a ≠ 0) (hb : b ≠ 0) (h : (decide (0 < -x * a) != decide (0 < x * b)) = true) : (0 < a ∧ 0 < b) ∨ (a < 0 ∧ b < 0) := by
  rcases Int.lt_or_gt_of_ne ha with q | q <;> rcases Int.lt_or_gt_of_ne hb with w | w
  · right; exact ⟨q, w⟩
  · exfalso
    rcases Int.lt_or_gt_of_ne hx with y | y
    · have := Int.mul_neg_of_pos_of_neg (show 0 < -x by omega) q
      have := Int.mul_neg_of_neg_of_pos y w
      rw [decide_eq_false (by omega), decide_eq_false (by omega)] at h
      cases h
    · have := Int.mul_pos_of_neg_of_neg (show -x < 0 by omega) q
      have := Int.mul_pos y w
      rw [decide_eq_true (by omega), decide_eq_true (by omega)] at h
      cases h
  · exfalso
    rcases Int.lt_or_gt_of_ne hx with y | y
    · have := Int.mul_pos (show 0 < -x by omega) q
      have := Int.mul_pos_of_neg_of_neg y w
      rw [decide_eq_true (by omega), decide_eq_true (by omega)] at h
      cases h
    · have := Int.mul_neg_of_neg_of_pos (show -x < 0 by omega) q
      have := Int.mul_neg_of_pos_of_neg y w
      rw [decide_eq_false (by omega), decide_eq_false (by omega)] at h
      cases h
  · left; exact ⟨q, w⟩
theorem pos_s {x a b : Int} (h : (0 < a ∧ 0 < b) ∨ (a < 0 ∧ b < 0)) : decide (0 < x * a) = decide (0 < x * b) := by
  refine decide_eq_decide.mpr ?_
  have p : ∀ c : Int, 0 < c → (0 < x * c ↔ 0 < x) := fun c hc => by
    have := pos_lt (a := 0) (b := x) hc
    rw [Int.zero_mul] at this; exact this
  have m : ∀ c : Int, c < 0 → (0 < x * c ↔ x < 0) := fun c hc => by
    have := p (-c) (by omega)
    constructor
    · intro w
      refine Int.not_le.mp fun y => ?_
      have := Int.mul_nonpos_of_nonneg_of_nonpos y (show c ≤ 0 by omega)
      omega
    · intro w
      exact Int.mul_pos_of_neg_of_neg w hc
  rcases h with ⟨h1, h2⟩ | ⟨h1, h2⟩
  · rw [p a h1, p b h2]
  · rw [m a h1, m b h2]
theorem SnG.ara : ∀ (m n : Nat) (G : Nat → V3), n ≤ m → SnG n G → ArG n G
  | 0, n, G, hm, h => by have := h.1; omega
  | m + 1, n, G, hm, h => by
    by_cases h4 : 4 ≤ n
    · obtain ⟨c, o, hg⟩ := h.good h4
      obtain ⟨h1, h2, h3, cl, mid, _⟩ := id hg
      have hI := h.inn hg
      have hO := h.out hg
      obtain ⟨i0, i1⟩ := SnG.ara m _ _ (by omega) hI
      obtain ⟨o0, o1⟩ := SnG.ara m _ _ (by omega) hO
      have hcn : c < n := by omega
      -- the strip's own middle
      have mI := i1 (o - c) (by omega)
      have mO := o1 c (by omega)
      rcases fI (G := G) h1 h2 (show o - c < o - c + 1 by omega) with ⟨a1, a2, a3⟩ | ⟨a1, a2, a3⟩
      · omega
      rcases fO (G := G) h1 h2 (show c < n - (o - c - 1) by omega) with ⟨b1, b2, b3⟩ | ⟨b1, b2, b3⟩ | ⟨b1, b2, b3⟩
      · omega
      · rw [a2, a3, cb_sw, dv_sw (G c) (G o)] at mI
        rw [b2, b3] at mO
        have hfm := hfM.of (h.grd hcn) (h.grd h2)
        have tt : ∀ k, k < n → cb 1 (cb 1 (G c) 1 (G o)) 0 (cb 1 (G c) 1 (G o)) ≠ cb 2 (G k) 0 (G k) := fun k hk e => by
          have e2 : cb 1 (G c) 1 (G o) = cb 2 (G k) 0 (G (nx n k)) := by
            rw [cb_0 2 (G k) _ (G k), ← e]; unfold cb; refine v3_ext ?_ ?_ ?_ <;> simp only <;> omega
          have := (cl k hk 1 1 2 0 (by omega) (by omega) (by omega) (by omega) e2).1
          omega
        have rp := ray_pr h hfm (fun e he => mid_nn (cl e he)) tt
        rw [mid, ray_both h1 h2, mI, mO] at rp
        have tx := rA_ne hfm (h.grd hcn) (tt c hcn)
        have ex : dv (cb 1 (G c) 1 (G o)) (rA (cb 1 (G c) 1 (G o))) (G c) = dv (G c) (G o) (rA (cb 1 (G c) 1 (G o))) := by
          generalize rA (cb 1 (G c) 1 (G o)) = A
          unfold dv cb; simp only; grind
        rw [ex] at tx
        have sg := sign2 tx i0 o0 rp
        have ea := ar_parts (G := G) h1 h2
        have sI : (0 < arG (o - c + 1) (gI G c) ∧ 0 < arG n G) ∨ (arG (o - c + 1) (gI G c) < 0 ∧ arG n G < 0) := by omega
        have sO : (0 < arG (n - (o - c - 1)) (gO G c (o - c - 1)) ∧ 0 < arG n G) ∨ (arG (n - (o - c - 1)) (gO G c (o - c - 1)) < 0 ∧ arG n G < 0) := by omega
        refine ⟨by omega, fun i hi => ?_⟩
        have fM := hfM.of (h.grd hi) (h.grd (nx_lt hi))
        rw [ray_both h1 h2]
        by_cases q : c ≤ i ∧ i < o
        · -- a fence of the inner part
          have w1 : ryV (o - c + 1) (gI G c) (cb 1 (G i) 1 (G (nx n i))) = decide (0 < dv (G i) (G (nx n i)) (rA (cb 1 (G i) 1 (G (nx n i)))) * arG (o - c + 1) (gI G c)) := by
            have w := i1 (i - c) (by omega)
            rcases fI (G := G) h1 h2 (show i - c < o - c + 1 by omega) with ⟨d1, d2, d3⟩ | ⟨d1, d2, d3⟩
            · rw [d2, d3, show c + (i - c) = i by omega] at w; exact w
            · omega
          have w2 : ryV (n - (o - c - 1)) (gO G c (o - c - 1)) (cb 1 (G i) 1 (G (nx n i))) = false := by
            rw [ray_pr hO fM (fun e he => ?_) (fun k hk => h.fmid hi (by unfold gO at *; split <;> omega)), pr_ou h1 h2]
            · obtain ⟨r, s, rs, r1, r2, r3, r4⟩ := hg.ou4 h hi (by rw [mk_t.mpr q]; rfl)
              exact pS_mid h hcn h2 cl (clo_nt hg.clm) hi (by rw [mk_t.mpr q]; rfl) rs r1 r2 r3 r4
            · rcases fO (G := G) h1 h2 he with ⟨d1, d2, d3⟩ | ⟨d1, d2, d3⟩ | ⟨d1, d2, d3⟩ <;> rw [d2, d3]
              · exact mid_nn (h.2.2.2.2 _ _ hi (by omega) (by omega))
              · exact mid_nn (cl i hi).sw
              · exact mid_nn (h.2.2.2.2 _ _ hi (by omega) (by omega))
          rw [w1, w2, Bool.bne_false, pos_s sI]
        · have w1 : ryV (n - (o - c - 1)) (gO G c (o - c - 1)) (cb 1 (G i) 1 (G (nx n i))) = decide (0 < dv (G i) (G (nx n i)) (rA (cb 1 (G i) 1 (G (nx n i)))) * arG (n - (o - c - 1)) (gO G c (o - c - 1))) := by
            by_cases ic : i < c
            · have w := o1 i (by omega)
              rcases fO (G := G) h1 h2 (show i < n - (o - c - 1) by omega) with ⟨d1, d2, d3⟩ | ⟨d1, d2, d3⟩ | ⟨d1, d2, d3⟩
              · rw [d2, d3] at w; exact w
              · omega
              · omega
            · have w := o1 (i - (o - c - 1)) (by omega)
              rcases fO (G := G) h1 h2 (show i - (o - c - 1) < n - (o - c - 1) by omega) with ⟨d1, d2, d3⟩ | ⟨d1, d2, d3⟩ | ⟨d1, d2, d3⟩
              · omega
              · omega
              · rw [d2, d3, show i - (o - c - 1) + (o - c - 1) = i by omega] at w; exact w
          have w2 : ryV (o - c + 1) (gI G c) (cb 1 (G i) 1 (G (nx n i))) = false := by
            rw [ray_pr hI fM (fun e he => ?_) (fun k hk => h.fmid hi (by omega)), pr_in h1 h2]
            · obtain ⟨r, s, rs, r1, r2, r3, r4⟩ := hg.in4 h hi (mk_f.mpr q)
              exact pS_mid h hcn h2 cl hg.clm hi (mk_f.mpr q) rs r1 r2 r3 r4
            · rcases fI (G := G) h1 h2 he with ⟨d1, d2, d3⟩ | ⟨d1, d2, d3⟩ <;> rw [d2, d3]
              · exact mid_nn (h.2.2.2.2 _ _ hi (by omega) (by omega))
              · exact mid_nn (cl i hi).sw.s2
          rw [w1, w2, Bool.false_bne, pos_s sO]
      · omega
    · have : n = 3 := by have := h.1; omega
      subst this
      exact h.ar3
