/-! Every sound field of four or more corners has a strip. -/
theorem pS_lin {S : Nat → Bool} {G : Nat → V3} {n : Nat} {x y : V3} (hG : oneG n G) (hx : x.2.2 = 1) (hy : y.2.2 = 1) (hc : clo S G n x y) {P : V3} (hP : 0 < P.2.2) {f : V3 → Int} (hf : ∃ a b c : Int, ∀ P : V3, f P = a * P.1 + b * P.2.1 + c * P.2.2) (h : 0 < f P) (hk : ∀ k, k < n → S k = true → f (G k) ≤ 0 ∧ f (G (nx n k)) ≤ 0) (h1 : f x ≤ 0) (h2 : f y ≤ 0) : pS S G n x y P = false := by
  obtain ⟨a, b, c, hf⟩ := hf
  have tr : ∀ P : V3, P.2.2 = 1 → f P ≤ 0 → a * P.1 + b * P.2.1 + c ≤ 0 := fun P h3 h4 => by
    rw [hf, h3, Int.mul_one] at h4; exact h4
  exact pS_half hG hx hy hc hP (by rw [hf] at h; exact h) (fun k q s => ⟨tr _ (hG k q) (hk k q s).1, tr _ (hG _ (nx_lt q)) (hk k q s).2⟩) (tr _ hx h1) (tr _ hy h2)
theorem lin_dv (x y : V3) : ∃ a b c : Int, ∀ P : V3, (fun P => - dv P x y) P = a * P.1 + b * P.2.1 + c * P.2.2 := ⟨-(x.2.1 * y.2.2 - x.2.2 * y.2.1), x.1 * y.2.2 - x.2.2 * y.1, -(x.1 * y.2.1 - x.2.1 * y.1), fun P => by unfold dv; grind⟩
theorem lin_oF (c : Int) : ∃ a b d : Int, ∀ P : V3, oF c P = a * P.1 + b * P.2.1 + d * P.2.2 := ⟨16, 1, -c, fun P => by unfold oF; grind⟩
section
variable {n : Nat} {G : Nat → V3} {u v a b : Nat} {c : Int}
theorem Rim.emid (h : Rim n G u v c a b) (h4 : 4 ≤ n) (hno : ∀ r, r < n → ¬ Cd n G v a b r) : pr G n (cb 1 (G a) 1 (G b)) = true := by
  obtain ⟨a1, a2, a3, a4, a5⟩ := h.ab
  have hD := h.2.2.2.2.2.2.1
  have hA : (cb 1 (G a) 1 (G b)).2.2 = 2 := by simp only [cb, h.1.f3 a1, h.1.f3 a2]; rfl
  obtain ⟨s1, s2, s3⟩ := h.sgn (P := cb 1 (G a) 1 (G b)) (by rw [bA_cb, bA_a, bA_b]; omega) (by rw [bB_cb, bB_a, bB_b]; omega)
  rw [pr_tip h.1.2.1 h.2.1 h.2.2.2.1 h.ne.1 (fun k hk => h.hF hk) h.2.2.2.2.1 (A := cb 1 (G a) 1 (G b)) (by omega) (by rw [oF_cb]; have := h.2.2.2.2.2.1 a a1 a3; have := h.2.2.2.2.2.1 b a2 a4; omega) s1 s2 (fun e he e1 e2 i j k l hi hj hk hl q => ?_)]
  · exact decide_eq_true s3
  · have j0 : j = 0 := by
      refine Classical.byContradiction fun w => ?_
      have sA : bA (G v) (G a) (G b) (cb k (G e) l (G (nx n e))) = j * dv (G v) (G a) (G b) := by rw [← q, bA_cb, bA_v, bA_cb, bA_a, bA_b]; grind
      have sB : bB (G v) (G a) (G b) (cb k (G e) l (G (nx n e))) = j * dv (G v) (G a) (G b) := by rw [← q, bB_cb, bB_v, bB_cb, bB_a, bB_b]; grind
      have sC : bC (G v) (G a) (G b) (cb k (G e) l (G (nx n e))) = i * dv (G v) (G a) (G b) := by rw [← q, bC_cb, bC_v, bC_cb, bC_a, bC_b]; grind
      have m := Int.mul_pos (show 0 < j by omega) hD
      have t := h.ein hno he hk hl (by rw [sA]; exact m) (by rw [sB]; exact m)
      rw [sC] at t
      have i0 : i = 0 := by
        refine Classical.byContradiction fun y => t (Int.mul_pos (by omega) hD)
      subst i0
      have q2 : cb j (G a) j (G b) = cb k (G e) l (G (nx n e)) := by
        rw [← q]; unfold cb; refine v3_ext ?_ ?_ ?_ <;> simp only <;> grind
      have := (h.ecl h4 hno he j j k l hj hj hk hl q2).1
      omega
    subst j0
    refine ⟨Classical.byContradiction fun i0 => ?_, rfl⟩
    refine h.1.cor h.2.2.1 he (Ne.symm e2) (fun y => e1 (nx_inj he h.2.1 (by rw [← y, h.2.2.2.1]))) i k l (by omega) hk hl ?_
    rw [← q]; exact cb_0 ..
theorem Rim.etri (h : Rim n G u v c a b) (hno : ∀ r, r < n → ¬ Cd n G v a b r) {S : Nat → Bool} (hS : clo S G n (G a) (G b)) (hs : ∀ e, e < n → S e = true → e = u ∨ e = v) {r : Nat} (hr : r < n) (r1 : r ≠ v) (r2 : r ≠ a) (r3 : r ≠ b) : pS S G n (G a) (G b) (G r) = false := by
  obtain ⟨a1, a2, a3, a4, a5⟩ := h.ab
  have hD := h.2.2.2.2.2.2.1
  have gr := h.1.f3 hr
  have fin : ∀ f : V3 → Int, (∃ a b c : Int, ∀ P : V3, f P = a * P.1 + b * P.2.1 + c * P.2.2) → 0 < f (G r) → f (G v) ≤ 0 → f (G a) ≤ 0 → f (G b) ≤ 0 → pS S G n (G a) (G b) (G r) = false := fun f hf f1 f2 f3 f4 => by
    have fu : f (G u) ≤ 0 ∧ f (G (nx n v)) ≤ 0 := by
      rcases h.2.2.2.2.2.2.2 with ⟨rfl, rfl⟩ | ⟨rfl, rfl⟩
      · exact ⟨f3, f4⟩
      · exact ⟨f4, f3⟩
    refine pS_lin h.1.2.1 (h.1.f3 a1) (h.1.f3 a2) hS (by rw [gr]; omega) hf f1 (fun k hk s => ?_) f3 f4
    rcases hs k hk s with rfl | rfl
    · rw [h.2.2.2.1]; exact ⟨fu.1, f2⟩
    · exact ⟨f2, fu.2⟩
  have nc := hno r hr
  have : bA (G v) (G a) (G b) (G r) < 0 ∨ bB (G v) (G a) (G b) (G r) < 0 ∨ bC (G v) (G a) (G b) (G r) < 0 := by
    refine Classical.byContradiction fun z => nc ⟨r1, r2, r3, by omega, by omega, by omega⟩
  have eA : ∀ P, - dv P (G b) (G v) = - bA (G v) (G a) (G b) P := fun P => by unfold bA dv; grind
  have eB : ∀ P, - dv P (G v) (G a) = - bB (G v) (G a) (G b) P := fun P => by unfold bB dv; grind
  rcases this with q | q | q
  · refine fin (fun P => - dv P (G b) (G v)) (lin_dv ..) ?_ ?_ ?_ ?_ <;> simp only [eA]
    · omega
    · rw [bA_v]; omega
    · rw [bA_a]; omega
    · rw [bA_b]; omega
  · refine fin (fun P => - dv P (G v) (G a)) (lin_dv ..) ?_ ?_ ?_ ?_ <;> simp only [eB]
    · omega
    · rw [bB_v]; omega
    · rw [bB_a]; omega
    · rw [bB_b]; omega
  · refine fin (fun P => - dv P (G a) (G b)) (lin_dv ..) ?_ ?_ ?_ ?_
    · show 0 < - bC (G v) (G a) (G b) (G r); omega
    · show - dv (G v) (G a) (G b) ≤ 0; omega
    · show - dv (G a) (G a) (G b) ≤ 0; rw [dv_0]; omega
    · show - dv (G b) (G a) (G b) ≤ 0; rw [dv_1]; omega
theorem Rim.erest (h : Rim n G u v c a b) {S : Nat → Bool} (hS : clo S G n (G a) (G b)) (hs : ∀ e, e < n → S e = true → e ≠ u ∧ e ≠ v) : pS S G n (G a) (G b) (G v) = false := by
  obtain ⟨a1, a2, a3, a4, a5⟩ := h.ab
  have ot : ∀ k, k < n → k ≠ v → oF (c - 1) (G k) ≤ 0 := fun k hk k1 => by
    have := h.2.2.2.2.2.1 k hk k1
    unfold oF at this ⊢
    rw [h.1.f3 hk] at this ⊢
    omega
  refine pS_lin h.1.2.1 (h.1.f3 a1) (h.1.f3 a2) hS (by rw [h.1.f3 h.2.2.1]; omega) (lin_oF (c - 1)) ?_ (fun k hk s => ⟨ot k hk (hs k hk s).2, ot _ (nx_lt hk) fun z => (hs k hk s).1 (nx_inj hk h.2.1 (by rw [z, h.2.2.2.1]))⟩) (ot a a1 a3) (ot b a2 a4)
  have := h.2.2.2.2.1
  unfold oF at this ⊢
  rw [h.1.f3 h.2.2.1] at this ⊢
  omega
theorem Rim.egood (h : Rim n G u v c a b) (h4 : 4 ≤ n) (hno : ∀ r, r < n → ¬ Cd n G v a b r) : ∃ c o, Gd n G c o := by
  have hu := h.2.1
  have hv := h.2.2.1
  have huv := h.2.2.2.1
  have hw := nx_lt hv
  obtain ⟨n1, n2, n3⟩ := h.ne
  have cl := fun e he => h.ecl h4 hno (e := e) he
  have mid := h.emid h4 hno
  have m2 : ∀ c o k, mk c o k = true ↔ c ≤ k ∧ k < o := fun c o k => by unfold mk; rw [decide_eq_true_eq]
  have m3 : ∀ c o k, (!mk c o k) = true ↔ ¬ (c ≤ k ∧ k < o) := fun c o k => by rw [Bool.not_eq_true', ← Bool.not_eq_true, m2]
  have ab : (a = u ∧ b = nx n v) ∨ (a = nx n v ∧ b = u) := h.2.2.2.2.2.2.2
  -- all told by a and b, turned to either order
  have clx : ∀ x y, (x = a ∧ y = b) ∨ (x = b ∧ y = a) → (∀ e, e < n → Cl (G x) (G y) (G e) (G (nx n e))) ∧ pr G n (cb 1 (G x) 1 (G y)) = true ∧ (∀ S, clo S G n (G x) (G y) → (∀ e, e < n → S e = true → e = u ∨ e = v) → ∀ r, r < n → r ≠ v → r ≠ a → r ≠ b → pS S G n (G x) (G y) (G r) = false) ∧ (∀ S, clo S G n (G x) (G y) → (∀ e, e < n → S e = true → e ≠ u ∧ e ≠ v) → pS S G n (G x) (G y) (G v) = false) := by
    intro x y hxy
    rcases hxy with ⟨rfl, rfl⟩ | ⟨rfl, rfl⟩
    · exact ⟨cl, mid, fun S hS hs r hr r1 r2 r3 => h.etri hno hS hs hr r1 r2 r3, fun S hS hs => h.erest hS hs⟩
    · refine ⟨Cl_sym cl, by rw [cb_sw]; exact mid, fun S hS hs r hr r1 r2 r3 => ?_, fun S hS hs => ?_⟩
      · rw [pS_sw]; exact h.etri hno (clo_sw hS) hs hr r1 r2 r3
      · rw [pS_sw]; exact h.erest (clo_sw hS) hs
  rcases nx_c hu with ⟨u1, u2⟩ | ⟨u1, u2⟩ <;> rcases nx_c hv with ⟨v1, v2⟩ | ⟨v1, v2⟩
  · -- v in the middle
    obtain ⟨k1, k2, k3, k4⟩ := clx u (nx n v) (by omega)
    have cm := clo_mk (G := G) (n := n) (c := u) (o := nx n v) (by omega) hw
    obtain ⟨r, hr, r1⟩ : ∃ r, r < n ∧ (r < u ∨ nx n v < r) := by
      by_cases z : 0 < u
      · exact ⟨0, by omega, by omega⟩
      · exact ⟨3, by omega, by omega⟩
    refine ⟨u, nx n v, by omega, hw, by omega, k1, k2, ⟨v, by omega, by omega, ?_⟩, r, hr, r1, ?_⟩
    · exact k4 _ (clo_nt cm) (fun e he s => by have := (m3 ..).mp s; omega)
    · exact k3 _ cm (fun e he s => by have := (m2 ..).mp s; omega) r hr (by omega) (by omega) (by omega)
  · -- v the last
    obtain ⟨k1, k2, k3, k4⟩ := clx (nx n v) u (by omega)
    have cm := clo_mk (G := G) (n := n) (c := nx n v) (o := u) (by omega) hu
    refine ⟨nx n v, u, by omega, hu, by omega, k1, k2, ⟨1, by omega, by omega, ?_⟩, v, hv, by omega, ?_⟩
    · exact k3 _ (clo_nt cm) (fun e he s => by have := (m3 ..).mp s; omega) 1 (by omega) (by omega) (by omega) (by omega)
    · exact k4 _ cm (fun e he s => by have := (m2 ..).mp s; omega)
  · -- v the first
    obtain ⟨k1, k2, k3, k4⟩ := clx (nx n v) u (by omega)
    have cm := clo_mk (G := G) (n := n) (c := nx n v) (o := u) (by omega) hu
    refine ⟨nx n v, u, by omega, hu, by omega, k1, k2, ⟨2, by omega, by omega, ?_⟩, v, hv, by omega, ?_⟩
    · exact k3 _ (clo_nt cm) (fun e he s => by have := (m3 ..).mp s; omega) 2 (by omega) (by omega) (by omega) (by omega)
    · exact k4 _ cm (fun e he s => by have := (m2 ..).mp s; omega)
  · omega
end
theorem SnG.good {n : Nat} {G : Nat → V3} (h : SnG n G) (h4 : 4 ≤ n) : ∃ c o, Gd n G c o := by
  obtain ⟨u, v, c, a, b, hr⟩ := h.toRim
  by_cases q : ∃ r, r < n ∧ Cd n G v a b r
  · obtain ⟨z, z1, z2, z3⟩ := amax (Cd n G v a b) (fun k => bC (G v) (G a) (G b) (G k)) n q
    exact hr.zgood z1 z2 z3
  · exact hr.egood h4 (fun r hr z => q ⟨r, hr, z⟩)
