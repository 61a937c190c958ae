/-! The strip from the corner farthest out to the corner nearest to it. -/
section
variable {n : Nat} {G : Nat → V3} {u v a b : Nat} {c : Int}
def Cd (n : Nat) (G : Nat → V3) (v a b r : Nat) : Prop := r ≠ v ∧ r ≠ a ∧ r ≠ b ∧ 0 ≤ bA (G v) (G a) (G b) (G r) ∧ 0 ≤ bB (G v) (G a) (G b) (G r) ∧ 0 ≤ bC (G v) (G a) (G b) (G r)
theorem Rim.nn (h : Rim n G u v c a b) {r : Nat} (hr : r < n) (r1 : r ≠ v) (r2 : r ≠ a) (r3 : r ≠ b) {i k l : Int} (hi : 0 < i) (hk : 0 ≤ k) (hl : 0 ≤ l) : cb i (G r) 0 (G r) ≠ cb k (G v) l (G a) ∧ cb i (G r) 0 (G r) ≠ cb k (G v) l (G b) := by
  have w1 : r ≠ u → cb i (G r) 0 (G r) ≠ cb k (G v) l (G u) := fun ru q => by
    have := h.1.cor hr h.2.1 ru (by rw [h.2.2.2.1]; exact r1) i l k hi hl hk
    rw [h.2.2.2.1, cb_sw l] at this
    exact this q
  have w2 : r ≠ nx n v → cb i (G r) 0 (G r) ≠ cb k (G v) l (G (nx n v)) := fun ru q => h.1.cor hr h.2.2.1 r1 ru i k l hi hk hl q
  rcases h.2.2.2.2.2.2.2 with ⟨rfl, rfl⟩ | ⟨rfl, rfl⟩
  · exact ⟨w1 r2, w2 r3⟩
  · exact ⟨w2 r2, w1 r3⟩
theorem Rim.zpos (h : Rim n G u v c a b) {z : Nat} (hz : z < n) (hc : Cd n G v a b z) : 0 < bA (G v) (G a) (G b) (G z) ∧ 0 < bB (G v) (G a) (G b) (G z) := by
  obtain ⟨z1, z2, z3, z4, z5, z6⟩ := hc
  have hD := h.2.2.2.2.2.2.1
  constructor
  · refine Classical.byContradiction fun q => ?_
    exact (h.nn hz z1 z2 z3 hD z6 z5).2 (bary_a (by omega))
  · refine Classical.byContradiction fun q => ?_
    exact (h.nn hz z1 z2 z3 hD z6 z4).1 (bary_b (by omega))
theorem Rim.zcl (h : Rim n G u v c a b) {z : Nat} (hz : z < n) (hc : Cd n G v a b z) (hm : ∀ j, j < n → Cd n G v a b j → bC (G v) (G a) (G b) (G j) ≤ bC (G v) (G a) (G b) (G z)) {e : Nat} (he : e < n) : Cl (G v) (G z) (G e) (G (nx n e)) := fun i j k l hi hj hk hl q => by
  obtain ⟨zA, zB⟩ := h.zpos hz hc
  obtain ⟨a1, a2, _⟩ := h.ab
  have first : i = 0 ∨ j = 0 := by
    refine Classical.byContradiction fun w => ?_
    have hi0 : 0 < i := by omega
    have hj0 : 0 < j := by omega
    have hD := h.2.2.2.2.2.2.1
    have sA : bA (G v) (G a) (G b) (cb k (G e) l (G (nx n e))) = j * bA (G v) (G a) (G b) (G z) := by rw [← q, bA_cb, bA_v]; omega
    have sB : bB (G v) (G a) (G b) (cb k (G e) l (G (nx n e))) = j * bB (G v) (G a) (G b) (G z) := by rw [← q, bB_cb, bB_v]; omega
    have sC : bC (G v) (G a) (G b) (cb k (G e) l (G (nx n e))) = i * dv (G v) (G a) (G b) + j * bC (G v) (G a) (G b) (G z) := by rw [← q, bC_cb, bC_v]
    have m1 := Int.mul_pos hj0 zA
    have m2 := Int.mul_pos hj0 zB
    have m3 := Int.mul_pos hi0 hD
    have m4 := Int.mul_nonneg hj hc.2.2.2.2.2
    obtain ⟨r, r0, r1, r2, r3, r4, r5, r6, r7⟩ := h.blk he hk hl (by rw [sA]; exact m1) (by rw [sB]; exact m2) (by rw [sC]; omega)
    have t := hm r r0 ⟨r1, r2, r3, r4, r5, by omega⟩
    have k3 := cb_3 (h.1.f3 he) (h.1.f3 (nx_lt he)) q
    rw [h.1.f3 h.2.2.1, h.1.f3 hz, Int.mul_one, Int.mul_one] at k3
    rw [sC, ← k3] at r7
    have t2 := Int.mul_le_mul_of_nonneg_right t (show 0 ≤ i + j by omega)
    have bs := bary_s (P := G z) (h.1.f3 h.2.2.1) (h.1.f3 a1) (h.1.f3 a2)
    rw [h.1.f3 hz, Int.mul_one] at bs
    have t3 := Int.mul_pos hi0 (show 0 < dv (G v) (G a) (G b) - bC (G v) (G a) (G b) (G z) by omega)
    rw [Int.mul_sub] at t3
    have t4 : bC (G v) (G a) (G b) (G z) * (i + j) = i * bC (G v) (G a) (G b) (G z) + j * bC (G v) (G a) (G b) (G z) := by rw [Int.mul_add, Int.mul_comm _ i, Int.mul_comm _ j]
    omega
  refine ⟨first, ?_⟩
  rcases first with rfl | rfl
  · exact h.1.pt hz he hj hk hl (X := G v) (by rw [← q, cb_sw])
  · exact h.1.pt h.2.2.1 he hi hk hl (X := G z) q
theorem Rim.vne (h : Rim n G u v c a b) {z : Nat} (hc : Cd n G v a b z) : z ≠ u ∧ z ≠ nx n v := by
  obtain ⟨z1, z2, z3, _⟩ := hc
  rcases h.2.2.2.2.2.2.2 with ⟨rfl, rfl⟩ | ⟨rfl, rfl⟩
  · exact ⟨z2, z3⟩
  · exact ⟨z3, z2⟩
theorem Rim.hF (h : Rim n G u v c a b) {k : Nat} (hk : k < n) : oF c (G k) ≤ 0 := by
  by_cases e : k = v
  · rw [e, h.2.2.2.2.1]; exact Int.le_refl _
  · have := h.2.2.2.2.2.1 k hk e; omega
theorem dv_vz (v a z : V3) : dv z v a = dv v a z := (dv_rt z v a).symm
/-- a corner's fence does not end in v, unless it is one of its two -/
theorem Rim.ends (h : Rim n G u v c a b) {e : Nat} (he : e < n) (e1 : e ≠ u) (e2 : e ≠ v) : G v ≠ G e ∧ G v ≠ G (nx n e) := by
  refine ⟨h.1.2.2.2.1 v e h.2.2.1 he (Ne.symm e2), h.1.2.2.2.1 v _ h.2.2.1 (nx_lt he) fun z => e1 ?_⟩
  exact nx_inj he h.2.1 (by rw [← z, h.2.2.2.1])
theorem Rim.sgn (h : Rim n G u v c a b) {P : V3} (pA : 0 < bA (G v) (G a) (G b) P) (pB : 0 < bB (G v) (G a) (G b) P) : dv P (G v) (G u) ≠ 0 ∧ dv P (G v) (G (nx n v)) ≠ 0 ∧ dv P (G v) (G u) * dv P (G v) (G (nx n v)) < 0 := by
  have e1 : dv P (G v) (G a) = bB (G v) (G a) (G b) P := dv_vz ..
  have e2 : dv P (G v) (G b) = - bA (G v) (G a) (G b) P := by unfold bA dv; grind
  rcases h.2.2.2.2.2.2.2 with ⟨rfl, rfl⟩ | ⟨rfl, rfl⟩
  · rw [e1, e2]
    exact ⟨by omega, by omega, Int.mul_neg_of_pos_of_neg pB (by omega)⟩
  · rw [e1, e2]
    exact ⟨by omega, by omega, Int.mul_neg_of_neg_of_pos (by omega) pB⟩
theorem Rim.zmid (h : Rim n G u v c a b) {z : Nat} (hz : z < n) (hc : Cd n G v a b z) (hm : ∀ j, j < n → Cd n G v a b j → bC (G v) (G a) (G b) (G j) ≤ bC (G v) (G a) (G b) (G z)) : pr G n (cb 1 (G v) 1 (G z)) = true := by
  obtain ⟨zA, zB⟩ := h.zpos hz hc
  have hA : (cb 1 (G v) 1 (G z)).2.2 = 2 := by simp only [cb, h.1.f3 h.2.2.1, h.1.f3 hz]; rfl
  obtain ⟨s1, s2, s3⟩ := h.sgn (P := cb 1 (G v) 1 (G z)) (by rw [bA_cb, bA_v]; omega) (by rw [bB_cb, bB_v]; omega)
  rw [pr_tip h.1.2.1 h.2.1 h.2.2.2.1 h.ne.1 (fun k hk => h.hF hk) h.2.2.2.2.1 (A := cb 1 (G v) 1 (G z)) (by omega) (by rw [oF_cb, h.2.2.2.2.1]; have := h.2.2.2.2.2.1 z hz hc.1; omega) s1 s2 (fun e he e1 e2 i j k l hi hj hk hl q => ?_)]
  · exact decide_eq_true s3
  · have q2 : cb i (G v) j (cb 1 (G v) 1 (G z)) = cb (i + j) (G v) j (G z) := by
      unfold cb; refine v3_ext ?_ ?_ ?_ <;> simp only <;> grind
    rw [q2] at q
    have w := (h.zcl hz hc hm he _ _ _ _ (by omega) hj hk hl q).1
    have j0 : j = 0 := by omega
    subst j0
    refine ⟨Classical.byContradiction fun i0 => ?_, rfl⟩
    refine h.1.cor h.2.2.1 he (Ne.symm e2) (fun y => e1 (nx_inj he h.2.1 (by rw [← y, h.2.2.2.1]))) i k l (by omega) hk hl ?_
    rw [← q, Int.add_zero]; exact cb_0 ..
/-- the strip parts the corner's two fences: each one's far end lies beyond the other part -/
theorem Rim.zside (h : Rim n G u v c a b) {z : Nat} (hz : z < n) (hc : Cd n G v a b z) (hm : ∀ j, j < n → Cd n G v a b j → bC (G v) (G a) (G b) (G j) ≤ bC (G v) (G a) (G b) (G z)) {S : Nat → Bool} (hS : clo S G n (G v) (G z)) {f g : Nat} (hfg : (f = u ∧ g = v) ∨ (f = v ∧ g = u)) (h1 : S f = true) (h2 : S g = false) {x y : Nat} (hx : (f = u ∧ x = u ∧ y = nx n v) ∨ (f = v ∧ x = nx n v ∧ y = u)) (h3 : ∀ e, e < n → S e = true → e ≠ y ∧ nx n e ≠ y) : pS S G n (G v) (G z) (G y) = false := by
  obtain ⟨zA, zB⟩ := h.zpos hz hc
  obtain ⟨n1, n2, n3⟩ := h.ne
  have hu := h.2.1
  have hv := h.2.2.1
  have hw := nx_lt hv
  have e1 : dv (G z) (G v) (G a) = bB (G v) (G a) (G b) (G z) := dv_vz ..
  have e2 : dv (G z) (G v) (G b) = - bA (G v) (G a) (G b) (G z) := by unfold bA dv; grind
  have hD := h.2.2.2.2.2.2.1
  -- the three sides, told from y
  have key : dv (G y) (G v) (G x) ≠ 0 ∧ dv (G y) (G v) (G z) ≠ 0 ∧ ¬ dv (G y) (G v) (G x) * dv (G y) (G v) (G z) < 0 := by
    have d1 : dv (G a) (G v) (G b) = - dv (G v) (G a) (G b) := dv_sw ..
    have d2 : dv (G b) (G v) (G a) = dv (G v) (G a) (G b) := dv_vz ..
    have d3 : dv (G a) (G v) (G z) = - bB (G v) (G a) (G b) (G z) := by unfold bB dv; grind
    have d4 : dv (G b) (G v) (G z) = bA (G v) (G a) (G b) (G z) := by unfold bA dv; grind
    have m1 := Int.mul_pos hD zA
    have m2 := Int.mul_pos hD zB
    have : (y = a ∧ x = b) ∨ (y = b ∧ x = a) := by
      rcases h.2.2.2.2.2.2.2 with ⟨r1, r2⟩ | ⟨r1, r2⟩ <;> rcases hx with ⟨x1, x2, x3⟩ | ⟨x1, x2, x3⟩
      · right; omega
      · left; omega
      · left; omega
      · right; omega
    rcases this with ⟨rfl, rfl⟩ | ⟨rfl, rfl⟩
    · rw [d1, d3, Int.neg_mul_neg]; omega
    · rw [d2, d4]; omega
  have hyn : y < n ∧ y ≠ v := by
    rcases hx with ⟨_, _, rfl⟩ | ⟨_, _, rfl⟩
    · exact ⟨hw, n2⟩
    · exact ⟨hu, n1⟩
  have hfn : f < n := by rcases hfg with ⟨rfl, _⟩ | ⟨rfl, _⟩ <;> assumption
  have hff : (G f = G v ∧ G (nx n f) = G x) ∨ (G f = G x ∧ G (nx n f) = G v) := by
    rcases hx with ⟨rfl, rfl, _⟩ | ⟨rfl, rfl, _⟩
    · right; exact ⟨rfl, by rw [h.2.2.2.1]⟩
    · left; exact ⟨rfl, rfl⟩
  rw [pS_tip h.1.2.1 (h.1.f3 hv) (h.1.f3 hz) hS hfn h1 hff (fun k hk => h.hF hk) h.2.2.2.2.1 (h.hF hz) (by rw [h.1.f3 hyn.1]; omega) (h.2.2.2.2.2.1 y hyn.1 hyn.2) key.1 key.2.1 (fun e he s1 e3 => ?_)]
  · exact decide_eq_false key.2.2
  · have eg : e ≠ g := fun z => by rw [z, h2] at s1; cases s1
    have eu : e ≠ u ∧ e ≠ v := by rcases hfg with ⟨r1, r2⟩ | ⟨r1, r2⟩ <;> omega
    obtain ⟨y1, y2⟩ := h3 e he s1
    obtain ⟨v1, v2⟩ := h.ends he eu.1 eu.2
    have w1 := h.1.2.2.2.1 y e hyn.1 he (Ne.symm y1)
    have w2 := h.1.2.2.2.1 y _ hyn.1 (nx_lt he) (Ne.symm y2)
    have cl : Cl (G v) (G y) (G e) (G (nx n e)) := by
      rcases hx with ⟨_, _, rfl⟩ | ⟨_, _, rfl⟩
      · exact h.1.2.2.2.2 v e hv he (Ne.symm eu.2)
      · have := h.1.2.2.2.2 y e hu he (Ne.symm eu.1)
        rw [h.2.2.2.1] at this
        exact this.s1
    exact cl.ft (h.1.f3 hv) (h.1.f3 hyn.1) (h.1.f3 he) (h.1.f3 (nx_lt he)) v1 v2 w1 w2
theorem nx_i {n i : Nat} (h : i + 1 < n) : nx n i = i + 1 := by unfold nx; rw [if_pos h]
theorem nx_e {n i : Nat} (h : i + 1 = n) : nx n i = 0 := by unfold nx; rw [if_neg (by omega)]
theorem nx_c {n i : Nat} (h : i < n) : (i + 1 < n ∧ nx n i = i + 1) ∨ (i + 1 = n ∧ nx n i = 0) := by
  by_cases c : i + 1 < n
  · exact Or.inl ⟨c, nx_i c⟩
  · exact Or.inr ⟨by omega, nx_e (by omega)⟩
theorem Cl_sym {n : Nat} {G : Nat → V3} {x y : Nat} (h : ∀ e, e < n → Cl (G x) (G y) (G e) (G (nx n e))) : ∀ e, e < n → Cl (G y) (G x) (G e) (G (nx n e)) := fun e he => (h e he).s1
theorem Rim.zgood (h : Rim n G u v c a b) {z : Nat} (hz : z < n) (hc : Cd n G v a b z) (hm : ∀ j, j < n → Cd n G v a b j → bC (G v) (G a) (G b) (G j) ≤ bC (G v) (G a) (G b) (G z)) : ∃ c o, Gd n G c o := by
  obtain ⟨zu, zw⟩ := h.vne hc
  have zv := hc.1
  obtain ⟨n1, n2, n3⟩ := h.ne
  have hu := h.2.1
  have hv := h.2.2.1
  have huv := h.2.2.2.1
  have hw := nx_lt hv
  have mid := h.zmid hz hc hm
  have cl := fun e he => h.zcl hz hc hm (e := e) he
  have m2 : ∀ c o k, mk c o k = true ↔ c ≤ k ∧ k < o := fun c o k => by unfold mk; rw [decide_eq_true_eq]
  have m3 : ∀ c o k, (!mk c o k) = true ↔ ¬ (c ≤ k ∧ k < o) := fun c o k => by rw [Bool.not_eq_true', ← Bool.not_eq_true, m2]
  have m4 : ∀ c o k, mk c o k = false ↔ ¬ (c ≤ k ∧ k < o) := fun c o k => by rw [← Bool.not_eq_true, m2]
  have m5 : ∀ c o k, (!mk c o k) = false ↔ c ≤ k ∧ k < o := fun c o k => by rw [Bool.not_eq_false', m2]
  rcases Nat.lt_or_gt_of_ne zv with q | q
  · -- z before v
    have sw : cb 1 (G z) 1 (G v) = cb 1 (G v) 1 (G z) := cb_sw ..
    have cm := clo_mk (G := G) (n := n) (c := z) (o := v) (by omega) hv
    have eu : u + 1 = v := by rcases nx_c hu with ⟨r1, r2⟩ | ⟨r1, r2⟩ <;> omega
    have ew : nx n v = v + 1 ∨ nx n v = 0 := by rcases nx_c hv with ⟨r1, r2⟩ | ⟨r1, r2⟩ <;> omega
    have ewo : nx n v < z ∨ v < nx n v := by omega
    refine ⟨z, v, by omega, hv, ?_, Cl_sym cl, by rw [sw]; exact mid, ⟨u, by omega, by omega, ?_⟩, nx n v, hw, ewo, ?_⟩
    · rintro ⟨r1, r2⟩
      rcases nx_c hv with ⟨r3, r4⟩ | ⟨r3, r4⟩ <;> omega
    · rw [pS_sw]
      refine h.zside hz hc hm (clo_nt (clo_sw cm)) (f := v) (g := u) (Or.inr ⟨rfl, rfl⟩) ((m3 ..).mpr (by omega)) ((m5 ..).mpr (by omega)) (x := nx n v) (y := u) (Or.inr ⟨rfl, rfl, rfl⟩) (fun e he s => ?_)
      have := (m3 ..).mp s
      refine ⟨by omega, ?_⟩
      rcases nx_c he with ⟨r1, r2⟩ | ⟨r1, r2⟩ <;> omega
    · rw [pS_sw]
      refine h.zside hz hc hm (clo_sw cm) (f := u) (g := v) (Or.inl ⟨rfl, rfl⟩) ((m2 ..).mpr (by omega)) ((m4 ..).mpr (by omega)) (x := u) (y := nx n v) (Or.inl ⟨rfl, rfl, rfl⟩) (fun e he s => ?_)
      have := (m2 ..).mp s
      refine ⟨by omega, ?_⟩
      rcases nx_c he with ⟨r1, r2⟩ | ⟨r1, r2⟩ <;> omega
  · have cm := clo_mk (G := G) (n := n) (c := v) (o := z) (by omega) hz
    have ew : nx n v = v + 1 := by rcases nx_c hv with ⟨r1, r2⟩ | ⟨r1, r2⟩ <;> omega
    have euo : u < v ∨ z < u := by rcases nx_c hu with ⟨r1, r2⟩ | ⟨r1, r2⟩ <;> omega
    refine ⟨v, z, by omega, hz, ?_, cl, mid, ⟨nx n v, by omega, by omega, ?_⟩, u, hu, euo, ?_⟩
    · rintro ⟨r1, r2⟩
      rcases nx_c hu with ⟨r3, r4⟩ | ⟨r3, r4⟩ <;> omega
    · refine h.zside hz hc hm (clo_nt cm) (f := u) (g := v) (Or.inl ⟨rfl, rfl⟩) ((m3 ..).mpr (by omega)) ((m5 ..).mpr (by omega)) (x := u) (y := nx n v) (Or.inl ⟨rfl, rfl, rfl⟩) (fun e he s => ?_)
      have := (m3 ..).mp s
      refine ⟨by omega, ?_⟩
      rcases nx_c he with ⟨r1, r2⟩ | ⟨r1, r2⟩ <;> omega
    · refine h.zside hz hc hm cm (f := v) (g := u) (Or.inr ⟨rfl, rfl⟩) ((m2 ..).mpr (by omega)) ((m4 ..).mpr (by omega)) (x := nx n v) (y := u) (Or.inr ⟨rfl, rfl, rfl⟩) (fun e he s => ?_)
      have := (m2 ..).mp s
      refine ⟨by omega, ?_⟩
      rcases nx_c he with ⟨r1, r2⟩ | ⟨r1, r2⟩ <;> omega
end
