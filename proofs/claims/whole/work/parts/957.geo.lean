/-! A strip from the corner farthest out. -/
theorem amax (P : Nat → Prop) (f : Nat → Int) : ∀ n : Nat, (∃ k, k < n ∧ P k) → ∃ k, k < n ∧ P k ∧ ∀ j, j < n → P j → f j ≤ f k
  | 0, h => by obtain ⟨k, hk, _⟩ := h; omega
  | n + 1, h => by
    by_cases c : ∃ k, k < n ∧ P k
    · obtain ⟨k, h1, h2, h3⟩ := amax P f n c
      by_cases d : P n ∧ f k < f n
      · refine ⟨n, by omega, d.1, fun j hj hP => ?_⟩
        by_cases e : j = n
        · rw [e]; exact Int.le_refl _
        · have := h3 j (by omega) hP; omega
      · refine ⟨k, by omega, h2, fun j hj hP => ?_⟩
        by_cases e : j = n
        · subst e
          refine Int.not_lt.mp fun z => d ⟨hP, z⟩
        · exact h3 j (by omega) hP
    · obtain ⟨k, hk, hP⟩ := h
      have e : k = n := by
        refine Classical.byContradiction fun z => c ⟨k, by omega, hP⟩
      subst e
      refine ⟨k, by omega, hP, fun j hj hj2 => ?_⟩
      by_cases e : j = k
      · rw [e]; exact Int.le_refl _
      · exact absurd ⟨j, by omega, hj2⟩ c
theorem SnG.rim {n : Nat} {G : Nat → V3} (h : SnG n G) : ∃ (u v : Nat) (c : Int), u < n ∧ v < n ∧ nx n u = v ∧ oF c (G v) = 0 ∧ ∀ k, k < n → k ≠ v → oF c (G k) < 0 := by
  obtain ⟨v, h1, _, h3⟩ := amax (fun _ => True) (fun k => 16 * (G k).1 + (G k).2.1) n ⟨0, by have := h.1; omega, trivial⟩
  refine ⟨if v = 0 then n - 1 else v - 1, v, 16 * (G v).1 + (G v).2.1, by split <;> omega, h1, by unfold nx; (repeat' split) <;> omega, ?_, fun k hk kv => ?_⟩
  · unfold oF; rw [h.2.1 v h1]; omega
  · have := h3 k hk trivial
    have r1 := h.2.2.1 k hk
    have r2 := h.2.2.1 v h1
    have o1 := h.2.1 k hk
    have o2 := h.2.1 v h1
    unfold oF
    rw [o1]
    refine Classical.byContradiction fun z => h.2.2.2.1 k v hk h1 kv (v3_ext (by omega) (by omega) (by omega))
theorem straight {U W T : V3} {c : Int} (o1 : U.2.2 = 1) (o2 : W.2.2 = 1) (o3 : T.2.2 = 1) (z : dv W U T = 0) (h0 : oF c W = 0) : cb (- oF c T) U (- oF c U) W = cb (- oF c T) W (- oF c U) T := by
  obtain ⟨a, b, x⟩ := U
  obtain ⟨d, e, y⟩ := W
  obtain ⟨f, g, w⟩ := T
  simp only at o1 o2 o3
  subst o1 o2 o3
  unfold oF dv at *
  simp only at *
  obtain rfl : c = 16 * d + e := by omega
  unfold cb
  refine v3_ext ?_ ?_ ?_ <;> simp only <;> grind
theorem SnG.turn {n : Nat} {G : Nat → V3} (h : SnG n G) {u v : Nat} {c : Int} (hu : u < n) (hv : nx n u = v) (h0 : oF c (G v) = 0) (hF : ∀ k, k < n → k ≠ v → oF c (G k) < 0) : dv (G v) (G u) (G (nx n v)) ≠ 0 := by
  intro z
  have hvn : v < n := by rw [← hv]; exact nx_lt hu
  have n3 := h.1
  have uv : u ≠ v := by rw [← hv]; exact Ne.symm (nx_ne (by omega) hu)
  have wv := nx_ne (by omega) hvn
  have o1 := h.2.1 u hu
  have o2 := h.2.1 v hvn
  have o3 := h.2.1 _ (nx_lt hvn)
  have fu := hF u hu uv
  have fw := hF _ (nx_lt hvn) wv
  have cl := h.2.2.2.2 u v hu hvn uv
  rw [hv] at cl
  generalize G u = U at *
  generalize G v = W at *
  generalize G (nx n v) = T at *
  have key := straight o1 o2 o3 z h0
  have := (cl _ _ _ _ (by omega) (by omega) (by omega) (by omega) key).1
  omega
def mk (c o : Nat) : Nat → Bool := fun k => decide (c ≤ k ∧ k < o)
theorem xr_mk (f : Nat → Bool) (c n : Nat) : ∀ m, c + m ≤ n → xr (fun k => mk c (c + m) k && f k) n = xr (fun i => f (c + i)) m
  | 0, h => by
    rw [xr]
    exact xr_0 (fun k hk => by unfold mk; rw [decide_eq_false (by omega)]; rfl)
  | m + 1, h => by
    rw [xr, ← xr_mk f c n m (by omega)]
    have e : xr (fun k => mk c (c + (m + 1)) k && f k) n = xr (fun k => (mk c (c + m) k && f k) != (decide (k = c + m) && f (c + m))) n := xr_c (fun k hk => by
      unfold mk
      by_cases a : k = c + m
      · subst a
        rw [decide_eq_true (show c ≤ c + m ∧ c + m < c + (m + 1) by omega), decide_eq_false (show ¬ (c ≤ c + m ∧ c + m < c + m) by omega), decide_eq_true rfl]
        cases f (c + m) <;> rfl
      · have e : decide (c ≤ k ∧ k < c + (m + 1)) = decide (c ≤ k ∧ k < c + m) := decide_eq_decide.mpr (by omega)
        rw [decide_eq_false a, e]
        simp)
    rw [e, xr_ne, xr_one, decide_eq_true (show c + m < n by omega)]; rfl
theorem clo_mk {G : Nat → V3} {n c o : Nat} (h1 : c ≤ o) (h2 : o < n) : clo (mk c o) G n (G c) (G o) := fun g => by
  obtain ⟨m, rfl⟩ : ∃ m, o = c + m := ⟨o - c, by omega⟩
  rw [xr_mk _ c n m (by omega)]
  have e := xr_tel (fun i => g (G (c + i))) m
  simp only [Nat.add_zero] at e
  rw [← e]
  exact xr_c (fun k hk => by unfold nx; rw [if_pos (by omega)]; rfl)
theorem clo_nt {S : Nat → Bool} {G : Nat → V3} {n : Nat} {x y : V3} (h : clo S G n x y) : clo (fun k => !S k) G n x y := fun g => by
  have e := xr_cyc (fun k => g (G k)) n
  have e2 : xr (fun k => g (G k) != g (G (nx n k))) n = (xr (fun k => S k && (g (G k) != g (G (nx n k)))) n != xr (fun k => !S k && (g (G k) != g (G (nx n k)))) n) := by
    rw [← xr_ne]
    exact xr_c (fun k _ => by cases S k <;> cases g (G k) <;> cases g (G (nx n k)) <;> rfl)
  rw [e, h g] at e2
  revert e2
  cases xr (fun k => !S k && (g (G k) != g (G (nx n k)))) n <;> cases (g x != g y) <;> simp
theorem clo_sw {S : Nat → Bool} {G : Nat → V3} {n : Nat} {x y : V3} (h : clo S G n x y) : clo S G n y x := fun g => by
  rw [h g]; cases g x <;> cases g y <;> rfl
theorem cV_qp (p q P : V3) : cV q p P = cV p q P := by
  unfold cV
  rw [dv_sw p q P]
  by_cases a : p.2.1 * P.2.2 ≤ P.2.1 <;> by_cases b : q.2.1 * P.2.2 ≤ P.2.1 <;> by_cases c : q.2.1 ≤ p.2.1 <;> by_cases d : p.2.1 ≤ q.2.1 <;> simp [a, b, c, d] <;> first | rfl | skip
  all_goals first
    | omega
    | (have e : p.2.1 = q.2.1 := by omega
       rw [e] at a; omega)
theorem pS_sw (S : Nat → Bool) (G : Nat → V3) (n : Nat) (x y P : V3) : pS S G n y x P = pS S G n x y P := by unfold pS; rw [cV_qp]

/-- what a strip has: it touches no fence but at common ends, its middle lies within, each part's inner corners lie beyond the other part -/
def Gd (n : Nat) (G : Nat → V3) (c o : Nat) : Prop := c + 2 ≤ o ∧ o < n ∧ ¬ (c = 0 ∧ o = n - 1) ∧ (∀ e, e < n → Cl (G c) (G o) (G e) (G (nx n e))) ∧ pr G n (cb 1 (G c) 1 (G o)) = true ∧ (∃ k, c < k ∧ k < o ∧ pS (fun k => !mk c o k) G n (G c) (G o) (G k) = false) ∧ (∃ k, k < n ∧ (k < c ∨ o < k) ∧ pS (mk c o) G n (G c) (G o) (G k) = false)
theorem SnG.f3 {n : Nat} {G : Nat → V3} (h : SnG n G) {e : Nat} (he : e < n) : (G e).2.2 = 1 := h.2.1 e he
/-- the corner farthest out, with its neighbours: a to the one side, b to the other -/
def Rim (n : Nat) (G : Nat → V3) (u v : Nat) (c : Int) (a b : Nat) : Prop := SnG n G ∧ u < n ∧ v < n ∧ nx n u = v ∧ oF c (G v) = 0 ∧ (∀ k, k < n → k ≠ v → oF c (G k) < 0) ∧ 0 < dv (G v) (G a) (G b) ∧ ((a = u ∧ b = nx n v) ∨ (a = nx n v ∧ b = u))
theorem SnG.toRim {n : Nat} {G : Nat → V3} (h : SnG n G) : ∃ u v c a b, Rim n G u v c a b := by
  obtain ⟨u, v, c, h1, h2, h3, h4, h5⟩ := h.rim
  have t := h.turn h1 h3 h4 h5
  rcases Int.lt_or_gt_of_ne t with q | q
  · exact ⟨u, v, c, nx n v, u, h, h1, h2, h3, h4, h5, by rw [dv_s2]; omega, Or.inr ⟨rfl, rfl⟩⟩
  · exact ⟨u, v, c, u, nx n v, h, h1, h2, h3, h4, h5, q, Or.inl ⟨rfl, rfl⟩⟩
section
variable {n : Nat} {G : Nat → V3} {u v a b : Nat} {c : Int}
theorem Rim.ne (h : Rim n G u v c a b) : u ≠ v ∧ nx n v ≠ v ∧ u ≠ nx n v := by
  have n3 := h.1.1
  have hu := h.2.1
  have hv := h.2.2.2.1
  refine ⟨?_, nx_ne (by omega) h.2.2.1, ?_⟩
  · rw [← hv]; exact Ne.symm (nx_ne (by omega) hu)
  · rw [← hv]; unfold nx; (repeat' split) <;> omega
theorem Rim.ab (h : Rim n G u v c a b) : a < n ∧ b < n ∧ a ≠ v ∧ b ≠ v ∧ a ≠ b := by
  obtain ⟨n1, n2, n3⟩ := h.ne
  have hu := h.2.1
  have hw := nx_lt h.2.2.1
  rcases h.2.2.2.2.2.2.2 with ⟨rfl, rfl⟩ | ⟨rfl, rfl⟩
  · exact ⟨hu, hw, n1, n2, n3⟩
  · exact ⟨hw, hu, n2, n1, Ne.symm n3⟩
/-- the two fences of the corner -/
theorem Rim.cl (h : Rim n G u v c a b) {e : Nat} (he : e < n) (e1 : e ≠ u) (e2 : e ≠ v) : Cl (G e) (G (nx n e)) (G v) (G a) ∧ Cl (G e) (G (nx n e)) (G v) (G b) := by
  have c1 := h.1.2.2.2.2 e u he h.2.1 e1
  have c2 := h.1.2.2.2.2 e v he h.2.2.1 e2
  rw [h.2.2.2.1] at c1
  rcases h.2.2.2.2.2.2.2 with ⟨rfl, rfl⟩ | ⟨rfl, rfl⟩
  · exact ⟨c1.s2, c2⟩
  · exact ⟨c2, c1.s2⟩
theorem bA_v (v a b : V3) : bA v a b v = 0 := dv_0 ..
theorem bB_v (v a b : V3) : bB v a b v = 0 := dv_1 ..
theorem bC_v (v a b : V3) : bC v a b v = dv v a b := rfl
theorem bA_a (v a b : V3) : bA v a b a = dv v a b := rfl
theorem bB_a (v a b : V3) : bB v a b a = 0 := dv_2 ..
theorem bC_a (v a b : V3) : bC v a b a = 0 := dv_0 ..
theorem bA_b (v a b : V3) : bA v a b b = 0 := dv_2 ..
theorem bB_b (v a b : V3) : bB v a b b = dv v a b := rfl
theorem bC_b (v a b : V3) : bC v a b b = 0 := dv_1 ..
/-- a fence of the corner does not reach within -/
theorem Rim.own (h : Rim n G u v c a b) {e : Nat} (e1 : e = u ∨ e = v) {k l : Int} (tA : 0 < bA (G v) (G a) (G b) (cb k (G e) l (G (nx n e)))) (tB : 0 < bB (G v) (G a) (G b) (cb k (G e) l (G (nx n e)))) : False := by
  rw [bA_cb] at tA
  rw [bB_cb] at tB
  rcases e1 with rfl | rfl
  · rw [h.2.2.2.1, bA_v] at tA
    rw [h.2.2.2.1, bB_v] at tB
    rcases h.2.2.2.2.2.2.2 with ⟨rfl, rfl⟩ | ⟨rfl, rfl⟩
    · rw [bB_a] at tB; omega
    · rw [bA_b] at tA; omega
  · rw [bA_v] at tA
    rw [bB_v] at tB
    rcases h.2.2.2.2.2.2.2 with ⟨rfl, rfl⟩ | ⟨rfl, rfl⟩
    · rw [bA_b] at tA; omega
    · rw [bB_a] at tB; omega
/-- a fence that reaches within has an end there, and it is no end of the corner's fences -/
theorem Rim.blk (h : Rim n G u v c a b) {e : Nat} (he : e < n) {k l : Int} (hk : 0 ≤ k) (hl : 0 ≤ l) (tA : 0 < bA (G v) (G a) (G b) (cb k (G e) l (G (nx n e)))) (tB : 0 < bB (G v) (G a) (G b) (cb k (G e) l (G (nx n e)))) (tC : 0 < bC (G v) (G a) (G b) (cb k (G e) l (G (nx n e)))) : ∃ r, r < n ∧ r ≠ v ∧ r ≠ a ∧ r ≠ b ∧ 0 ≤ bA (G v) (G a) (G b) (G r) ∧ 0 ≤ bB (G v) (G a) (G b) (G r) ∧ 0 < bC (G v) (G a) (G b) (G r) ∧ bC (G v) (G a) (G b) (cb k (G e) l (G (nx n e))) ≤ bC (G v) (G a) (G b) (G r) * (k + l) := by
  by_cases e1 : e = u
  · exact absurd (h.own (Or.inl e1) tA tB) id
  by_cases e2 : e = v
  · exact absurd (h.own (Or.inr e2) tA tB) id
  obtain ⟨c1, c2⟩ := h.cl he e1 e2
  have rr : ∀ r, 0 < bC (G v) (G a) (G b) (G r) → r ≠ a ∧ r ≠ b := fun r hr => ⟨fun z => by rw [z, bC_a] at hr; omega, fun z => by rw [z, bC_b] at hr; omega⟩
  rcases block h.2.2.2.2.2.2.1 c1 c2 hk hl tA tB tC with ⟨q1, q2, q3, q4⟩ | ⟨q1, q2, q3, q4⟩
  · exact ⟨e, he, e2, (rr _ q3).1, (rr _ q3).2, q1, q2, q3, q4⟩
  · refine ⟨nx n e, nx_lt he, fun z => e1 ?_, (rr _ q3).1, (rr _ q3).2, q1, q2, q3, q4⟩
    exact nx_inj he h.2.1 (by rw [z, h.2.2.2.1])
end
