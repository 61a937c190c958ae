/-! The area of a sound field is not nothing: a slanted ryV from the middle of each fence. -/
def su (f : Nat → Int) : Nat → Int
  | 0 => 0
  | n + 1 => su f n + f n
theorem su_c {f g : Nat → Int} : ∀ {n : Nat}, (∀ k, k < n → f k = g k) → su f n = su g n
  | 0, _ => rfl
  | n + 1, h => by rw [su, su, su_c (fun k hk => h k (by omega)), h n (by omega)]
theorem su_add (f : Nat → Int) (a : Nat) : ∀ b, su f (a + b) = su f a + su (fun i => f (a + i)) b
  | 0 => by rw [su]; simp
  | b + 1 => by rw [← Nat.add_assoc, su, su, su_add f a b]; omega
def crV (p q : V3) : Int := p.1 * q.2.1 - q.1 * p.2.1
def arG (n : Nat) (G : Nat → V3) : Int := su (fun k => crV (G k) (G (nx n k))) n
section
variable {n c o : Nat} {G : Nat → V3}
theorem ar_parts (h1 : c + 2 ≤ o) (h2 : o < n) : arG n G = arG (o - c + 1) (gI G c) + arG (n - (o - c - 1)) (gO G c (o - c - 1)) := by
  have a1 : arG (o - c + 1) (gI G c) = su (fun i => crV (G (c + i)) (G (nx n (c + i)))) (o - c) + crV (G o) (G c) := by
    unfold arG
    rw [su]
    congr 1
    · refine su_c (fun k hk => ?_)
      rcases fI (G := G) h1 h2 (show k < o - c + 1 by omega) with ⟨a1, a2, a3⟩ | ⟨a1, a2, a3⟩
      · rw [a2, a3]
      · omega
    · rcases fI (G := G) h1 h2 (show o - c < o - c + 1 by omega) with ⟨a1, a2, a3⟩ | ⟨a1, a2, a3⟩
      · omega
      · rw [a2, a3]
  have a2 : arG (n - (o - c - 1)) (gO G c (o - c - 1)) = su (fun k => crV (G k) (G (nx n k))) c + crV (G c) (G o) + su (fun i => crV (G (o + i)) (G (nx n (o + i)))) (n - o) := by
    unfold arG
    rw [show su (fun k => crV (gO G c (o - c - 1) k) (gO G c (o - c - 1) (nx (n - (o - c - 1)) k))) (n - (o - c - 1)) = su (fun k => crV (gO G c (o - c - 1) k) (gO G c (o - c - 1) (nx (n - (o - c - 1)) k))) (c + 1 + (n - o)) by rw [show n - (o - c - 1) = c + 1 + (n - o) by omega], su_add, su]
    congr 1
    · congr 1
      · refine su_c (fun k hk => ?_)
        rcases fO (G := G) h1 h2 (show k < n - (o - c - 1) by omega) with ⟨a1, a2, a3⟩ | ⟨a1, a2, a3⟩ | ⟨a1, a2, a3⟩
        · rw [a2, a3]
        · omega
        · omega
      · rcases fO (G := G) h1 h2 (show c < n - (o - c - 1) by omega) with ⟨a1, a2, a3⟩ | ⟨a1, a2, a3⟩ | ⟨a1, a2, a3⟩
        · omega
        · rw [a2, a3]
        · omega
    · refine su_c (fun k hk => ?_)
      rcases fO (G := G) h1 h2 (show c + 1 + k < n - (o - c - 1) by omega) with ⟨a1, a2, a3⟩ | ⟨a1, a2, a3⟩ | ⟨a1, a2, a3⟩
      · omega
      · omega
      · rw [a2, a3, show c + 1 + k + (o - c - 1) = o + k by omega]
  have a3 : arG n G = su (fun k => crV (G k) (G (nx n k))) c + su (fun i => crV (G (c + i)) (G (nx n (c + i)))) (o - c) + su (fun i => crV (G (o + i)) (G (nx n (o + i)))) (n - o) := by
    unfold arG
    have e := su_add (fun k => crV (G k) (G (nx n k))) o (n - o)
    rw [show o + (n - o) = n by omega] at e
    have e2 := su_add (fun k => crV (G k) (G (nx n k))) c (o - c)
    rw [show c + (o - c) = o by omega] at e2
    rw [e, e2]
  have a4 : crV (G o) (G c) = - crV (G c) (G o) := by unfold crV; omega
  rw [a1, a2, a3, a4]
  omega
end
/-- the far end of the ryV -/
def rA (M : V3) : V3 := (M.1 + 1, M.2.1 + 31, M.2.2)
def xV (A B p q : V3) : Bool := decide (dv A B p * dv A B q < 0) && decide (dv p q A * dv p q B < 0)
theorem xV_qp (A B p q : V3) : xV A B q p = xV A B p q := by
  unfold xV
  rw [dv_sw p q A, dv_sw p q B, Int.neg_mul_neg, Int.mul_comm (dv A B q)]
theorem hV_x {s : Int} (hs : s = 1 ∨ s = -1) {A B p q : V3} (hp : dv A B p ≠ 0) (hq : dv A B q ≠ 0) : hV s A B p q = xV A B p q := by
  unfold hV hN xV
  rw [sg_two hs hp hq]
def ryV (n : Nat) (G : Nat → V3) (M : V3) : Bool := xr (fun e => xV M (rA M) (G e) (G (nx n e))) n
theorem rA_t {M p : V3} (hM : M.2.2 = 2) (hp : p.2.2 = 1) : dv M (rA M) p = (2 * p.2.1 - M.2.1) - 31 * (2 * p.1 - M.1) := by
  unfold dv rA
  simp only [hM, hp]
  grind
/-- a point of half steps on the grid -/
def hfM (M : V3) : Prop := M.2.2 = 2 ∧ 0 ≤ M.1 ∧ M.1 ≤ 30 ∧ 0 ≤ M.2.1 ∧ M.2.1 ≤ 30
def grd (p : V3) : Prop := p.2.2 = 1 ∧ 0 ≤ p.1 ∧ p.1 ≤ 15 ∧ 0 ≤ p.2.1 ∧ p.2.1 ≤ 15
theorem SnG.grd {n : Nat} {G : Nat → V3} (h : SnG n G) {k : Nat} (hk : k < n) : grd (G k) := ⟨h.f3 hk, h.2.2.1 k hk⟩
theorem hfM.of {p q : V3} (hp : grd p) (hq : grd q) : hfM (cb 1 p 1 q) := by
  unfold hfM grd at *
  unfold cb
  simp only
  omega
theorem rA_ne {M p : V3} (hM : hfM M) (hp : grd p) (h : cb 1 M 0 M ≠ cb 2 p 0 p) : dv M (rA M) p ≠ 0 := by
  intro z
  rw [rA_t hM.1 hp.1] at z
  obtain ⟨m1, m2, m3, m4, m5⟩ := hM
  obtain ⟨p1, p2, p3, p4, p5⟩ := hp
  refine h ?_
  unfold cb
  refine v3_ext ?_ ?_ ?_ <;> simp only <;> omega
/-- the far end lies above all fences -/
theorem rA_nn {M p q : V3} (hM : hfM M) (hp : grd p) (hq : grd q) : Nn (rA M) p q := fun i k l hi hk hl e => by
  have e2 := congrArg (fun z : V3 => z.2.1) e
  have e3 := congrArg (fun z : V3 => z.2.2) e
  simp only [cb, rA, hp.1, hq.1, hM.1] at e2 e3
  have a1 := Int.mul_le_mul_of_nonneg_left hp.2.2.2.2 hk
  have a2 := Int.mul_le_mul_of_nonneg_left hq.2.2.2.2 hl
  have a3 := Int.mul_le_mul_of_nonneg_left (show 31 ≤ M.2.1 + 31 by have := hM.2.2.2.1; omega) (show 0 ≤ i by omega)
  omega
theorem rA_out {p : V3} {M : V3} (hM : hfM M) (hp : grd p) : 0 * p.1 + 1 * p.2.1 + -15 ≤ 0 ∧ 0 < 0 * (rA M).1 + 1 * (rA M).2.1 + -15 * (rA M).2.2 := by
  obtain ⟨m1, m2, m3, m4, m5⟩ := hM
  obtain ⟨p1, p2, p3, p4, p5⟩ := hp
  unfold rA
  simp only
  omega
/-- a point on no fence: the ryV tells whether it lies within -/
theorem ray_pr {n : Nat} {G : Nat → V3} (h : SnG n G) {M : V3} (hM : hfM M) (hn : ∀ e, e < n → Nn M (G e) (G (nx n e))) (ht : ∀ k, k < n → cb 1 M 0 M ≠ cb 2 (G k) 0 (G k)) : ryV n G M = pr G n M := by
  have hM3 : 0 < M.2.2 := by rw [hM.1]; omega
  have hA3 : 0 < (rA M).2.2 := by show 0 < M.2.2; exact hM3
  obtain ⟨s, hs, e⟩ := pr_AB h.2.1 hM3 hA3 (fun k hk => nt_of hM3 hA3 (h.f3 hk) (h.f3 (nx_lt hk)) (hn k hk) (rA_nn hM (h.grd hk) (h.grd (nx_lt hk))))
  have o : pr G n (rA M) = false := pr_half h.2.1 hA3 (a := 0) (b := 1) (c := -15) (rA_out hM (h.grd (show 0 < n by have := h.1; omega))).2 (fun k hk => (rA_out hM (h.grd hk)).1)
  rw [o, Bool.bne_false] at e
  rw [e]
  exact xr_c (fun k hk => (hV_x hs (rA_ne hM (h.grd hk) (ht k hk)) (rA_ne hM (h.grd (nx_lt hk)) (ht _ (nx_lt hk)))).symm)
