/-! The two parts that a strip makes. -/
section
variable {n c o : Nat} {G : Nat → V3}
def gI (G : Nat → V3) (c : Nat) : Nat → V3 := fun k => G (c + k)
def gO (G : Nat → V3) (c d : Nat) : Nat → V3 := fun k => G (if k ≤ c then k else k + d)
theorem mk_t {c o k : Nat} : mk c o k = true ↔ c ≤ k ∧ k < o := by unfold mk; rw [decide_eq_true_eq]
theorem mk_f {c o k : Nat} : mk c o k = false ↔ ¬ (c ≤ k ∧ k < o) := by rw [← Bool.not_eq_true, mk_t]
theorem fI (h1 : c + 2 ≤ o) (h2 : o < n) {e : Nat} (he : e < o - c + 1) : (e < o - c ∧ gI G c e = G (c + e) ∧ gI G c (nx (o - c + 1) e) = G (nx n (c + e))) ∨ (e = o - c ∧ gI G c e = G o ∧ gI G c (nx (o - c + 1) e) = G c) := by
  unfold gI
  by_cases q : e < o - c
  · refine Or.inl ⟨q, rfl, ?_⟩
    rw [nx_i (by omega), nx_i (by omega), Nat.add_assoc]
  · refine Or.inr ⟨by omega, ?_, ?_⟩
    · rw [show c + e = o by omega]
    · rw [nx_e (by omega)]; rfl
theorem fO (h1 : c + 2 ≤ o) (h2 : o < n) {e : Nat} (he : e < n - (o - c - 1)) : (e < c ∧ gO G c (o - c - 1) e = G e ∧ gO G c (o - c - 1) (nx (n - (o - c - 1)) e) = G (nx n e)) ∨ (e = c ∧ gO G c (o - c - 1) e = G c ∧ gO G c (o - c - 1) (nx (n - (o - c - 1)) e) = G o) ∨ (c < e ∧ gO G c (o - c - 1) e = G (e + (o - c - 1)) ∧ gO G c (o - c - 1) (nx (n - (o - c - 1)) e) = G (nx n (e + (o - c - 1)))) := by
  unfold gO
  rcases Nat.lt_trichotomy e c with q | q | q
  · refine Or.inl ⟨q, by rw [if_pos (by omega)], ?_⟩
    rw [nx_i (by omega), nx_i (by omega), if_pos (by omega)]
  · refine Or.inr (Or.inl ⟨q, by rw [if_pos (by omega), q], ?_⟩)
    rw [nx_i (by omega), if_neg (by omega), show e + 1 + (o - c - 1) = o by omega]
  · refine Or.inr (Or.inr ⟨q, by rw [if_neg (by omega)], ?_⟩)
    rcases nx_c he with ⟨r1, r2⟩ | ⟨r1, r2⟩
    · rw [r2, if_neg (by omega), nx_i (show e + (o - c - 1) + 1 < n by omega), show e + 1 + (o - c - 1) = e + (o - c - 1) + 1 by omega]
    · rw [r2, if_pos (by omega), nx_e (show e + (o - c - 1) + 1 = n by omega)]
theorem SnG.inn (h : SnG n G) (hg : Gd n G c o) : SnG (o - c + 1) (gI G c) := by
  obtain ⟨h1, h2, h3, cl, _⟩ := hg
  refine ⟨by omega, fun k hk => h.f3 (by omega), fun k hk => h.2.2.1 _ (by omega), fun i j hi hj hij => h.2.2.2.1 _ _ (by omega) (by omega) (by omega), fun e k he hk ek => ?_⟩
  rcases fI (G := G) h1 h2 he with ⟨a1, a2, a3⟩ | ⟨a1, a2, a3⟩ <;> rcases fI (G := G) h1 h2 hk with ⟨b1, b2, b3⟩ | ⟨b1, b2, b3⟩ <;> rw [a2, a3, b2, b3]
  · exact h.2.2.2.2 _ _ (by omega) (by omega) (by omega)
  · exact (cl _ (by omega)).sw.s2
  · exact (cl _ (by omega)).s1
  · omega
theorem SnG.out (h : SnG n G) (hg : Gd n G c o) : SnG (n - (o - c - 1)) (gO G c (o - c - 1)) := by
  obtain ⟨h1, h2, h3, cl, _⟩ := hg
  have hin : ∀ k, k < n - (o - c - 1) → (if k ≤ c then k else k + (o - c - 1)) < n := fun k hk => by split <;> omega
  refine ⟨by omega, fun k hk => h.f3 (hin k hk), fun k hk => h.2.2.1 _ (hin k hk), fun i j hi hj hij => h.2.2.2.1 _ _ (hin i hi) (hin j hj) (by (repeat' split) <;> omega), fun e k he hk ek => ?_⟩
  rcases fO (G := G) h1 h2 he with ⟨a1, a2, a3⟩ | ⟨a1, a2, a3⟩ | ⟨a1, a2, a3⟩ <;> rcases fO (G := G) h1 h2 hk with ⟨b1, b2, b3⟩ | ⟨b1, b2, b3⟩ | ⟨b1, b2, b3⟩ <;> rw [a2, a3, b2, b3]
  · exact h.2.2.2.2 _ _ (by omega) (by omega) (by omega)
  · exact (cl _ (by omega)).sw
  · exact h.2.2.2.2 _ _ (by omega) (by omega) (by omega)
  · exact cl _ (by omega)
  · omega
  · exact cl _ (by omega)
  · exact h.2.2.2.2 _ _ (by omega) (by omega) (by omega)
  · exact (cl _ (by omega)).sw
  · exact h.2.2.2.2 _ _ (by omega) (by omega) (by omega)
theorem xr_add (f : Nat → Bool) (a : Nat) : ∀ b, xr f (a + b) = (xr f a != xr (fun i => f (a + i)) b)
  | 0 => by rw [xr]; simp
  | b + 1 => by
    rw [← Nat.add_assoc, xr, xr, xr_add f a b]
    cases xr f a <;> cases xr (fun i => f (a + i)) b <;> cases f (a + b) <;> rfl
theorem xr_in {f : V3 → V3 → Bool} (hf : ∀ p q, f q p = f p q) (h1 : c + 2 ≤ o) (h2 : o < n) : xr (fun k => f (gI G c k) (gI G c (nx (o - c + 1) k))) (o - c + 1) = (xr (fun k => mk c o k && f (G k) (G (nx n k))) n != f (G c) (G o)) := by
  rw [xr]
  congr 1
  · have e := xr_mk (fun k => f (G k) (G (nx n k))) c n (o - c) (by omega)
    rw [show c + (o - c) = o by omega] at e
    rw [e]
    refine xr_c (fun k hk => ?_)
    rcases fI (G := G) h1 h2 (show k < o - c + 1 by omega) with ⟨a1, a2, a3⟩ | ⟨a1, a2, a3⟩
    · rw [a2, a3]
    · omega
  · rcases fI (G := G) h1 h2 (show o - c < o - c + 1 by omega) with ⟨a1, a2, a3⟩ | ⟨a1, a2, a3⟩
    · omega
    · rw [a2, a3]; exact hf ..
theorem xr_ou {f : V3 → V3 → Bool} (h1 : c + 2 ≤ o) (h2 : o < n) : xr (fun k => f (gO G c (o - c - 1) k) (gO G c (o - c - 1) (nx (n - (o - c - 1)) k))) (n - (o - c - 1)) = (xr (fun k => !mk c o k && f (G k) (G (nx n k))) n != f (G c) (G o)) := by
  have key : ∀ F : Nat → Bool, xr F (n - (o - c - 1)) = (xr F c != (F c != xr (fun i => F (c + 1 + i)) (n - o))) := fun F => by
    rw [show n - (o - c - 1) = c + 1 + (n - o) by omega, xr_add F (c + 1) (n - o), xr]
    cases xr F c <;> cases F c <;> cases xr (fun i => F (c + 1 + i)) (n - o) <;> rfl
  have key2 : ∀ F : Nat → Bool, xr F n = (xr F c != (xr (fun i => F (c + i)) (o - c) != xr (fun i => F (o + i)) (n - o))) := fun F => by
    have e := xr_add F o (n - o)
    rw [show o + (n - o) = n by omega] at e
    have e2 := xr_add F c (o - c)
    rw [show c + (o - c) = o by omega] at e2
    rw [e, e2]
    cases xr F c <;> cases xr (fun i => F (c + i)) (o - c) <;> cases xr (fun i => F (o + i)) (n - o) <;> rfl
  rw [key, key2]
  have m1 : xr (fun k => f (gO G c (o - c - 1) k) (gO G c (o - c - 1) (nx (n - (o - c - 1)) k))) c = xr (fun k => !mk c o k && f (G k) (G (nx n k))) c := xr_c (fun k hk => by
    rcases fO (G := G) h1 h2 (show k < n - (o - c - 1) by omega) with ⟨a1, a2, a3⟩ | ⟨a1, a2, a3⟩ | ⟨a1, a2, a3⟩
    · rw [a2, a3, mk_f.mpr (by omega)]; rfl
    · omega
    · omega)
  have m2 : xr (fun i => !mk c o (c + i) && f (G (c + i)) (G (nx n (c + i)))) (o - c) = false := xr_0 (fun k hk => by rw [mk_t.mpr (by omega)]; rfl)
  have m3 : xr (fun i => f (gO G c (o - c - 1) (c + 1 + i)) (gO G c (o - c - 1) (nx (n - (o - c - 1)) (c + 1 + i)))) (n - o) = xr (fun i => !mk c o (o + i) && f (G (o + i)) (G (nx n (o + i)))) (n - o) := xr_c (fun k hk => by
    rcases fO (G := G) h1 h2 (show c + 1 + k < n - (o - c - 1) by omega) with ⟨a1, a2, a3⟩ | ⟨a1, a2, a3⟩ | ⟨a1, a2, a3⟩
    · omega
    · omega
    · rw [a2, a3, mk_f.mpr (by omega), show c + 1 + k + (o - c - 1) = o + k by omega]; rfl)
  have m4 : f (gO G c (o - c - 1) c) (gO G c (o - c - 1) (nx (n - (o - c - 1)) c)) = f (G c) (G o) := by
    rcases fO (G := G) h1 h2 (show c < n - (o - c - 1) by omega) with ⟨a1, a2, a3⟩ | ⟨a1, a2, a3⟩ | ⟨a1, a2, a3⟩
    · omega
    · rw [a2, a3]
    · omega
  rw [m1, m2, m3, m4]
  cases xr (fun k => !mk c o k && f (G k) (G (nx n k))) c <;> cases xr (fun i => !mk c o (o + i) && f (G (o + i)) (G (nx n (o + i)))) (n - o) <;> cases f (G c) (G o) <;> rfl
theorem pr_in (h1 : c + 2 ≤ o) (h2 : o < n) (P : V3) : pr (gI G c) (o - c + 1) P = pS (mk c o) G n (G c) (G o) P := xr_in (f := fun p q => cV p q P) (fun p q => cV_qp p q P) h1 h2
theorem pr_ou (h1 : c + 2 ≤ o) (h2 : o < n) (P : V3) : pr (gO G c (o - c - 1)) (n - (o - c - 1)) P = pS (fun k => !mk c o k) G n (G c) (G o) P := xr_ou (f := fun p q => cV p q P) h1 h2
theorem pr_both (S : Nat → Bool) (x y P : V3) : pr G n P = (pS S G n x y P != pS (fun k => !S k) G n x y P) := by
  have e : pr G n P = (xr (fun k => S k && cV (G k) (G (nx n k)) P) n != xr (fun k => !S k && cV (G k) (G (nx n k)) P) n) := by
    rw [← xr_ne]
    exact xr_c (fun k _ => by cases S k <;> cases cV (G k) (G (nx n k)) P <;> rfl)
  rw [e]
  unfold pS
  cases xr (fun k => S k && cV (G k) (G (nx n k)) P) n <;> cases xr (fun k => !S k && cV (G k) (G (nx n k)) P) n <;> cases cV x y P <;> rfl
theorem con_iv {f : Nat → Bool} {lo hi : Nat} (h : ∀ k, lo ≤ k → k + 1 < hi → f k = f (k + 1)) : ∀ i j, lo ≤ i → i ≤ j → j < hi → f i = f j := by
  intro i j hi1 hij hj
  obtain ⟨d, rfl⟩ : ∃ d, j = i + d := ⟨j - i, by omega⟩
  clear hij
  induction d with
  | zero => rfl
  | succ d ih => rw [ih (by omega), h (i + d) (by omega) (by omega)]; rfl
/-- along a fence of the one part, beside the other part -/
theorem Gd.walk (h : SnG n G) (hg : Gd n G c o) {S : Nat → Bool} (hS : clo S G n (G c) (G o)) {k : Nat} (hk : k < n) (k0 : S k = false) (k1 : k ≠ c ∧ k ≠ o ∧ nx n k ≠ c ∧ nx n k ≠ o) (k2 : ∀ e, e < n → S e = true → e ≠ k ∧ e ≠ nx n k ∧ nx n e ≠ k ∧ nx n e ≠ nx n k) : pS S G n (G c) (G o) (G k) = pS S G n (G c) (G o) (G (nx n k)) := by
  obtain ⟨h1, h2, h3, cl, _⟩ := hg
  have hk2 := nx_lt hk
  refine pS_free h.2.1 (h.f3 (by omega)) (h.f3 h2) hS (by rw [h.f3 hk]; omega) (by rw [h.f3 hk2]; omega) (fun e he s => ?_) ?_
  · obtain ⟨q1, q2, q3, q4⟩ := k2 e he s
    exact (h.2.2.2.2 k e hk he (Ne.symm q1)).ft (h.f3 hk) (h.f3 hk2) (h.f3 he) (h.f3 (nx_lt he)) (h.2.2.2.1 _ _ hk he (Ne.symm q1)) (h.2.2.2.1 _ _ hk (nx_lt he) (Ne.symm q3)) (h.2.2.2.1 _ _ hk2 he (Ne.symm q2)) (h.2.2.2.1 _ _ hk2 (nx_lt he) (Ne.symm q4))
  · exact (cl k hk).sw.ft (h.f3 hk) (h.f3 hk2) (h.f3 (by omega)) (h.f3 h2) (h.2.2.2.1 _ _ hk (by omega) k1.1) (h.2.2.2.1 _ _ hk h2 k1.2.1) (h.2.2.2.1 _ _ hk2 (by omega) k1.2.2.1) (h.2.2.2.1 _ _ hk2 h2 k1.2.2.2)
theorem Gd.clm (hg : Gd n G c o) : clo (mk c o) G n (G c) (G o) := clo_mk (by have := hg.1; omega) hg.2.1
/-- the inner part's corners lie beyond the outer part -/
theorem Gd.fin (h : SnG n G) (hg : Gd n G c o) {k : Nat} (k1 : c < k) (k2 : k < o) : pS (fun k => !mk c o k) G n (G c) (G o) (G k) = false := by
  obtain ⟨r, r1, r2, r3⟩ := hg.2.2.2.2.2.1
  have h2 := hg.2.1
  have st : ∀ k, c + 1 ≤ k → k + 1 < o → (fun k => pS (fun k => !mk c o k) G n (G c) (G o) (G k)) k = (fun k => pS (fun k => !mk c o k) G n (G c) (G o) (G k)) (k + 1) := fun k q1 q2 => by
    have e := hg.walk h (clo_nt hg.clm) (k := k) (by omega) (by rw [mk_t.mpr (by omega)]; rfl) (by rw [nx_i (by omega)]; omega) (fun e he s => by
      rw [Bool.not_eq_true', mk_f] at s
      rw [nx_i (show k + 1 < n by omega)]
      rcases nx_c he with ⟨w1, w2⟩ | ⟨w1, w2⟩ <;> omega)
    rw [nx_i (by omega)] at e
    exact e
  rcases Nat.le_total k r with q | q
  · have := con_iv st k r (by omega) q r2
    rw [← r3]; exact this
  · have := con_iv st r k (by omega) q k2
    rw [← r3]; exact this.symm
/-- the outer part's corners lie beyond the inner part -/
theorem Gd.fou (h : SnG n G) (hg : Gd n G c o) {k : Nat} (hk : k < n) (k1 : k < c ∨ o < k) : pS (mk c o) G n (G c) (G o) (G k) = false := by
  obtain ⟨r, r1, r2, r3⟩ := hg.2.2.2.2.2.2
  have h2 := hg.2.1
  have h1 := hg.1
  have st : ∀ k, k < n → (k < c ∨ o < k) → (nx n k < c ∨ o < nx n k) → pS (mk c o) G n (G c) (G o) (G k) = pS (mk c o) G n (G c) (G o) (G (nx n k)) := fun k q0 q1 q2 => hg.walk h hg.clm (k := k) q0 (mk_f.mpr (by omega)) (by omega) (fun e he s => by
      rw [mk_t] at s
      rw [nx_i (show e + 1 < n by omega)]
      rcases nx_c q0 with ⟨w1, w2⟩ | ⟨w1, w2⟩ <;> omega)
  have lo : ∀ i j, i ≤ j → j < c → pS (mk c o) G n (G c) (G o) (G i) = pS (mk c o) G n (G c) (G o) (G j) := fun i j h3 h4 => con_iv (f := fun k => pS (mk c o) G n (G c) (G o) (G k)) (lo := 0) (hi := c) (fun k _ q => by
    have := st k (by omega) (by omega) (by rw [nx_i (by omega)]; omega)
    rw [nx_i (by omega)] at this
    exact this) i j (by omega) h3 h4
  have hi : ∀ i j, o < i → i ≤ j → j < n → pS (mk c o) G n (G c) (G o) (G i) = pS (mk c o) G n (G c) (G o) (G j) := fun i j h3 h4 h5 => con_iv (f := fun k => pS (mk c o) G n (G c) (G o) (G k)) (lo := o + 1) (hi := n) (fun k _ q => by
    have := st k (by omega) (by omega) (by rw [nx_i (by omega)]; omega)
    rw [nx_i (by omega)] at this
    exact this) i j (by omega) h4 h5
  have lk : 0 < c → o < n - 1 → pS (mk c o) G n (G c) (G o) (G (n - 1)) = pS (mk c o) G n (G c) (G o) (G 0) := fun c0 c1 => by
    have := st (n - 1) (by omega) (by omega) (by rw [nx_e (by omega)]; omega)
    rw [nx_e (by omega)] at this
    exact this
  rcases k1 with k1 | k1 <;> rcases r2 with r2 | r2
  · rcases Nat.le_total k r with q | q
    · rw [lo k r q r2, r3]
    · rw [← lo r k q k1, r3]
  · rw [← lo 0 k (by omega) k1, ← lk (by omega) (by omega), ← hi r (n - 1) r2 (by omega) (by omega), r3]
  · rw [hi k (n - 1) k1 (by omega) (by omega), lk (by omega) (by omega), lo 0 r (by omega) r2, r3]
  · rcases Nat.le_total k r with q | q
    · rw [hi k r k1 q r1, r3]
    · rw [← hi r k r2 q hk, r3]
end
