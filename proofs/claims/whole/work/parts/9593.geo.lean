/-! A strip of a part is a strip of the whole field; so every sound field is cut. -/
section
variable {n c o : Nat} {G : Nat → V3}
/-- a strip of a ring, seen in the whole field; x is no corner of the other part -/
theorem Gd.lift1 (h : SnG n G) (hg : Gd n G c o) {S : Nat → Bool} (hS : clo S G n (G c) (G o)) {x y : Nat} (hx : x < n) (hy : y < n) (q1 : ∀ e, e < n → S e = true → Cl (G x) (G y) (G e) (G (nx n e))) (q2 : Cl (G x) (G y) (G c) (G o)) (q3 : pS S G n (G c) (G o) (cb 1 (G x) 1 (G y)) = true) (q4 : ∀ e, e < n → S e = false → ∃ r s, ((r = e ∧ s = nx n e) ∨ (r = nx n e ∧ s = e)) ∧ r ≠ c ∧ r ≠ o ∧ (∀ f, f < n → S f = true → r ≠ f ∧ r ≠ nx n f) ∧ pS S G n (G c) (G o) (G r) = false) : ∀ e, e < n → Cl (G x) (G y) (G e) (G (nx n e)) := by
  intro e he
  cases se : S e with
  | true => exact q1 e he se
  | false =>
    intro i j k l hi hj hk hl q
    obtain ⟨h1, h2, h3, cl, _⟩ := id hg
    have ox := h.f3 hx
    have oy := h.f3 hy
    have first : i = 0 ∨ j = 0 := by
      refine Classical.byContradiction fun w => ?_
      have hi0 : 0 < i := by omega
      have hj0 : 0 < j := by omega
      obtain ⟨r, s, rs, r1, r2, r3, r4⟩ := q4 e he se
      have hr : r < n := by rcases rs with ⟨rfl, _⟩ | ⟨rfl, _⟩; exact he; exact nx_lt he
      have hs : s < n := by rcases rs with ⟨_, rfl⟩ | ⟨_, rfl⟩; exact nx_lt he; exact he
      obtain ⟨k', l', hk', hl', q'⟩ : ∃ k' l' : Int, 0 ≤ k' ∧ 0 ≤ l' ∧ cb i (G x) j (G y) = cb k' (G r) l' (G s) := by
        rcases rs with ⟨rfl, rfl⟩ | ⟨rfl, rfl⟩
        · exact ⟨k, l, hk, hl, q⟩
        · exact ⟨l, k, hl, hk, by rw [q, cb_sw]⟩
      have crs : ∀ f, f < n → f ≠ e → Cl (G r) (G s) (G f) (G (nx n f)) := fun f hf fe => by
        have := h.2.2.2.2 e f he hf (Ne.symm fe)
        rcases rs with ⟨rfl, rfl⟩ | ⟨rfl, rfl⟩
        · exact this
        · exact this.s1
      have cch : Cl (G r) (G s) (G c) (G o) := by
        have := (cl e he).sw
        rcases rs with ⟨rfl, rfl⟩ | ⟨rfl, rfl⟩
        · exact this
        · exact this.s1
      have hT : (cb i (G x) j (G y)).2.2 = i + j := by simp only [cb, ox, oy]; omega
      have kl : i + j = k' + l' := by
        have := cb_3 (h.f3 hr) (h.f3 hs) q'
        rw [ox, oy] at this; omega
      -- from T to the strip's middle
      have m1 : ∀ p s : V3, Cl (G x) (G y) p s → Ft (cb i (G x) j (G y)) (cb 1 (G x) 1 (G y)) p s := fun p s cps i' j' k2 l2 hi' hj' hk2 hl2 z => by
        have z2 : cb (i' * i + j') (G x) (i' * j + j') (G y) = cb k2 p l2 s := by
          rw [← z]; unfold cb; refine v3_ext ?_ ?_ ?_ <;> simp only <;> grind
        have a1 := Int.mul_nonneg hi' hi
        have a2 := Int.mul_nonneg hi' hj
        rcases (cps _ _ _ _ (by omega) (by omega) hk2 hl2 z2).1 with w | w
        · have : i' * i = 0 := by omega
          rcases Int.mul_eq_zero.mp this with t | t <;> omega
        · have : i' * j = 0 := by omega
          rcases Int.mul_eq_zero.mp this with t | t <;> omega
      -- from T to r along the fence
      have m2 : ∀ p s' : V3, Cl (G x) (G y) p s' → Cl (G r) (G s) p s' → Nn (G r) p s' → Ft (cb i (G x) j (G y)) (G r) p s' := fun p s' cps crs' nr i' j' k2 l2 hi' hj' hk2 hl2 z => by
        have z2 : cb (i' * k' + j') (G r) (i' * l') (G s) = cb k2 p l2 s' := by
          rw [← z, q']; unfold cb; refine v3_ext ?_ ?_ ?_ <;> simp only <;> grind
        have a1 := Int.mul_nonneg hi' hk'
        have a2 := Int.mul_nonneg hi' hl'
        have a3 : i' * (k' + l') = i' * k' + i' * l' := Int.mul_add ..
        rcases (crs' _ _ _ _ (by omega) a2 hk2 hl2 z2).1 with w | w
        · have j0 : j' = 0 := by omega
          subst j0
          have z3 : cb (i' * i) (G x) (i' * j) (G y) = cb k2 p l2 s' := by
            rw [← z]; unfold cb; refine v3_ext ?_ ?_ ?_ <;> simp only <;> grind
          refine ⟨?_, rfl⟩
          rcases (cps _ _ _ _ (Int.mul_nonneg hi' hi) (Int.mul_nonneg hi' hj) hk2 hl2 z3).1 with t | t <;> rcases Int.mul_eq_zero.mp t with u | u <;> omega
        · have b0 : i' * k' + j' = 0 := by
            refine Classical.byContradiction fun b => nr (i' * k' + j') k2 l2 (by omega) hk2 hl2 ?_
            rw [← z2, w]; exact cb_0 ..
          have : i' * (k' + l') = 0 := by omega
          rcases Int.mul_eq_zero.mp this with t | t <;> omega
      have w1 : pS S G n (G c) (G o) (cb i (G x) j (G y)) = pS S G n (G c) (G o) (cb 1 (G x) 1 (G y)) := by
        refine pS_free h.2.1 (h.f3 (by omega)) (h.f3 h2) hS (by omega) ?_ (fun f hf sf => m1 _ _ (q1 f hf sf)) (m1 _ _ q2)
        have : (cb 1 (G x) 1 (G y)).2.2 = 2 := by simp only [cb, ox, oy]; rfl
        omega
      have w2 : pS S G n (G c) (G o) (cb i (G x) j (G y)) = pS S G n (G c) (G o) (G r) := by
        refine pS_free h.2.1 (h.f3 (by omega)) (h.f3 h2) hS (by omega) (by rw [h.f3 hr]; omega) (fun f hf sf => m2 _ _ (q1 f hf sf) (crs f hf (fun z => by rw [z, se] at sf; cases sf)) (h.cor hr hf (r3 f hf sf).1 (r3 f hf sf).2)) (m2 _ _ q2 cch ?_)
        intro i' k2 l2 hi' hk2 hl2 z
        rcases (cch i' 0 k2 l2 (by omega) (by omega) hk2 hl2 (by rw [cb_0 i' _ _ (G r)]; exact z)).2 with t | t
        · subst t
          have z2 : cb i' (G r) 0 (G r) = cb l2 (G o) 0 (G c) := by rw [z, cb_sw]
          exact h.2.2.2.1 r o hr h2 r2 (pv_eq (h.f3 hr) (h.f3 h2) (by omega) z2).1
        · subst t
          exact h.2.2.2.1 r c hr (by omega) r1 (pv_eq (h.f3 hr) (h.f3 (show c < n by omega)) (by omega) z).1
      rw [w1, q3, r4] at w2
      cases w2
    refine ⟨first, ?_⟩
    rcases first with rfl | rfl
    · exact h.pt hy he hj hk hl (X := G x) (by rw [← q, cb_sw])
    · exact h.pt hx he hi hk hl (X := G y) q
theorem Gd.lift2 (h : SnG n G) (hg : Gd n G c o) {S : Nat → Bool} (hS : clo S G n (G c) (G o)) {x y : Nat} (hx : x < n) (hy : y < n) (q2 : Cl (G x) (G y) (G c) (G o)) (q3 : pS S G n (G c) (G o) (cb 1 (G x) 1 (G y)) = true) (q5 : x ≠ c ∧ x ≠ o) (q6 : ∀ e, e < n → S e = false → x ≠ e ∧ x ≠ nx n e) (q7 : pS (fun k => !S k) G n (G c) (G o) (G x) = false) (q8 : ∀ e, e < n → Cl (G x) (G y) (G e) (G (nx n e))) : pr G n (cb 1 (G x) 1 (G y)) = true := by
  obtain ⟨h1, h2, h3, cl, _⟩ := id hg
  have ox := h.f3 hx
  have oy := h.f3 hy
  have m : ∀ p s : V3, Cl (G x) (G y) p s → Nn (G x) p s → Ft (G x) (cb 1 (G x) 1 (G y)) p s := fun p s cps nn i' j' k2 l2 hi' hj' hk2 hl2 z => by
    have z2 : cb (i' + j') (G x) j' (G y) = cb k2 p l2 s := by
      rw [← z]; unfold cb; refine v3_ext ?_ ?_ ?_ <;> simp only <;> grind
    rcases (cps _ _ _ _ (by omega) hj' hk2 hl2 z2).1 with w | w
    · omega
    · subst w
      refine ⟨Classical.byContradiction fun b => nn i' k2 l2 (by omega) hk2 hl2 ?_, rfl⟩
      rw [← z]; exact cb_0 ..
  have w : pS (fun k => !S k) G n (G c) (G o) (G x) = pS (fun k => !S k) G n (G c) (G o) (cb 1 (G x) 1 (G y)) := by
    refine pS_free h.2.1 (h.f3 (by omega)) (h.f3 h2) (clo_nt hS) (by rw [ox]; omega) ?_ (fun f hf sf => ?_) (m _ _ q2 ?_)
    · have : (cb 1 (G x) 1 (G y)).2.2 = 2 := by simp only [cb, ox, oy]; rfl
      omega
    · have sf2 : S f = false := by rwa [Bool.not_eq_true'] at sf
      exact m _ _ (q8 f hf) (h.cor hx hf (q6 f hf sf2).1 (q6 f hf sf2).2)
    · intro i' k2 l2 hi' hk2 hl2 z
      have c2 := (q2 i' 0 k2 l2 (by omega) (by omega) hk2 hl2 (by rw [cb_0 i' _ _ (G x)]; exact z)).2
      rcases c2 with t | t
      · subst t
        have z2 : cb i' (G x) 0 (G x) = cb l2 (G o) 0 (G c) := by rw [z, cb_sw]
        exact h.2.2.2.1 x o hx h2 q5.2 (pv_eq ox (h.f3 h2) (by omega) z2).1
      · subst t
        exact h.2.2.2.1 x c hx (by omega) q5.1 (pv_eq ox (h.f3 (show c < n by omega)) (by omega) z).1
  rw [pr_both (n := n) (G := G) S (G c) (G o), q3, ← w, q7]; rfl
/-- a strip, told by points -/
def StG (n : Nat) (G : Nat → V3) (a b : Nat) : Prop := a + 1 < b ∧ b < n ∧ ¬ (a = 0 ∧ b = n - 1) ∧ (∀ e, e < n → Cl (G a) (G b) (G e) (G (nx n e))) ∧ pr G n (cb 1 (G a) 1 (G b)) = true
theorem Gd.st (hg : Gd n G c o) : StG n G c o := ⟨by have := hg.1; omega, hg.2.1, hg.2.2.1, hg.2.2.2.1, hg.2.2.2.2.1⟩
theorem Gd.in4 (h : SnG n G) (hg : Gd n G c o) {e : Nat} (he : e < n) (se : mk c o e = false) : ∃ r s, ((r = e ∧ s = nx n e) ∨ (r = nx n e ∧ s = e)) ∧ r ≠ c ∧ r ≠ o ∧ (∀ f, f < n → mk c o f = true → r ≠ f ∧ r ≠ nx n f) ∧ pS (mk c o) G n (G c) (G o) (G r) = false := by
  obtain ⟨h1, h2, h3, _⟩ := id hg
  rw [mk_f] at se
  have fr : ∀ r, (r < c ∨ o < r) → ∀ f, f < n → mk c o f = true → r ≠ f ∧ r ≠ nx n f := fun r hr f hf sf => by
    rw [mk_t] at sf
    rw [nx_i (show f + 1 < n by omega)]
    omega
  by_cases q : e = o
  · have r1 : nx n e < c ∨ o < nx n e := by rcases nx_c he with ⟨w1, w2⟩ | ⟨w1, w2⟩ <;> omega
    exact ⟨nx n e, e, Or.inr ⟨rfl, rfl⟩, by omega, by omega, fr _ r1, hg.fou h (nx_lt he) r1⟩
  · have r1 : e < c ∨ o < e := by omega
    exact ⟨e, nx n e, Or.inl ⟨rfl, rfl⟩, by omega, by omega, fr _ r1, hg.fou h he r1⟩
theorem Gd.ou4 (h : SnG n G) (hg : Gd n G c o) {e : Nat} (he : e < n) (se : (!mk c o e) = false) : ∃ r s, ((r = e ∧ s = nx n e) ∨ (r = nx n e ∧ s = e)) ∧ r ≠ c ∧ r ≠ o ∧ (∀ f, f < n → (!mk c o f) = true → r ≠ f ∧ r ≠ nx n f) ∧ pS (fun k => !mk c o k) G n (G c) (G o) (G r) = false := by
  obtain ⟨h1, h2, h3, _⟩ := id hg
  rw [Bool.not_eq_false', mk_t] at se
  have fr : ∀ r, c < r → r < o → ∀ f, f < n → (!mk c o f) = true → r ≠ f ∧ r ≠ nx n f := fun r hr hr2 f hf sf => by
    rw [Bool.not_eq_true', mk_f] at sf
    rcases nx_c hf with ⟨w1, w2⟩ | ⟨w1, w2⟩ <;> omega
  by_cases q : e = c
  · have r1 : nx n e = c + 1 := by rw [nx_i (by omega), q]
    exact ⟨nx n e, e, Or.inr ⟨rfl, rfl⟩, by omega, by omega, fr _ (by omega) (by omega), hg.fin h (by omega) (by omega)⟩
  · exact ⟨e, nx n e, Or.inl ⟨rfl, rfl⟩, by omega, by omega, fr _ (by omega) (by omega), hg.fin h (by omega) (by omega)⟩
theorem Gd.liftI (h : SnG n G) (hg : Gd n G c o) {x y : Nat} (hs : StG (o - c + 1) (gI G c) x y) : StG n G (c + x) (c + y) := by
  obtain ⟨h1, h2, h3, cl, _⟩ := id hg
  obtain ⟨s1, s2, s3, s4, s5⟩ := hs
  rw [pr_in h1 h2] at s5
  have q1 : ∀ e, e < n → mk c o e = true → Cl (G (c + x)) (G (c + y)) (G e) (G (nx n e)) := fun e he se => by
    rw [mk_t] at se
    have w := s4 (e - c) (by omega)
    rcases fI (G := G) h1 h2 (show e - c < o - c + 1 by omega) with ⟨a1, a2, a3⟩ | ⟨a1, a2, a3⟩
    · rw [a2, a3, show c + (e - c) = e by omega] at w; exact w
    · omega
  have q2 : Cl (G (c + x)) (G (c + y)) (G c) (G o) := by
    have w := s4 (o - c) (by omega)
    rcases fI (G := G) h1 h2 (show o - c < o - c + 1 by omega) with ⟨a1, a2, a3⟩ | ⟨a1, a2, a3⟩
    · omega
    · rw [a2, a3] at w; exact w.s2
  have q8 := hg.lift1 h hg.clm (x := c + x) (y := c + y) (by omega) (by omega) q1 q2 s5 (fun e he se => hg.in4 h he se)
  refine ⟨by omega, by omega, by omega, q8, ?_⟩
  have nin : ∀ r, c < r → r < o → ∀ e, e < n → mk c o e = false → r ≠ e ∧ r ≠ nx n e := fun r r1 r2 e he se => by
    rw [mk_f] at se
    rcases nx_c he with ⟨w1, w2⟩ | ⟨w1, w2⟩ <;> omega
  by_cases x0 : x = 0
  · have w : pr G n (cb 1 (G (c + y)) 1 (G (c + x))) = true := hg.lift2 h hg.clm (x := c + y) (y := c + x) (by omega) (by omega) q2.s1 (by rw [cb_sw]; exact s5) (by omega) (nin _ (by omega) (by omega)) (hg.fin h (by omega) (by omega)) (fun e he => (q8 e he).s1)
    rw [cb_sw]; exact w
  · exact hg.lift2 h hg.clm (x := c + x) (y := c + y) (by omega) (by omega) q2 s5 (by omega) (nin _ (by omega) (by omega)) (hg.fin h (by omega) (by omega)) q8
def oI (c d k : Nat) : Nat := if k ≤ c then k else k + d
theorem Gd.liftO (h : SnG n G) (hg : Gd n G c o) {x y : Nat} (hs : StG (n - (o - c - 1)) (gO G c (o - c - 1)) x y) : StG n G (oI c (o - c - 1) x) (oI c (o - c - 1) y) := by
  obtain ⟨h1, h2, h3, cl, _⟩ := id hg
  obtain ⟨s1, s2, s3, s4, s5⟩ := hs
  rw [pr_ou h1 h2] at s5
  have gx : ∀ k, gO G c (o - c - 1) k = G (oI c (o - c - 1) k) := fun k => rfl
  rw [gx, gx] at s5
  have bx : oI c (o - c - 1) x < n ∧ (oI c (o - c - 1) x ≤ c ∨ o ≤ oI c (o - c - 1) x) := by unfold oI; split <;> omega
  have bY : oI c (o - c - 1) y < n ∧ (oI c (o - c - 1) y ≤ c ∨ o ≤ oI c (o - c - 1) y) := by unfold oI; split <;> omega
  have bxy : oI c (o - c - 1) x + 1 < oI c (o - c - 1) y ∧ ¬ (oI c (o - c - 1) x = 0 ∧ oI c (o - c - 1) y = n - 1) ∧ ¬ (oI c (o - c - 1) x = c ∧ oI c (o - c - 1) y = o) := by unfold oI; (repeat' split) <;> omega
  have q1 : ∀ e, e < n → (!mk c o e) = true → Cl (G (oI c (o - c - 1) x)) (G (oI c (o - c - 1) y)) (G e) (G (nx n e)) := fun e he se => by
    rw [Bool.not_eq_true', mk_f] at se
    by_cases ec : e < c
    · have w := s4 e (by omega)
      rcases fO (G := G) h1 h2 (show e < n - (o - c - 1) by omega) with ⟨a1, a2, a3⟩ | ⟨a1, a2, a3⟩ | ⟨a1, a2, a3⟩
      · rw [a2, a3] at w; exact w
      · omega
      · omega
    · have w := s4 (e - (o - c - 1)) (by omega)
      rcases fO (G := G) h1 h2 (show e - (o - c - 1) < n - (o - c - 1) by omega) with ⟨a1, a2, a3⟩ | ⟨a1, a2, a3⟩ | ⟨a1, a2, a3⟩
      · omega
      · omega
      · rw [a2, a3, show e - (o - c - 1) + (o - c - 1) = e by omega] at w; exact w
  have q2 : Cl (G (oI c (o - c - 1) x)) (G (oI c (o - c - 1) y)) (G c) (G o) := by
    have w := s4 c (by omega)
    rcases fO (G := G) h1 h2 (show c < n - (o - c - 1) by omega) with ⟨a1, a2, a3⟩ | ⟨a1, a2, a3⟩ | ⟨a1, a2, a3⟩
    · omega
    · rw [a2, a3] at w; exact w
    · omega
  generalize oI c (o - c - 1) x = x' at *
  generalize oI c (o - c - 1) y = y' at *
  have q8 := hg.lift1 h (clo_nt hg.clm) (x := x') (y := y') bx.1 bY.1 q1 q2 s5 (fun e he se => hg.ou4 h he se)
  refine ⟨bxy.1, bY.1, bxy.2.1, q8, ?_⟩
  have nin : ∀ r, (r < c ∨ o < r) → ∀ e, e < n → (!mk c o e) = false → r ≠ e ∧ r ≠ nx n e := fun r r1 e he se => by
    rw [Bool.not_eq_false', mk_t] at se
    rw [nx_i (show e + 1 < n by omega)]
    omega
  have dd : (fun k => !(!mk c o k)) = mk c o := funext fun k => Bool.not_not _
  have fin : ∀ r, r < n → (r < c ∨ o < r) → pS (fun k => !(!mk c o k)) G n (G c) (G o) (G r) = false := fun r hr r1 => by
    rw [dd]; exact hg.fou h hr r1
  by_cases x0 : x' = c ∨ x' = o
  · have w : pr G n (cb 1 (G y') 1 (G x')) = true := hg.lift2 h (clo_nt hg.clm) (x := y') (y := x') bY.1 bx.1 q2.s1 (by rw [cb_sw]; exact s5) (by omega) (nin _ (by omega)) (fin _ bY.1 (by omega)) (fun e he => (q8 e he).s1)
    rw [cb_sw]; exact w
  · exact hg.lift2 h (clo_nt hg.clm) (x := x') (y := y') bx.1 bY.1 q2 s5 (by omega) (nin _ (by omega)) (fin _ bx.1 (by omega)) q8
end
