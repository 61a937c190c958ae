/-! Cuts of a field: ways and least sums. -/
theorem pt_c {st st' : Nat → Nat → Bool} {lg lg' : Nat → Nat → Nat} {n : Nat} (hn : n ≤ 10) (hs : ∀ a b, a < b → b < n → st a b = st' a b) (hl : ∀ a b, a < b → b < n → lg a b = lg' a b) : ∀ (w a b : Nat), b - a ≤ w → a < b → b < n → pt st lg n a b = pt st' lg' n a b
  | 0, a, b, h, h1, h2 => by omega
  | w + 1, a, b, h, h1, h2 => by
    rw [pt_eq h1 (by omega), pt_eq h1 (by omega)]
    have e : ptI st lg n a b = ptI st' lg' n a b := by
      unfold ptI
      rw [hs a b h1 h2, itF_congr (b - a - 1) (a + 1) (0, 0, 0) (fun k k1 k2 s => by
        show tipS (pt st lg n a k) (pt st lg n k b) s = tipS (pt st' lg' n a k) (pt st' lg' n k b) s
        rw [pt_c hn hs hl w a k (by omega) (by omega) (by omega), pt_c hn hs hl w k b (by omega) (by omega) (by omega)])]
    rw [e]
    unfold ptO
    rw [hs a b h1 h2, hl a b h1 h2]
theorem adjM_f {X Y : Nat → Int} {n a b : Nat} (hab : a < b) (hb : b < n) (h : spM X Y n a b = true) : b ≠ a + 1 ∧ b - a ≠ n - 1 := by
  unfold spM adjM at h
  rw [Bool.and_eq_true] at h
  have h1 := h.1
  rw [Bool.not_eq_true', decide_eq_false_iff_not] at h1
  refine ⟨fun z => h1 (Or.inr (Or.inl ?_)), fun z => h1 (Or.inr (Or.inr ?_))⟩
  · unfold nx; rw [if_pos (by omega)]; omega
  · unfold nx; rw [if_neg (by omega)]; omega
theorem stB_at {X Y : Nat → Int} {n a b : Nat} (hn : n ≤ 10) (hab : a < b) (hb : b < n) : stB X Y n (10 * a + b) = spM X Y n a b := by
  unfold stB
  rw [show (10 * a + b) / 10 = a by omega, show (10 * a + b) % 10 = b by omega, decide_eq_true ⟨hab, hb⟩, Bool.true_and]
/-- the class's whole cutting, over the reference's strips and lengths -/
theorem ptZ_eq {Z : CZ} {M : MZ} (hI : Inv Z M) {p : Nat} (hp : p < 4) (s : sM M p = true) : ptZ Z p = pt (spM (fw (mX M) p) (fw (mY M) p) (mM M p)) (lgC (fw (mX M) p) (fw (mY M) p)) (mM M p) 0 (mM M p - 1) := by
  have h3 := sM_3 s
  unfold ptZ
  rw [hI.N hp]
  refine pt_c (hI.n10 hp) (fun a b q1 q2 => sp_eq hI hp s (by omega) q2) (fun a b q1 q2 => ?_) (mM M p) 0 _ (by omega) (by omega) (by omega)
  unfold lgC
  rw [hI.X hp a (by omega), hI.X hp b q2, hI.Y hp a (by omega), hI.Y hp b q2]
theorem cuts_of {Z : CZ} {M : MZ} (hI : Inv Z M) {p : Nat} (hp : p < 4) (s : sM M p = true) : Cq (ptZ Z p) (cuW (fw (mX M) p) (fw (mY M) p) (mM M p)) := by
  have h3 := sM_3 s
  have n10 := hI.n10 hp
  rw [ptZ_eq hI hp s]
  unfold cuW
  exact cut_eq n10 (fun a b q1 q2 => (lgC_bd (hI.R hp) (by omega) q2).1) (fun a b q1 q2 => stB_at n10 q1 q2) (fun a b q1 q2 q3 => adjM_f q1 q2 q3) (mM M p) 0 _ (by omega) (by omega) (by omega)
/-- about, once every sound field has an area and a cut -/
theorem about_of2 {Z : CZ} {M : MZ} (hI : Inv Z M) (hW : ∀ p, p < 4 → sM M p = true → arM (fw (mX M) p) (fw (mY M) p) (mM M p) ≠ 0) (hC : ∀ p, p < 4 → sM M p = true → (cuW (fw (mX M) p) (fw (mY M) p) (mM M p)).1 ≠ 0) (f k : Int) : aAbout Z f k = bAbout M f k := by
  refine about_of hI hW (fun p hp s => ?_) f k
  obtain ⟨c1, c2, _⟩ := cuts_of hI hp s
  exact ⟨c1, (c2 (by rw [c1]; exact hC p hp s)).symm⟩
