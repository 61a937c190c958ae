/-! The calls that rest on sight, brought to facts of sound fields. -/
theorem snF_c {n : Nat} {X Y X' Y' : Nat → Int} (hx : Ag n X X') (hy : Ag n Y Y') {t : Nat} (ht : t < n) : ∀ (d a : Nat), a < n → snF X Y n t d a = snF X' Y' n t d a
  | 0, a, h => rfl
  | d + 1, a, h => by
    have e : near X Y n a t = near X' Y' n a t := (near_c hx hy h n 0 t (by omega) ht).1
    have l : near X' Y' n a t < n := near_lt ht
    rw [snF, snF, e, crsd_c hx hy h l, pmid_c hx hy h l, snF_c hx hy ht d _ l]
theorem seenC_c {n : Nat} {X Y X' Y' : Nat → Int} (hx : Ag n X X') (hy : Ag n Y Y') {a t : Nat} (ha : a < n) (ht : t < n) : seenC X Y n a t = seenC X' Y' n a t := snF_c hx hy ht n a ha
/-- sees, once the two ways to look are alike -/
theorem sees_of {Z : CZ} {M : MZ} (hI : Inv Z M) (hS : ∀ n X Y, n ≤ 10 → SndF n X Y → ∀ i j, i < n → j < n → i ≠ j → seenC X Y n i j = sgM X Y n i j) (f c d : Int) : aSees Z f c d = bSees M f c d := by
  unfold aSees bSees
  rw [cB_eq hI, cB_eq hI]
  by_cases h : cnM (mM M) f c = true ∧ cnM (mM M) f d = true ∧ c ≠ d
  · rw [if_pos h, if_pos h]
    obtain ⟨p, r, hp, hr, rfl, rfl⟩ := cnM_t h.1
    obtain ⟨p', s, hp', hs, e, rfl⟩ := cnM_t h.2.1
    obtain rfl : p = p' := by omega
    rw [i_nn, i_nn, i_nn, sn_eq hI hp, hI.N hp]
    by_cases q : sM M p = true
    · rw [if_pos q, if_pos q, seenC_c (hI.X hp) (hI.Y hp) hr hs, hS _ _ _ (hI.n10 hp) (hI.S hp q) r s hr hs (fun z => h.2.2 (by rw [z]))]
    · rw [if_neg q, if_neg q]
  · rw [if_neg h, if_neg h]
/-- what guards and hops need of sight -/
theorem sight_of {Z : CZ} {M : MZ} (hI : Inv Z M) (hS : ∀ n X Y, n ≤ 10 → SndF n X Y → ∀ i j, i < n → j < n → i ≠ j → seenC X Y n i j = sgM X Y n i j) (hT : ∀ n X Y, n ≤ 10 → SndF n X Y → ∀ i j, i < n → j < n → spM X Y n i j = true → sgM X Y n i j = true) (hY : ∀ n X Y, n ≤ 10 → SndF n X Y → ∀ i j, i < n → j < n → sgM X Y n i j = sgM X Y n j i) : ∀ p, p < 4 → sM M p = true → ∀ i j, i < mM M p → j < mM M p → i ≠ j → svC (zX Z p) (zY Z p) (mM M p) (min i j) (max i j) = sgM (fw (mX M) p) (fw (mY M) p) (mM M p) i j := by
  intro p hp q
  have key : ∀ i j, i < mM M p → j < mM M p → i ≠ j → svC (zX Z p) (zY Z p) (mM M p) i j = sgM (fw (mX M) p) (fw (mY M) p) (mM M p) i j := by
    intro i j hi hj hij
    unfold svC
    rw [sp_eq hI hp q hi hj, seenC_c (hI.X hp) (hI.Y hp) hi hj, hS _ _ _ (hI.n10 hp) (hI.S hp q) i j hi hj hij]
    by_cases s : spM (fw (mX M) p) (fw (mY M) p) (mM M p) i j = true
    · rw [s, hT _ _ _ (hI.n10 hp) (hI.S hp q) i j hi hj s]
      rfl
    · rw [Bool.not_eq_true] at s
      rw [s, Bool.false_or]
  intro i j hi hj hij
  by_cases c : i ≤ j
  · rw [Nat.min_eq_left c, Nat.max_eq_right c]
    exact key i j hi hj hij
  · rw [Nat.min_eq_right (by omega), Nat.max_eq_left (by omega), key j i hj hi (Ne.symm hij)]
    exact hY _ _ _ (hI.n10 hp) (hI.S hp q) j i hj hi
