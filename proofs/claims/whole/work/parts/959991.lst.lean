/-! The first of the least cuts: told one by one. -/
theorem and_bt {F a b : Nat} : F &&& bt a b = 0 ↔ F.testBit (62 - rank a b) = false := by
  constructor
  · intro h
    have := congrArg (fun z => Nat.testBit z (62 - rank a b)) h
    simp only [Nat.testBit_and, bt_test, decide_true, Bool.and_true, Nat.zero_testBit] at this
    exact this
  · intro h
    refine Nat.eq_of_testBit_eq fun j => ?_
    rw [Nat.testBit_and, bt_test, Nat.zero_testBit]
    by_cases e : 62 - rank a b = j
    · rw [← e, h]; rfl
    · rw [decide_eq_false e, Bool.and_false]
theorem mbS_at {F a b : Nat} (hab : a < b) (hb : b < 10) : mbS F (10 * a + b) = F.testBit (62 - rank a b) := by
  unfold mbS
  rw [show (10 * a + b) / 10 = a by omega, show (10 * a + b) % 10 = b by omega, decide_eq_true hab, Bool.true_and]
theorem sfB_sp {F : Nat} {z : Int} {a n : Nat} (hn : n ≤ 10) : ∀ (d b k : Nat), b + d = n → a < b → k = cn (mbS F) (10 * a + b) → (∃ s, 10 * a + b ≤ s ∧ s < 10 * a + n ∧ mbS F s = true ∧ (cn (mbS F) s : Int) = z ∧ (sfB F z a d b k).1 = some (s : Int)) ∨ (sfB F z a d b k = (none, cn (mbS F) (10 * a + n)) ∧ ∀ s, 10 * a + b ≤ s → s < 10 * a + n → mbS F s = true → (cn (mbS F) s : Int) ≠ z)
  | 0, b, k, h1, h2, h3 => by
    right
    rw [sfB, h3, show b = n by omega]
    exact ⟨rfl, fun s q1 q2 => by omega⟩
  | d + 1, b, k, h1, h2, h3 => by
    rw [sfB]
    have e := mbS_at (F := F) h2 (show b < 10 by omega)
    have ec : cn (mbS F) (10 * a + (b + 1)) = cn (mbS F) (10 * a + b) + (if mbS F (10 * a + b) = true then 1 else 0) := by
      rw [← Nat.add_assoc, cn]
    by_cases c : F &&& bt a b = 0
    · rw [if_pos c]
      rw [and_bt, ← e] at c
      rw [if_neg (by rw [c]; simp)] at ec
      rcases sfB_sp (F := F) (z := z) (a := a) hn d (b + 1) k (by omega) (by omega) (by omega) with ⟨s, s1, s2, s3⟩ | ⟨s1, s2⟩
      · exact Or.inl ⟨s, by omega, s2, s3⟩
      · refine Or.inr ⟨s1, fun s q1 q2 q3 => ?_⟩
        by_cases es : s = 10 * a + b
        · rw [es, c] at q3; cases q3
        · exact s2 s (by omega) q2 q3
    · rw [if_neg c]
      have c2 : mbS F (10 * a + b) = true := by
        rw [e]
        refine Classical.byContradiction fun q => c (and_bt.mpr ?_)
        simpa using q
      rw [if_pos c2] at ec
      by_cases kz : (k : Int) = z
      · rw [if_pos kz]
        left
        refine ⟨10 * a + b, by omega, by omega, c2, by rw [← h3]; exact kz, ?_⟩
        simp
      · rw [if_neg kz]
        rcases sfB_sp (F := F) (z := z) (a := a) hn d (b + 1) (k + 1) (by omega) (by omega) (by omega) with ⟨s, s1, s2, s3⟩ | ⟨s1, s2⟩
        · exact Or.inl ⟨s, by omega, s2, s3⟩
        · refine Or.inr ⟨s1, fun s q1 q2 q3 => ?_⟩
          by_cases es : s = 10 * a + b
          · rw [es, ← h3]; exact kz
          · exact s2 s (by omega) q2 q3
theorem cn_gap {p : Nat → Bool} {u : Nat} : ∀ d, (∀ s, u ≤ s → s < u + d → p s = false) → cn p (u + d) = cn p u
  | 0, _ => rfl
  | d + 1, h => by
    rw [← Nat.add_assoc, cn, cn_gap d (fun s q1 q2 => h s q1 (by omega)), h (u + d) (by omega) (by omega)]
    rfl
theorem sfA_sp {F : Nat} {z : Int} {n : Nat} (hn : n ≤ 10) (hm : ∀ k, k < 100 → mbS F k = true → k % 10 < n) : ∀ (d a k : Nat), a + d = n → k = cn (mbS F) (11 * a + 1) → (∃ s, s < 100 ∧ mbS F s = true ∧ (cn (mbS F) s : Int) = z ∧ sfA F z n d a k = (s : Int)) ∨ (sfA F z n d a k = -9 ∧ ∀ s, 11 * a + 1 ≤ s → s < 100 → mbS F s = true → (cn (mbS F) s : Int) ≠ z)
  | 0, a, k, h1, h2 => by
    right
    rw [sfA]
    refine ⟨rfl, fun s q1 q2 q3 => ?_⟩
    have w1 := hm s q2 q3
    have w2 := (mbS_t.mp q3).1
    omega
  | d + 1, a, k, h1, h2 => by
    rw [sfA]
    have sp := sfB_sp (F := F) (z := z) (a := a) hn (n - (a + 1)) (a + 1) k (by omega) (by omega) (by rw [h2]; congr 1; omega)
    rcases sp with ⟨s, s1, s2, s3, s4, s5⟩ | ⟨s1, s2⟩
    · left
      refine ⟨s, by omega, s3, s4, ?_⟩
      generalize sfB F z a (n - (a + 1)) (a + 1) k = u at s5
      obtain ⟨u1, u2⟩ := u
      simp only at s5
      subst s5
      rfl
    · rw [s1]
      have nom : ∀ s, 10 * a + n ≤ s → s < 11 * (a + 1) + 1 → mbS F s = false := fun s q1 q2 => by
        refine Bool.eq_false_iff.mpr fun q => ?_
        have w2 := (mbS_t.mp q).1
        have w1 := hm s (by omega) q
        omega
      have gp : cn (mbS F) (11 * (a + 1) + 1) = cn (mbS F) (10 * a + n) := by
        have := cn_gap (p := mbS F) (u := 10 * a + n) (11 * (a + 1) + 1 - (10 * a + n)) (fun s q1 q2 => nom s q1 (by omega))
        rw [show 10 * a + n + (11 * (a + 1) + 1 - (10 * a + n)) = 11 * (a + 1) + 1 by omega] at this
        exact this
      rcases sfA_sp (F := F) (z := z) hn hm d (a + 1) (cn (mbS F) (10 * a + n)) (by omega) gp.symm with ⟨s, q1, q2, q3, q4⟩ | ⟨q1, q2⟩
      · exact Or.inl ⟨s, q1, q2, q3, q4⟩
      · refine Or.inr ⟨q1, fun s t1 t2 t3 => ?_⟩
        by_cases c : s < 10 * a + n
        · exact s2 s (by omega) c t3
        · by_cases c2 : s < 11 * (a + 1) + 1
          · rw [nom s (by omega) c2] at t3; cases t3
          · exact q2 s (by omega) t2 t3
theorem ob_least {Z : CZ} {M : MZ} (hI : Inv Z M) (f k : Int) : aLeast Z f k = bLeast M f k := by
  unfold aLeast bLeast
  by_cases hf : fB f = true
  · rw [if_pos hf, if_pos hf]
    obtain ⟨p, hp, rfl⟩ := fB_t hf
    rw [i_nn, sn_eq hI hp, hI.N hp]
    by_cases q : sM M p = true
    · rw [if_pos q, if_pos q, ptZ_eq hI hp q]
      have n10 := hI.n10 hp
      have S := hI.S hp q
      obtain ⟨e1, e2, e3⟩ := ls_eq n10 S
      rw [e1, mll_len]
      generalize (pt (spM (fw (mX M) p) (fw (mY M) p) (mM M p)) (lgC (fw (mX M) p) (fw (mY M) p)) (mM M p) 0 (mM M p - 1)).2.2 = F at *
      have c1 : cn (mbS F) (11 * 0 + 1) = 0 := by
        rw [show 11 * 0 + 1 = 0 + 1 from rfl, cn, cn]
        have : mbS F 0 = false := by unfold mbS; rfl
        rw [this]; rfl
      rcases sfA_sp (F := F) (z := k) n10 e3 (mM M p) 0 0 (by omega) c1.symm with ⟨s, s1, s2, s3, s4⟩ | ⟨s1, s2⟩
      · rw [s4]
        have lt : cn (mbS F) s < cn (mbS F) 100 := by
          have := cn_up (mbS F) (s + 1) (99 - s)
          rw [show s + 1 + (99 - s) = 100 by omega, cn, if_pos s2] at this
          omega
        rw [if_pos (by omega), ← s3]
        have := mll_get (mbS F) s2 100 s1
        rw [show ((cn (mbS F) s : Nat) : Int).toNat = cn (mbS F) s from rfl, this]
      · rw [s1]
        by_cases c : 0 ≤ k ∧ k < (cn (mbS F) 100 : Int)
        · exfalso
          obtain ⟨s, q1, q2, q3⟩ := cn_has (mbS F) k.toNat 100 (by omega)
          refine s2 s ?_ q1 q2 (by omega)
          have := (mbS_t.mp q2).1
          omega
        · rw [if_neg c]
    · rw [if_neg q, if_neg q]
  · rw [if_neg hf, if_neg hf]
