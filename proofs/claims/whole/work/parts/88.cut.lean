/-! Cuts: the class's sums and the reference's are alike. -/
def Cq (u : Nat × Nat × Nat) (U : Nat × Nat) : Prop := u.1 = U.1 ∧ (u.1 ≠ 0 → U.2 = u.2.1) ∧ (u.1 = 0 → U.2 = 1000000) ∧ u.2.1 ≤ 100000
theorem cut_loop {p q : Nat → Nat × Nat × Nat} {P Q : Nat → Nat × Nat} {own : Nat} (ho : own ≤ 450) : ∀ (d i : Nat) (s : Nat × Nat × Nat) (t : Nat × Nat), (∀ k, i ≤ k → k < i + d → Cq (p k) (P k) ∧ Cq (q k) (Q k)) → s.1 = t.1 → (s.1 ≠ 0 → t.2 = s.2.1 + own) → (s.1 = 0 → t.2 = 1000000) → t.2 ≤ 1000000 →
    (itF (fun k s => tipS (p k) (q k) s) i d s).1 = (itF (cuS P Q own) i d t).1 ∧ ((itF (fun k s => tipS (p k) (q k) s) i d s).1 ≠ 0 → (itF (cuS P Q own) i d t).2 = (itF (fun k s => tipS (p k) (q k) s) i d s).2.1 + own) ∧ ((itF (fun k s => tipS (p k) (q k) s) i d s).1 = 0 → (itF (cuS P Q own) i d t).2 = 1000000)
  | 0, i, s, t, _, h1, h2, h3, _ => ⟨h1, h2, h3⟩
  | d + 1, i, s, t, hk, h1, h2, h3, h4 => by
    rw [itF, itF]
    obtain ⟨⟨a1, a2, a3, a4⟩, ⟨b1, b2, b3, b4⟩⟩ := hk i (by omega) (by omega)
    have hk' : ∀ k, i + 1 ≤ k → k < i + 1 + d → Cq (p k) (P k) ∧ Cq (q k) (Q k) := fun k k1 k2 => hk k (by omega) (by omega)
    by_cases c : (p i).1 * (q i).1 = 0
    · have e1 : tipS (p i) (q i) s = s := by unfold tipS; rw [if_pos c]
      have g : 1000000 ≤ (P i).2 + (Q i).2 := by
        rcases Nat.mul_eq_zero.mp c with w | w
        · have := a3 w; omega
        · have := b3 w; omega
      have e2 : cuS P Q own i t = t := by
        unfold cuS
        rw [← a1, ← b1, c, if_neg (by omega)]
        rfl
      rw [e1, e2]
      exact cut_loop ho d (i + 1) s t hk' h1 h2 h3 h4
    · have n1 : (p i).1 ≠ 0 := fun z => c (by rw [z, Nat.zero_mul])
      have n2 : (q i).1 ≠ 0 := fun z => c (by rw [z, Nat.mul_zero])
      have m1 := a2 n1
      have m2 := b2 n2
      have sm : s.1 + (p i).1 * (q i).1 ≠ 0 := by omega
      have e1 : tipS (p i) (q i) s = (s.1 + (p i).1 * (q i).1, if s.1 = 0 ∨ (p i).2.1 + (q i).2.1 < s.2.1 ∨ ((p i).2.1 + (q i).2.1 = s.2.1 ∧ s.2.2 < (p i).2.2 ||| (q i).2.2) then ((p i).2.1 + (q i).2.1, (p i).2.2 ||| (q i).2.2) else s.2) := by unfold tipS; rw [if_neg c]
      have e2 : cuS P Q own i t = (t.1 + (P i).1 * (Q i).1, if (P i).2 + (Q i).2 + own < t.2 then (P i).2 + (Q i).2 + own else t.2) := rfl
      have ev : (if (P i).2 + (Q i).2 + own < t.2 then (P i).2 + (Q i).2 + own else t.2) = (if s.1 = 0 ∨ (p i).2.1 + (q i).2.1 < s.2.1 ∨ ((p i).2.1 + (q i).2.1 = s.2.1 ∧ s.2.2 < (p i).2.2 ||| (q i).2.2) then ((p i).2.1 + (q i).2.1, (p i).2.2 ||| (q i).2.2) else s.2).1 + own := by
        by_cases z : s.1 = 0
        · have := h3 z
          rw [if_pos (by omega), if_pos (Or.inl z)]
          omega
        · have := h2 z
          by_cases y : (p i).2.1 + (q i).2.1 < s.2.1
          · rw [if_pos (by omega), if_pos (Or.inr (Or.inl y))]
            omega
          · rw [if_neg (by omega)]
            split
            · rename_i w
              show t.2 = (p i).2.1 + (q i).2.1 + own
              omega
            · omega
      rw [e1, e2, ev]
      refine cut_loop ho d (i + 1) _ _ hk' ?_ (fun _ => rfl) (fun z => absurd z sm) ?_
      · show s.1 + (p i).1 * (q i).1 = t.1 + (P i).1 * (Q i).1
        rw [h1, a1, b1]
      · show _ + own ≤ 1000000
        rw [← ev]
        split <;> omega
theorem cut_eq {st : Nat → Nat → Bool} {op : Nat → Bool} {lg : Nat → Nat → Nat} {n : Nat} (hn : n ≤ 10) (hlg : ∀ a b, a < b → b < n → lg a b ≤ 450) (hop : ∀ a b, a < b → b < n → op (10 * a + b) = st a b) (hst : ∀ a b, a < b → b < n → st a b = true → b ≠ a + 1 ∧ b - a ≠ n - 1) : ∀ (w a b : Nat), b - a ≤ w → a < b → b < n → Cq (pt st lg n a b) (cu op lg n a b)
  | 0, a, b, h, h1, h2 => by omega
  | w + 1, a, b, h, h1, h2 => by
    have bd := (pt_bd (st := st) hlg (b - a) a b rfl h1 h2 hn).1
    have bd2 : (pt st lg n a b).2.1 ≤ 100000 := by
      unfold pB at bd
      omega
    have ih : ∀ k, a + 1 ≤ k → k < a + 1 + (b - a - 1) → Cq (pt st lg n a k) (cu op lg n a k) ∧ Cq (pt st lg n k b) (cu op lg n k b) := fun k k1 k2 => ⟨cut_eq hn hlg hop hst w a k (by omega) (by omega) (by omega), cut_eq hn hlg hop hst w k b (by omega) (by omega) (by omega)⟩
    have lb := hlg a b h1 h2
    have ep := pt_eq (st := st) (lg := lg) (n := n) h1 (by omega)
    have ec := cu_eq (op := op) (lg := lg) (n := n) h1 (by omega)
    rw [hop a b h1 h2] at ec
    refine ⟨?_, ?_, ?_, bd2⟩ <;> clear bd2 bd <;> rw [ep, ec] <;> clear ep ec
    all_goals
      by_cases c1 : b = a + 1
      · have s0 : st a b = false := by
          rw [← Bool.not_eq_true]
          intro z
          exact (hst a b h1 h2 z).1 c1
        have f1 : fnB n (b - a) = true := decide_eq_true (Or.inl (by omega))
        unfold ptI ptO cuI cuE cu0
        rw [if_pos c1, s0, f1, show b - a - 1 = 0 by omega, itF, if_pos (show b - a = 1 by omega)]
        simp
      · by_cases c2 : st a b = true ∨ b - a = n - 1
        · have own : (if fnB n (b - a) = true then 0 else lg a b) = (if st a b = true then lg a b else 0) := by
            by_cases s : st a b = true
            · have := hst a b h1 h2 s
              have f0 : ¬ fnB n (b - a) = true := by unfold fnB; rw [decide_eq_true_eq]; omega
              rw [if_neg f0, if_pos s]
            · have f1 : fnB n (b - a) = true := decide_eq_true (Or.inr (by rcases c2 with z | z; exact absurd z s; exact z))
              rw [if_pos f1, if_neg s]
          have go : (fnB n (b - a) || st a b) = true := by
            rcases c2 with z | z
            · rw [z, Bool.or_true]
            · rw [show fnB n (b - a) = true from decide_eq_true (Or.inr z), Bool.true_or]
          have L := cut_loop (own := if st a b = true then lg a b else 0) (by split <;> omega) (b - a - 1) (a + 1) (0, 0, 0) (0, 1000000) ih rfl (fun z => absurd rfl z) (fun _ => rfl) (Nat.le_refl _)
          have z0 : cu0 (b - a) = (0, 1000000) := by unfold cu0; rw [if_neg (by omega)]
          unfold ptI ptO cuI cuE
          rw [if_neg c1, if_pos c2, go, z0, own, if_pos rfl]
          generalize itF (fun k s => tipS (pt st lg n a k) (pt st lg n k b) s) (a + 1) (b - a - 1) (0, 0, 0) = S at L ⊢
          generalize itF (cuS (fun k => cu op lg n a k) (fun k => cu op lg n k b) (if st a b = true then lg a b else 0)) (a + 1) (b - a - 1) (0, 1000000) = U at L ⊢
          obtain ⟨l1, l2, l3⟩ := L
          by_cases s : st a b = true
          · rw [if_pos s] at l2 ⊢
            dsimp only
            first
              | exact l1
              | exact fun z => by rw [if_pos (by omega)]; exact l2 z
              | exact fun z => by rw [if_neg (by omega)]
          · rw [if_neg s] at l2 ⊢
            dsimp only
            first
              | exact l1
              | exact fun z => by rw [if_pos (by omega)]; exact l2 z
              | exact fun z => by rw [if_neg (by omega)]
        · have s0 : st a b = false := by
            rw [← Bool.not_eq_true]
            exact fun z => c2 (Or.inl z)
          have f0 : fnB n (b - a) = false := by
            unfold fnB
            rw [decide_eq_false_iff_not]
            intro z
            rcases z with z | z
            · omega
            · exact c2 (Or.inr z)
          unfold ptI ptO cuE
          rw [if_neg c1, if_neg c2, s0, f0]
          simp
