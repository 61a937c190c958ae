/-! The first of the least cuts: all cuts of a part, told by sums and sets. -/
theorem or_add : ∀ (a b : Nat), (∀ j, ¬ (a.testBit j = true ∧ b.testBit j = true)) → a ||| b = a + b := by
  intro a
  induction a using Nat.strongRecOn with
  | _ a ih =>
    intro b h
    by_cases a0 : a = 0
    · subst a0; simp
    · have h0 := h 0
      rw [Nat.testBit_zero, Nat.testBit_zero] at h0
      have h1 := ih (a / 2) (by omega) (b / 2) (fun j => by
        have := h (j + 1)
        rw [Nat.testBit_succ, Nat.testBit_succ] at this
        exact this)
      have e1 : (a ||| b) / 2 = a / 2 ||| b / 2 := Nat.or_div_two
      have e2 : (a ||| b) % 2 = 1 ↔ a % 2 = 1 ∨ b % 2 = 1 := Nat.or_mod_two_eq_one
      simp only [decide_eq_true_eq] at h0
      omega
theorem lt_bit {x y i : Nat} (h1 : x.testBit i = false) (h2 : y.testBit i = true) (h3 : ∀ j, i < j → x.testBit j = y.testBit j) : x < y := by
  rw [Nat.testBit_eq_decide_div_mod_eq] at h1 h2
  simp only [decide_eq_true_eq, decide_eq_false_iff_not] at h1 h2
  have e : x / 2 ^ i / 2 = y / 2 ^ i / 2 := by
    rw [Nat.div_div_eq_div_mul, Nat.div_div_eq_div_mul, ← Nat.pow_succ]
    refine Nat.eq_of_testBit_eq fun j => ?_
    rw [Nat.testBit_div_two_pow, Nat.testBit_div_two_pow]
    exact h3 _ (by omega)
  have l : x / 2 ^ i < y / 2 ^ i := by omega
  refine Nat.lt_of_not_le fun z => ?_
  have := Nat.div_le_div_right (c := 2 ^ i) z
  omega
theorem rank_all : (List.range 100).all (fun s => (List.range 100).all (fun t => decide (¬ s / 10 < s % 10) || decide (¬ t / 10 < t % 10) || (decide (s < t) == decide (rank (s / 10) (s % 10) < rank (t / 10) (t % 10))))) = true := by decide +kernel
theorem rank_lt {a b c d : Nat} (hab : a < b) (hb : b < 10) (hcd : c < d) (hd : d < 10) : rank a b < rank c d ↔ 10 * a + b < 10 * c + d := by
  have h := List.all_eq_true.mp (List.all_eq_true.mp rank_all (10 * a + b) (List.mem_range.mpr (by omega))) (10 * c + d) (List.mem_range.mpr (by omega))
  rw [show (10 * a + b) / 10 = a by omega, show (10 * a + b) % 10 = b by omega, show (10 * c + d) / 10 = c by omega, show (10 * c + d) % 10 = d by omega, decide_eq_false (show ¬ ¬ a < b by omega), decide_eq_false (show ¬ ¬ c < d by omega), Bool.false_or, Bool.false_or, beq_iff_eq, decide_eq_decide] at h
  exact h.symm
theorem rank_44 {a b : Nat} (hab : a < b) (hb : b < 10) : rank a b ≤ 44 := (bitOf_ok hab hb).2.2
theorem rank_inj {a b c d : Nat} (hab : a < b) (hb : b < 10) (hcd : c < d) (hd : d < 10) (h : 62 - rank a b = 62 - rank c d) : a = c ∧ b = d := by
  have h1 := rank_44 hab hb
  have h2 := rank_44 hcd hd
  have h3 := rank_lt hab hb hcd hd
  have h4 := rank_lt hcd hd hab hb
  omega
theorem bt_test (a b j : Nat) : (bt a b).testBit j = decide (62 - rank a b = j) := by unfold bt; exact Nat.testBit_two_pow
/-- the cuts of the part from a to b: sum L, set F -/
def Tg (st : Nat → Nat → Bool) (lg : Nat → Nat → Nat) (n : Nat) : Nat → Nat → Nat → Nat → Nat → Prop
  | 0, _, _, _, _ => False
  | w + 1, a, b, L, F => (b = a + 1 ∧ L = 0 ∧ F = 0) ∨ (b ≠ a + 1 ∧ (st a b = true ∨ b - a = n - 1) ∧ ∃ k, a < k ∧ k < b ∧ ∃ L1 F1 L2 F2, Tg st lg n w a k L1 F1 ∧ Tg st lg n w k b L2 F2 ∧ L = L1 + L2 + (if st a b = true then lg a b else 0) ∧ F = (F1 ||| F2) ||| (if st a b = true then bt a b else 0))
section
variable {st : Nat → Nat → Bool} {lg : Nat → Nat → Nat} {n : Nat}
theorem own_test (a b j : Nat) : (if st a b = true then bt a b else 0).testBit j = true ↔ st a b = true ∧ 62 - rank a b = j := by
  by_cases h : st a b = true
  · rw [if_pos h, bt_test, decide_eq_true_eq]; exact ⟨fun z => ⟨h, z⟩, fun z => z.2⟩
  · rw [if_neg h]; simp [h]
theorem Tg.bit : ∀ (w a b L F : Nat), a < b → Tg st lg n w a b L F → ∀ j, F.testBit j = true → ∃ x y, a ≤ x ∧ x < y ∧ y ≤ b ∧ st x y = true ∧ j = 62 - rank x y
  | 0, a, b, L, F, _, h, j, hj => absurd h id
  | w + 1, a, b, L, F, hab, h, j, hj => by
    rcases h with ⟨_, _, rfl⟩ | ⟨_, _, k, k1, k2, L1, F1, L2, F2, t1, t2, _, rfl⟩
    · simp at hj
    · rw [Nat.testBit_or, Nat.testBit_or, Bool.or_eq_true, Bool.or_eq_true] at hj
      rcases hj with (q | q) | q
      · obtain ⟨x, y, h1, h2, h3, h4⟩ := Tg.bit w a k L1 F1 k1 t1 j q
        exact ⟨x, y, h1, h2, by omega, h4⟩
      · obtain ⟨x, y, h1, h2, h3, h4⟩ := Tg.bit w k b L2 F2 k2 t2 j q
        exact ⟨x, y, by omega, h2, h3, h4⟩
      · obtain ⟨q1, q2⟩ := (own_test a b j).mp q
        exact ⟨a, b, Nat.le_refl _, hab, Nat.le_refl _, q1, q2.symm⟩
theorem Tg.dis {w w' a k b L1 F1 L2 F2 : Nat} (hb : b < 10) (k1 : a < k) (k2 : k < b) (t1 : Tg st lg n w a k L1 F1) (t2 : Tg st lg n w' k b L2 F2) : F1 ||| F2 = F1 + F2 := or_add _ _ (fun j z => by
  obtain ⟨x, y, h1, h2, h3, _, h4⟩ := Tg.bit w a k L1 F1 k1 t1 j z.1
  obtain ⟨x', y', g1, g2, g3, _, g4⟩ := Tg.bit w' k b L2 F2 k2 t2 j z.2
  have := rank_inj h2 (by omega) g2 (by omega) (by omega)
  omega)
theorem Tg.own {w w' a k b L1 F1 L2 F2 : Nat} (hb : b < 10) (k1 : a < k) (k2 : k < b) (t1 : Tg st lg n w a k L1 F1) (t2 : Tg st lg n w' k b L2 F2) : (F1 ||| F2) ||| bt a b = F1 + F2 + bt a b := by
  rw [← Tg.dis hb k1 k2 t1 t2]
  refine or_add _ _ (fun j z => ?_)
  rw [Nat.testBit_or, Bool.or_eq_true, bt_test, decide_eq_true_eq] at z
  rcases z with ⟨q | q, z2⟩
  · obtain ⟨x, y, h1, h2, h3, _, h4⟩ := Tg.bit w a k L1 F1 k1 t1 j q
    have := rank_inj h2 (by omega) (show a < b by omega) hb (by omega)
    omega
  · obtain ⟨x, y, h1, h2, h3, _, h4⟩ := Tg.bit w' k b L2 F2 k2 t2 j q
    have := rank_inj h2 (by omega) (show a < b by omega) hb (by omega)
    omega
def Bst2 (S : Nat → Nat → Prop) (u : Nat × Nat × Nat) : Prop := (u.1 = 0 → ∀ L F, ¬ S L F) ∧ (u.1 ≠ 0 → S u.2.1 u.2.2 ∧ ∀ L F, S L F → u.2.1 < L ∨ (u.2.1 = L ∧ F ≤ u.2.2))
theorem Bst2.c {S S' : Nat → Nat → Prop} {u : Nat × Nat × Nat} (h : Bst2 S u) (e : ∀ L F, S L F ↔ S' L F) : Bst2 S' u := ⟨fun z L F s => h.1 z L F ((e L F).mpr s), fun z => ⟨(e _ _).mp (h.2 z).1, fun L F s => (h.2 z).2 L F ((e L F).mpr s)⟩⟩
def mixS (P Q : Nat → Nat → Prop) (L F : Nat) : Prop := ∃ L1 F1 L2 F2, P L1 F1 ∧ Q L2 F2 ∧ L = L1 + L2 ∧ F = F1 ||| F2
theorem tip_1 {P Q S0 : Nat → Nat → Prop} {p q s : Nat × Nat × Nat} (hp : Bst2 P p) (hq : Bst2 Q q) (hs : Bst2 S0 s) (mono : ∀ L1 F1 M1 G1 L2 F2 M2 G2, P L1 F1 → P M1 G1 → Q L2 F2 → Q M2 G2 → F1 ≤ G1 → F2 ≤ G2 → F1 ||| F2 ≤ G1 ||| G2) : Bst2 (fun L F => S0 L F ∨ mixS P Q L F) (tipS p q s) := by
  unfold tipS
  by_cases c : p.1 * q.1 = 0
  · rw [if_pos c]
    refine hs.c fun L F => ⟨Or.inl, ?_⟩
    rintro (z | ⟨L1, F1, L2, F2, z1, z2, _⟩)
    · exact z
    · rcases Nat.mul_eq_zero.mp c with w | w
      · exact absurd z1 (hp.1 w L1 F1)
      · exact absurd z2 (hq.1 w L2 F2)
  · rw [if_neg c]
    have p0 : p.1 ≠ 0 := fun z => c (by rw [z, Nat.zero_mul])
    have q0 : q.1 ≠ 0 := fun z => c (by rw [z, Nat.mul_zero])
    obtain ⟨pm, pb⟩ := hp.2 p0
    obtain ⟨qm, qb⟩ := hq.2 q0
    have cm : mixS P Q (p.2.1 + q.2.1) (p.2.2 ||| q.2.2) := ⟨_, _, _, _, pm, qm, rfl, rfl⟩
    have cb : ∀ L F, mixS P Q L F → p.2.1 + q.2.1 < L ∨ (p.2.1 + q.2.1 = L ∧ F ≤ p.2.2 ||| q.2.2) := by
      rintro L F ⟨L1, F1, L2, F2, z1, z2, rfl, rfl⟩
      rcases pb L1 F1 z1 with a | ⟨a1, a2⟩ <;> rcases qb L2 F2 z2 with b | ⟨b1, b2⟩
      · left; omega
      · left; omega
      · left; omega
      · right
        exact ⟨by omega, mono _ _ _ _ _ _ _ _ z1 pm z2 qm a2 b2⟩
    have np : s.1 + p.1 * q.1 ≠ 0 := by omega
    refine ⟨fun z => absurd z np, fun _ => ?_⟩
    dsimp only
    by_cases d : s.1 = 0 ∨ p.2.1 + q.2.1 < s.2.1 ∨ (p.2.1 + q.2.1 = s.2.1 ∧ s.2.2 < p.2.2 ||| q.2.2)
    · rw [if_pos d]
      refine ⟨Or.inr cm, ?_⟩
      rintro L F (z | z)
      · rcases d with d | d | d
        · exact absurd z (hs.1 d L F)
        · by_cases s0 : s.1 = 0
          · exact absurd z (hs.1 s0 L F)
          · rcases (hs.2 s0).2 L F z with w | w
            · left; dsimp only; omega
            · left; dsimp only; omega
        · by_cases s0 : s.1 = 0
          · exact absurd z (hs.1 s0 L F)
          · rcases (hs.2 s0).2 L F z with w | w
            · left; dsimp only; omega
            · right; dsimp only; omega
      · exact cb L F z
    · rw [if_neg d]
      have s0 : s.1 ≠ 0 := fun z => d (Or.inl z)
      obtain ⟨sm, sb⟩ := hs.2 s0
      refine ⟨Or.inl sm, ?_⟩
      rintro L F (z | z)
      · exact sb L F z
      · rcases cb L F z with w | w
        · left; omega
        · omega
theorem tip_all {P Q : Nat → Nat → Nat → Prop} {p q : Nat → Nat × Nat × Nat} (mono : ∀ k L1 F1 M1 G1 L2 F2 M2 G2, P k L1 F1 → P k M1 G1 → Q k L2 F2 → Q k M2 G2 → F1 ≤ G1 → F2 ≤ G2 → F1 ||| F2 ≤ G1 ||| G2) : ∀ (d i : Nat) (s : Nat × Nat × Nat) (S0 : Nat → Nat → Prop), (∀ k, i ≤ k → k < i + d → Bst2 (P k) (p k) ∧ Bst2 (Q k) (q k)) → Bst2 S0 s → Bst2 (fun L F => S0 L F ∨ ∃ k, i ≤ k ∧ k < i + d ∧ mixS (P k) (Q k) L F) (itF (fun k s => tipS (p k) (q k) s) i d s)
  | 0, i, s, S0, _, hs => by
    rw [itF]
    refine hs.c fun L F => ⟨Or.inl, ?_⟩
    rintro (z | ⟨k, h1, h2, _⟩)
    · exact z
    · omega
  | d + 1, i, s, S0, hk, hs => by
    rw [itF]
    obtain ⟨h1, h2⟩ := hk i (by omega) (by omega)
    refine (tip_all mono d (i + 1) _ _ (fun k k1 k2 => hk k (by omega) (by omega)) (tip_1 h1 h2 hs (mono i))).c fun L F => ?_
    constructor
    · rintro ((z | z) | ⟨k, k1, k2, z⟩)
      · exact Or.inl z
      · exact Or.inr ⟨i, by omega, by omega, z⟩
      · exact Or.inr ⟨k, by omega, by omega, z⟩
    · rintro (z | ⟨k, k1, k2, z⟩)
      · exact Or.inl (Or.inl z)
      · by_cases e : k = i
        · subst e; exact Or.inl (Or.inr z)
        · exact Or.inr ⟨k, by omega, by omega, z⟩
theorem pt_best (hn : n ≤ 10) (hst : ∀ a b, a < b → b < n → st a b = true → b ≠ a + 1 ∧ b - a ≠ n - 1) : ∀ (w a b : Nat), b - a ≤ w → a < b → b < n → Bst2 (Tg st lg n w a b) (pt st lg n a b)
  | 0, a, b, h, h1, h2 => by omega
  | w + 1, a, b, h, h1, h2 => by
    rw [pt_eq h1 (by omega)]
    unfold ptI
    by_cases e : b = a + 1
    · have s0 : st a b ≠ true := fun z => (hst a b h1 h2 z).1 e
      rw [if_pos e]
      unfold ptO
      rw [if_neg s0]
      refine ⟨fun z => absurd z Nat.one_ne_zero, fun _ => ⟨Or.inl ⟨e, rfl, rfl⟩, ?_⟩⟩
      rintro L F (⟨_, rfl, rfl⟩ | ⟨z, _⟩)
      · right; exact ⟨rfl, Nat.le_refl _⟩
      · exact absurd e z
    · rw [if_neg e]
      by_cases al : st a b = true ∨ b - a = n - 1
      · rw [if_pos al]
        have mono : ∀ k, a < k → k < b → ∀ L1 F1 M1 G1 L2 F2 M2 G2, Tg st lg n w a k L1 F1 → Tg st lg n w a k M1 G1 → Tg st lg n w k b L2 F2 → Tg st lg n w k b M2 G2 → F1 ≤ G1 → F2 ≤ G2 → F1 ||| F2 ≤ G1 ||| G2 := fun k k1 k2 L1 F1 M1 G1 L2 F2 M2 G2 t1 t2 t3 t4 l1 l2 => by
          rw [Tg.dis (by omega) k1 k2 t1 t3, Tg.dis (by omega) k1 k2 t2 t4]
          omega
        have w1 := tip_all (P := fun k L F => (a < k ∧ k < b) ∧ Tg st lg n w a k L F) (Q := fun k L F => Tg st lg n w k b L F) (p := fun k => pt st lg n a k) (q := fun k => pt st lg n k b) (fun k L1 F1 M1 G1 L2 F2 M2 G2 t1 t2 t3 t4 => mono k t1.1.1 t1.1.2 _ _ _ _ _ _ _ _ t1.2 t2.2 t3 t4) (b - a - 1) (a + 1) (0, 0, 0) (fun _ _ => False) (fun k k1 k2 => ⟨(pt_best hn hst w a k (by omega) (by omega) (by omega)).c fun L F => ⟨fun z => ⟨⟨by omega, by omega⟩, z⟩, fun z => z.2⟩, pt_best hn hst w k b (by omega) (by omega) (by omega)⟩) ⟨fun _ _ _ => id, fun z => absurd rfl z⟩
        generalize itF (fun k s => tipS (pt st lg n a k) (pt st lg n k b) s) (a + 1) (b - a - 1) (0, 0, 0) = u at *
        unfold ptO
        by_cases s1 : st a b = true
        · rw [if_pos s1]
          refine ⟨fun z L F t => ?_, fun z => ?_⟩
          · rcases t with ⟨t, _⟩ | ⟨_, _, k, k1, k2, L1, F1, L2, F2, t1, t2, _, _⟩
            · exact e t
            · exact w1.1 z _ _ (Or.inr ⟨k, by omega, by omega, L1, F1, L2, F2, ⟨⟨k1, k2⟩, t1⟩, t2, rfl, rfl⟩)
          · obtain ⟨um, ub⟩ := w1.2 z
            rcases um with um | ⟨k, k1, k2, L1, F1, L2, F2, ⟨k3, t1⟩, t2, e1, e2⟩
            · exact absurd um id
            refine ⟨Or.inr ⟨e, al, k, k3.1, k3.2, L1, F1, L2, F2, t1, t2, ?_, ?_⟩, ?_⟩
            · rw [if_pos s1, ← e1]
            · rw [if_pos s1, ← e2]
            · rintro L F (⟨t, _⟩ | ⟨_, _, k', k1', k2', L1', F1', L2', F2', t1', t2', e1', e2'⟩)
              · exact absurd t e
              · rw [if_pos s1] at e1' e2'
                have ub' := ub (L1' + L2') (F1' ||| F2') (Or.inr ⟨k', by omega, by omega, L1', F1', L2', F2', ⟨⟨k1', k2'⟩, t1'⟩, t2', rfl, rfl⟩)
                dsimp only
                rcases ub' with q | ⟨q1, q2⟩
                · left; omega
                · right
                  refine ⟨by omega, ?_⟩
                  rw [e2', e2, Tg.own (by omega) k1' k2' t1' t2', Tg.own (by omega) k3.1 k3.2 t1 t2, ← Tg.dis (by omega) k1' k2' t1' t2', ← Tg.dis (by omega) k3.1 k3.2 t1 t2, ← e2]
                  omega
        · rw [if_neg s1]
          refine w1.c fun L F => ?_
          constructor
          · rintro (z | ⟨k, k1, k2, L1, F1, L2, F2, ⟨k3, t1⟩, t2, e1, e2⟩)
            · exact absurd z id
            · exact Or.inr ⟨e, al, k, k3.1, k3.2, L1, F1, L2, F2, t1, t2, by rw [if_neg s1, e1]; rfl, by rw [if_neg s1, e2]; simp⟩
          · rintro (⟨z, _⟩ | ⟨_, _, k, k1, k2, L1, F1, L2, F2, t1, t2, e1, e2⟩)
            · exact absurd z e
            · rw [if_neg s1] at e1 e2
              exact Or.inr ⟨k, by omega, by omega, L1, F1, L2, F2, ⟨⟨k1, k2⟩, t1⟩, t2, by omega, by rw [e2]; simp⟩
      · rw [if_neg al]
        have s1 : st a b ≠ true := fun z => al (Or.inl z)
        unfold ptO
        rw [if_neg s1]
        refine ⟨fun _ L F t => ?_, fun z => absurd rfl z⟩
        rcases t with ⟨t, _⟩ | ⟨_, t, _⟩
        · exact e t
        · exact al t
end
