/-! Hulls: both find the same next corner, and come back. -/
/-- b is, seen from a, the one that no other is to the right of, of those in one line the farthest -/
def Bst (n : Nat) (X Y : Nat → Int) (a b : Nat) : Prop := b < n ∧ b ≠ a ∧ ∀ c, c < n → c ≠ a → 0 < sd X Y a b c ∨ (sd X Y a b c = 0 ∧ lng X Y a c ≤ lng X Y a b)
/-- of two in one line from an edge corner: the lengths decide -/
theorem same_len {n : Nat} {X Y : Nat → Int} {a : Nat} (hD : Dst n X Y) (hE : EdgX n X Y a) {b c : Nat} (hb : b < n) (hc : c < n) (hba : b ≠ a) (hca : c ≠ a) (h : sd X Y a b c = 0) : (prt X Y a b c < lng X Y a b ↔ lng X Y a c < lng X Y a b) ∧ (prt X Y a b c = lng X Y a b ↔ b = c) := by
  have hp := Edg.opp hD hE hb hc hba hca h
  have lb := hD a b hE.1 hb (Ne.symm hba)
  have e0 : dt X Y a b c = prt X Y a b c := by unfold dt prt; grind
  rw [e0] at hp
  have e1 : lng X Y a c * lng X Y a b = prt X Y a b c * prt X Y a b c + sd X Y a b c * sd X Y a b c := by unfold lng prt sd; grind
  have e2 : lng X Y b c * lng X Y a b = (prt X Y a b c - lng X Y a b) * (prt X Y a b c - lng X Y a b) + sd X Y a b c * sd X Y a b c := by unfold lng prt sd; grind
  rw [h] at e1 e2
  have e1' : lng X Y a c * lng X Y a b = prt X Y a b c * prt X Y a b c := by omega
  constructor
  · constructor
    · intro q
      have m1 : prt X Y a b c * prt X Y a b c < prt X Y a b c * lng X Y a b := Int.mul_lt_mul_of_pos_left q hp
      have m2 : prt X Y a b c * lng X Y a b < lng X Y a b * lng X Y a b := Int.mul_lt_mul_of_pos_right q lb
      refine Int.not_le.mp fun z => ?_
      have := Int.mul_le_mul_of_nonneg_right z (show 0 ≤ lng X Y a b by omega)
      omega
    · intro q
      refine Int.not_le.mp fun z => ?_
      have m1 : lng X Y a b * lng X Y a b ≤ prt X Y a b c * lng X Y a b := Int.mul_le_mul_of_nonneg_right z (by omega)
      have m2 : prt X Y a b c * lng X Y a b ≤ prt X Y a b c * prt X Y a b c := Int.mul_le_mul_of_nonneg_left z (by omega)
      have m3 : lng X Y a c * lng X Y a b < lng X Y a b * lng X Y a b := Int.mul_lt_mul_of_pos_right q lb
      omega
  · constructor
    · intro q
      refine Classical.byContradiction fun z => ?_
      have := Int.mul_pos (hD b c hb hc z) lb
      rw [q, Int.sub_self] at e2
      omega
    · intro q
      rw [q]
      unfold prt lng
      grind
theorem rmS_eq {n : Nat} {X Y : Nat → Int} {a : Nat} (hD : Dst n X Y) (hE : EdgX n X Y a) {b c : Nat} (hb : b < n) (hc : c < n) (hba : b ≠ a) : rmS X Y a c b = nhS X Y a c b := by
  unfold rmS nhS
  by_cases c1 : c = a
  · rw [if_pos (Or.inl c1), if_pos c1]
  · rw [if_neg c1]
    by_cases c2 : c = b
    · subst c2
      have : sd X Y a c c = 0 := by unfold sd; grind
      rw [if_pos (Or.inr rfl), if_neg (by omega)]
    · rw [if_neg (fun q => q.elim c1 c2)]
      have lc := hD a c hE.1 hc (Ne.symm c1)
      have e : (sd X Y a b c < 0 ∨ (sd X Y a b c = 0 ∧ btw X Y a c b = true)) ↔ (sd X Y a b c < 0 ∨ (sd X Y a b c = 0 ∧ lng X Y a b < lng X Y a c)) := by
        constructor
        · rintro (q | ⟨q1, q2⟩)
          · exact Or.inl q
          · rw [btw_p lc] at q2
            exact Or.inr ⟨q1, ((same_len hD hE hc hb c1 hba q2.1).1.mp q2.2.2)⟩
        · rintro (q | ⟨q1, q2⟩)
          · exact Or.inl q
          · refine Or.inr ⟨q1, ?_⟩
            have q3 : sd X Y a c b = 0 := by
              have : sd X Y a c b = -sd X Y a b c := by unfold sd; grind
              omega
            rw [btw_p lc]
            have hp := Edg.opp hD hE hc hb c1 hba q3
            have e0 : dt X Y a c b = prt X Y a c b := by unfold dt prt; grind
            exact ⟨q3, by omega, (same_len hD hE hc hb c1 hba q3).1.mpr q2⟩
      by_cases c3 : sd X Y a b c < 0 ∨ (sd X Y a b c = 0 ∧ lng X Y a b < lng X Y a c)
      · rw [if_pos (e.mpr c3), if_pos c3]
      · rw [if_neg (fun q => c3 (e.mp q)), if_neg c3]
/-- better or as good goes on -/
theorem Bst_tr {n : Nat} {X Y : Nat → Int} {a : Nat} (hD : Dst n X Y) (hE : EdgX n X Y a) {b c e : Nat} (hb : b < n) (hc : c < n) (he : e < n) (hba : b ≠ a) (hca : c ≠ a) (hea : e ≠ a) (h1 : 0 < sd X Y a b c ∨ (sd X Y a b c = 0 ∧ lng X Y a c ≤ lng X Y a b)) (h2 : 0 < sd X Y a c e ∨ (sd X Y a c e = 0 ∧ lng X Y a e ≤ lng X Y a c)) : 0 < sd X Y a b e ∨ (sd X Y a b e = 0 ∧ lng X Y a e ≤ lng X Y a b) := by
  have t := Edg.tr hD hE hb hc he hca (by omega) (by omega)
  by_cases z : sd X Y a b e = 0
  · right
    refine ⟨z, ?_⟩
    -- all three in one line
    have k : sd X Y a b c = 0 ∧ sd X Y a c e = 0 := by
      have q3 : 0 ≤ sd X Y a e b := by
        have : sd X Y a e b = -sd X Y a b e := by unfold sd; grind
        omega
      have t2 := Edg.tr hD hE hc he hb hea (by omega) q3
      have t3 := Edg.tr hD hE he hb hc hba q3 (by omega)
      have s1 : sd X Y a c b = -sd X Y a b c := by unfold sd; grind
      have s2 : sd X Y a e c = -sd X Y a c e := by unfold sd; grind
      omega
    omega
  · left; omega
theorem wrap {n : Nat} {X Y : Nat → Int} {a : Nat} (hD : Dst n X Y) (hE : EdgX n X Y a) : ∀ (d i s : Nat), i + d = n → s < n → s ≠ a → (∀ c, c < i → c ≠ a → 0 < sd X Y a s c ∨ (sd X Y a s c = 0 ∧ lng X Y a c ≤ lng X Y a s)) → Bst n X Y a (itF (nhS X Y a) i d s) ∧ itF (rmS X Y a) i d s = itF (nhS X Y a) i d s
  | 0, i, s, h, hs, hsa, hm => by
    obtain rfl : i = n := by omega
    exact ⟨⟨hs, hsa, hm⟩, rfl⟩
  | d + 1, i, s, h, hs, hsa, hm => by
    have hi : i < n := by omega
    rw [itF, itF, rmS_eq hD hE hs hi hsa]
    by_cases c : i = a ∨ ¬ (sd X Y a s i < 0 ∨ (sd X Y a s i = 0 ∧ lng X Y a s < lng X Y a i))
    · have e : nhS X Y a i s = s := by
        unfold nhS
        rcases c with c | c
        · rw [if_pos c]
        · rw [if_neg c, ite_self]
      rw [e]
      refine wrap hD hE d (i + 1) s (by omega) hs hsa (fun k hk hka => ?_)
      by_cases ek : k = i
      · subst ek
        rcases c with c | c
        · exact absurd c hka
        · omega
      · exact hm k (by omega) hka
    · have ci : i ≠ a := fun z => c (Or.inl z)
      have cc : sd X Y a s i < 0 ∨ (sd X Y a s i = 0 ∧ lng X Y a s < lng X Y a i) := Classical.byContradiction fun z => c (Or.inr z)
      have e : nhS X Y a i s = i := by unfold nhS; rw [if_neg ci, if_pos cc]
      rw [e]
      have bt : 0 < sd X Y a i s ∨ (sd X Y a i s = 0 ∧ lng X Y a s ≤ lng X Y a i) := by
        have : sd X Y a i s = -sd X Y a s i := by unfold sd; grind
        omega
      refine wrap hD hE d (i + 1) i (by omega) hi ci (fun k hk hka => ?_)
      by_cases ek : k = i
      · subst ek
        right
        exact ⟨by unfold sd; grind, Int.le_refl _⟩
      · exact Bst_tr hD hE hi hs (by omega) ci hsa hka bt (hm k (by omega) hka)
theorem Bst.uq {n : Nat} {X Y : Nat → Int} {a b c : Nat} (hD : Dst n X Y) (hE : EdgX n X Y a) (h1 : Bst n X Y a b) (h2 : Bst n X Y a c) : b = c := by
  obtain ⟨b1, b2, b3⟩ := h1
  obtain ⟨c1, c2, c3⟩ := h2
  have q1 := b3 c c1 c2
  have q2 := c3 b b1 b2
  have s : sd X Y a c b = -sd X Y a b c := by unfold sd; grind
  have z : sd X Y a b c = 0 := by omega
  have w := same_len hD hE b1 c1 b2 c2 z
  have l : lng X Y a b = lng X Y a c := by omega
  refine Classical.byContradiction fun ne => ?_
  have n1 : prt X Y a b c ≠ lng X Y a b := fun e => ne (w.2.mp e)
  have n2 : ¬ prt X Y a b c < lng X Y a b := fun e => by have := w.1.mp e; omega
  have w2 := same_len hD hE c1 b1 c2 b2 (by omega)
  have n3 : prt X Y a c b ≠ lng X Y a c := fun e => ne (w2.2.mp e).symm
  have n4 : ¬ prt X Y a c b < lng X Y a c := fun e => by have := w2.1.mp e; omega
  have e3 : prt X Y a c b = prt X Y a b c := by unfold prt; grind
  have e1 : lng X Y a c * lng X Y a b = prt X Y a b c * prt X Y a b c + sd X Y a b c * sd X Y a b c := by unfold lng prt sd; grind
  rw [z] at e1
  have lb := hD a b hE.1 b1 (Ne.symm b2)
  have m1 : lng X Y a b * lng X Y a b < prt X Y a b c * prt X Y a b c := by
    have g1 : lng X Y a b * lng X Y a b < prt X Y a b c * lng X Y a b := Int.mul_lt_mul_of_pos_right (by omega) lb
    have g2 : prt X Y a b c * lng X Y a b < prt X Y a b c * prt X Y a b c := Int.mul_lt_mul_of_pos_left (by omega) (by omega)
    omega
  rw [← l] at e1
  omega
theorem next_eq {n : Nat} {X Y : Nat → Int} {a : Nat} (h2 : 2 ≤ n) (hD : Dst n X Y) (hE : EdgX n X Y a) : Bst n X Y a (nxH X Y n a) ∧ rmost X Y n a = nxH X Y n a := by
  have w1 := wrap hD hE n 0 (if a = 0 then 1 else 0) (by omega) (by split <;> omega) (by split <;> omega) (fun c hc => by omega)
  have hn := nx_lt hE.1
  have hne : nx n a ≠ a := by have := hE.1; unfold nx; split <;> omega
  have w2 := wrap hD hE n 0 (nx n a) (by omega) hn hne (fun c hc => by omega)
  refine ⟨w1.1, ?_⟩
  unfold rmost nxH
  rw [w2.2]
  exact Bst.uq hD hE w2.1 w1.1
/-- the next corner is at the edge too -/
theorem Edg.next {n : Nat} {X Y : Nat → Int} {a b : Nat} (hD : Dst n X Y) (hE : EdgX n X Y a) (h : Bst n X Y a b) : EdgX n X Y b := by
  obtain ⟨b1, b2, b3⟩ := h
  have hne := hD.ne hE.1 b1 (Ne.symm b2)
  refine ⟨b1, X b - X a, Y b - Y a, by omega, fun c hc => ?_⟩
  have e : (X b - X a) * (Y c - Y b) - (Y b - Y a) * (X c - X b) = sd X Y a b c := by unfold sd; grind
  have e2 : (X b - X a) * (X c - X b) + (Y b - Y a) * (Y c - Y b) = prt X Y a b c - lng X Y a b := by unfold prt lng; grind
  rw [e, e2]
  by_cases ca : c = a
  · right
    rw [ca]
    have lb := hD a b hE.1 b1 (Ne.symm b2)
    have p0 : prt X Y a b a = 0 := by unfold prt; grind
    exact ⟨by unfold sd; grind, by omega⟩
  · rcases b3 c hc ca with q | ⟨q1, q2⟩
    · exact Or.inl q
    · right
      refine ⟨q1, ?_⟩
      have w := same_len hD hE b1 hc b2 ca q1
      by_cases z : b = c
      · have := w.2.mpr z; omega
      · have n1 : prt X Y a b c ≠ lng X Y a b := fun e => z (w.2.mp e)
        refine Int.not_lt.mp fun g => ?_
        have n2 : ¬ prt X Y a b c < lng X Y a b := by omega
        have l : lng X Y a c = lng X Y a b := by
          have : ¬ lng X Y a c < lng X Y a b := fun y => n2 (w.1.mpr y)
          omega
        -- as far, in one line, one side: the same corner
        have e1 : lng X Y a c * lng X Y a b = prt X Y a b c * prt X Y a b c + sd X Y a b c * sd X Y a b c := by unfold lng prt sd; grind
        rw [q1, l] at e1
        have lb := hD a b hE.1 b1 (Ne.symm b2)
        have g1 : lng X Y a b * lng X Y a b < prt X Y a b c * lng X Y a b := Int.mul_lt_mul_of_pos_right (by omega) lb
        have g2 : prt X Y a b c * lng X Y a b < prt X Y a b c * prt X Y a b c := Int.mul_lt_mul_of_pos_left (by omega) (by omega)
        omega
/-- two corners at the edge have two next ones -/
theorem Edg.inj {n : Nat} {X Y : Nat → Int} {a a' b : Nat} (hD : Dst n X Y) (hE : EdgX n X Y a) (hE' : EdgX n X Y a') (h : Bst n X Y a b) (h' : Bst n X Y a' b) : a = a' := by
  refine Classical.byContradiction fun ne => ?_
  obtain ⟨b1, b2, b3⟩ := h
  obtain ⟨c1, c2, c3⟩ := h'
  have q1 := b3 a' hE'.1 (Ne.symm ne)
  have q2 := c3 a hE.1 ne
  have s : sd X Y a' b a = -sd X Y a b a' := by unfold sd; grind
  have z : sd X Y a b a' = 0 := by omega
  -- a' lies between a and b
  have w := same_len hD hE b1 hE'.1 b2 (Ne.symm ne) z
  have n1 : prt X Y a b a' ≠ lng X Y a b := fun e => c2 (w.2.mp e)
  have ed := (Edg.next hD hE ⟨b1, b2, b3⟩)
  have pos := Edg.opp hD hE b1 hE'.1 b2 (Ne.symm ne) z
  have e0 : dt X Y a b a' = prt X Y a b a' := by unfold dt prt; grind
  have lt : prt X Y a b a' < lng X Y a b := by
    refine Int.not_le.mp fun g => ?_
    have n2 : ¬ lng X Y a a' < lng X Y a b := fun y => by have := w.1.mpr y; omega
    have l : lng X Y a a' = lng X Y a b := by omega
    have e1 : lng X Y a a' * lng X Y a b = prt X Y a b a' * prt X Y a b a' + sd X Y a b a' * sd X Y a b a' := by unfold lng prt sd; grind
    rw [z, l] at e1
    have lb := hD a b hE.1 b1 (Ne.symm b2)
    have g1 : lng X Y a b * lng X Y a b < prt X Y a b a' * lng X Y a b := Int.mul_lt_mul_of_pos_right (by omega) lb
    have g2 : prt X Y a b a' * lng X Y a b < prt X Y a b a' * prt X Y a b a' := Int.mul_lt_mul_of_pos_left (by omega) (by omega)
    omega
  have z2 : sd X Y a' a b = 0 := by
    have : sd X Y a' a b = sd X Y a b a' := by unfold sd; grind
    omega
  have op := Edg.opp hD hE' hE.1 b1 ne c2 z2
  have lb := hD a b hE.1 b1 (Ne.symm b2)
  have e2 : dt X Y a' a b * lng X Y a b = prt X Y a b a' * (prt X Y a b a' - lng X Y a b) + sd X Y a b a' * sd X Y a b a' := by unfold dt prt lng sd; grind
  rw [z, Int.mul_zero, Int.add_zero] at e2
  have g1 := Int.mul_pos op lb
  have g2 : prt X Y a b a' * (prt X Y a b a' - lng X Y a b) < 0 := Int.mul_neg_of_pos_of_neg (by omega) (by omega)
  omega
