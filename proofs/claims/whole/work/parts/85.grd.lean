/-! Guards: counting up and counting down find the same set. -/
def Lx (b i : Nat) : Prop := pop b < pop i ∨ (pop b = pop i ∧ b ≤ i)
theorem fw_min {V : Nat → Nat} {n M : Nat} (hM : M = 2 ^ n - 1) (hp : ∀ i, i < M → pop i < pop M) : ∀ (d i b : Nat), 1 ≤ i → i + d ≤ M → (b = M ∨ (1 ≤ b ∧ b < i ∧ wsn V n b = M)) → (∀ j, 1 ≤ j → j < i → wsn V n j = M → Lx b j) → Lx b M → (itF (fwS V n) i d b = M ∨ (1 ≤ itF (fwS V n) i d b ∧ itF (fwS V n) i d b < i + d ∧ wsn V n (itF (fwS V n) i d b) = M)) ∧ (∀ j, 1 ≤ j → j < i + d → wsn V n j = M → Lx (itF (fwS V n) i d b) j) ∧ Lx (itF (fwS V n) i d b) M
  | 0, i, b, _, _, h1, h2, h3 => ⟨h1, h2, h3⟩
  | d + 1, i, b, hi, hd, h1, h2, h3 => by
    have e : i + (d + 1) = i + 1 + d := by omega
    rw [itF, e]
    have pi := hp i (by omega)
    by_cases c : wsn V n i = 2 ^ n - 1 ∧ pop i < pop b
    · have ef : fwS V n i b = i := by unfold fwS; rw [if_pos ⟨by omega, by omega⟩]
      rw [ef]
      refine fw_min hM hp d (i + 1) i (by omega) (by omega) (Or.inr ⟨hi, by omega, by omega⟩) (fun j j1 j2 j3 => ?_) (Or.inl pi)
      by_cases ej : j = i
      · subst ej; exact Or.inr ⟨rfl, Nat.le_refl _⟩
      · have := h2 j j1 (by omega) j3
        unfold Lx at this ⊢
        omega
    · have ef : fwS V n i b = b := by unfold fwS; rw [if_neg (fun q => c ⟨by omega, by omega⟩)]
      rw [ef]
      refine fw_min hM hp d (i + 1) b (by omega) (by omega) (by omega) (fun j j1 j2 j3 => ?_) h3
      by_cases ej : j = i
      · subst ej
        have c2 : ¬ pop j < pop b := fun z => c ⟨by omega, z⟩
        unfold Lx
        rcases h1 with w | w
        · rw [w] at c2; omega
        · omega
      · exact h2 j j1 (by omega) j3
theorem gr_min {V : Nat → Nat} {n M : Nat} (hM : M = 2 ^ n - 1) : ∀ (s b : Nat), s ≤ M → (b = M ∨ (s < b ∧ b < M ∧ sgtV V n b = M)) → (∀ j, s < j → j < M → sgtV V n j = M → Lx b j) → Lx b M → (grF V n s b = M ∨ (1 ≤ grF V n s b ∧ grF V n s b < M ∧ sgtV V n (grF V n s b) = M)) ∧ (∀ j, 1 ≤ j → j < M → sgtV V n j = M → Lx (grF V n s b) j) ∧ Lx (grF V n s b) M
  | 0, b, _, h1, h2, h3 => by
    rw [grF]
    exact ⟨by omega, fun j j1 j2 j3 => h2 j (by omega) j2 j3, h3⟩
  | s + 1, b, hs, h1, h2, h3 => by
    rw [grF]
    by_cases c : sgtV V n (s + 1) = 2 ^ n - 1 ∧ pop (s + 1) ≤ pop b
    · rw [if_pos c]
      have L : Lx (s + 1) M := by
        by_cases e : s + 1 = M
        · rw [e]; exact Or.inr ⟨rfl, Nat.le_refl _⟩
        · unfold Lx at h3 ⊢; omega
      refine gr_min hM s (s + 1) (by omega) ?_ (fun j j1 j2 j3 => ?_) L
      · by_cases e : s + 1 = M
        · exact Or.inl e
        · exact Or.inr ⟨by omega, by omega, by omega⟩
      · by_cases ej : j = s + 1
        · subst ej; exact Or.inr ⟨rfl, Nat.le_refl _⟩
        · have := h2 j (by omega) j2 j3
          unfold Lx at this ⊢
          omega
    · rw [if_neg c]
      refine gr_min hM s b (by omega) (by omega) (fun j j1 j2 j3 => ?_) h3
      by_cases ej : j = s + 1
      · subst ej
        have c2 : ¬ pop (s + 1) ≤ pop b := fun z => c ⟨by omega, z⟩
        exact Or.inl (by omega)
      · exact h2 j (by omega) j2 j3
theorem few_eq {V V' : Nat → Nat} {n : Nat} (h1 : 1 ≤ n) (hp : ∀ i, i < 2 ^ n - 1 → pop i < pop (2 ^ n - 1)) (hG : ∀ j, 1 ≤ j → j < 2 ^ n - 1 → (wsn V n j = 2 ^ n - 1 ↔ sgtV V' n j = 2 ^ n - 1)) : fewC V n = grF V' n (2 ^ n - 1) (2 ^ n - 1) := by
  have h2 : 2 ≤ 2 ^ n := Nat.pow_le_pow_right (n := 2) (by omega) h1
  unfold fewC
  have ed : 2 ^ n - 2 = 2 ^ n - 1 - 1 := by omega
  rw [ed]
  generalize eM : 2 ^ n - 1 = M at *
  obtain ⟨a1, a2, a3⟩ := fw_min (V := V) eM.symm hp (M - 1) 1 M (by omega) (by omega) (Or.inl rfl) (fun j _ _ => by omega) (Or.inr ⟨rfl, Nat.le_refl _⟩)
  obtain ⟨b1, b2, b3⟩ := gr_min (V := V') eM.symm M M (Nat.le_refl _) (Or.inl rfl) (fun j _ _ => by omega) (Or.inr ⟨rfl, Nat.le_refl _⟩)
  have q1 : Lx (itF (fwS V n) 1 (M - 1) M) (grF V' n M M) := by
    rcases b1 with w | ⟨w1, w2, w3⟩
    · rw [w]; exact a3
    · exact a2 _ w1 (by omega) ((hG _ w1 w2).mpr w3)
  have q2 : Lx (grF V' n M M) (itF (fwS V n) 1 (M - 1) M) := by
    rcases a1 with w | ⟨w1, w2, w3⟩
    · rw [w]; exact b3
    · exact b2 _ w1 (by omega) ((hG _ w1 (by omega)).mp w3)
  unfold Lx at q1 q2
  omega
theorem pop_all : (List.range 11).all (fun n => (List.range (2 ^ n - 1)).all (fun i => decide (pop i < pop (2 ^ n - 1)))) = true := by decide +kernel
theorem pop_less {n i : Nat} (hn : n ≤ 10) (hi : i < 2 ^ n - 1) : pop i < pop (2 ^ n - 1) := of_decide_eq_true (List.all_eq_true.mp (List.all_eq_true.mp pop_all n (List.mem_range.mpr (by omega))) i (List.mem_range.mpr hi))
theorem ws_test {V : Nat → Nat} {m j : Nat} : ∀ (d i s : Nat), (itF (wsSt V m) i d s).testBit j = true ↔ s.testBit j = true ∨ ∃ a, i ≤ a ∧ a < i + d ∧ m.testBit a = true ∧ (V a).testBit j = true
  | 0, i, s => ⟨fun h => Or.inl h, fun h => h.elim id (fun ⟨a, h1, h2, _⟩ => by omega)⟩
  | d + 1, i, s => by
    rw [itF, ws_test d (i + 1)]
    have e : (wsSt V m i s).testBit j = true ↔ s.testBit j = true ∨ (m.testBit i = true ∧ (V i).testBit j = true) := by
      unfold wsSt
      by_cases c : m.testBit i = true
      · rw [if_pos c, Nat.testBit_or, Bool.or_eq_true]
        exact ⟨fun h => h.elim Or.inl (fun w => Or.inr ⟨c, w⟩), fun h => h.elim Or.inl (fun w => Or.inr w.2)⟩
      · rw [if_neg c]
        exact ⟨Or.inl, fun h => h.elim id (fun w => absurd w.1 c)⟩
    rw [e]
    constructor
    · rintro ((h | ⟨h1, h2⟩) | ⟨a, h1, h2, h3, h4⟩)
      · exact Or.inl h
      · exact Or.inr ⟨i, by omega, by omega, h1, h2⟩
      · exact Or.inr ⟨a, by omega, by omega, h3, h4⟩
    · rintro (h | ⟨a, h1, h2, h3, h4⟩)
      · exact Or.inl (Or.inl h)
      · by_cases c : a = i
        · subst c; exact Or.inl (Or.inr ⟨h3, h4⟩)
        · exact Or.inr ⟨a, by omega, by omega, h3, h4⟩
/-- with sight alike, what a set sees is alike -/
theorem wsn_eq {X Y X' Y' : Nat → Int} {n m : Nat} (hn : n ≤ 10) (hm : m < 2 ^ n) (hS : ∀ i j, i < n → j < n → i ≠ j → svC X Y n (min i j) (max i j) = sgM X' Y' n i j) : wsn (fun i => bits (vB X Y n i)) n m = sgtV (svV X' Y' n) n m := by
  refine Nat.eq_of_testBit_eq fun j => ?_
  rw [Bool.eq_iff_iff]
  unfold wsn sgtV
  rw [ws_test, ws_test, Nat.zero_testBit]
  constructor
  · rintro (h | ⟨a, h1, h2, h3, h4⟩)
    · have hj : j < n := by
        refine Classical.byContradiction fun z => ?_
        rw [Nat.testBit_lt_two_pow (Nat.lt_of_lt_of_le hm (Nat.pow_le_pow_right (n := 2) (by omega) (show n ≤ j by omega)))] at h
        cases h
      refine Or.inr ⟨j, by omega, by omega, h, ?_⟩
      unfold svV svP
      rw [bits_test, decide_eq_true (show j < 10 by omega), decide_eq_true (rfl : j = j)]
      rfl
    · refine Or.inr ⟨a, h1, h2, h3, ?_⟩
      rw [bits_test, Bool.and_eq_true, decide_eq_true_eq] at h4
      obtain ⟨h4, h5⟩ := h4
      unfold vB at h5
      rw [Bool.and_eq_true, decide_eq_true_eq] at h5
      obtain ⟨⟨q1, q2, q3⟩, q4⟩ := h5
      rw [hS a j q2 q3 q1] at q4
      unfold svV svP
      rw [bits_test, decide_eq_true h4, decide_eq_true q3, q4]
      simp
  · rintro (h | ⟨a, h1, h2, h3, h4⟩)
    · cases h
    · unfold svV svP at h4
      rw [bits_test, Bool.and_eq_true, decide_eq_true_eq, Bool.or_eq_true, decide_eq_true_eq, Bool.and_eq_true, decide_eq_true_eq] at h4
      obtain ⟨h4, h5⟩ := h4
      by_cases c : j = a
      · subst c; exact Or.inl h3
      · rcases h5 with w | ⟨w1, w2⟩
        · exact absurd w c
        · refine Or.inr ⟨a, h1, h2, h3, ?_⟩
          rw [bits_test, decide_eq_true h4]
          unfold vB
          rw [decide_eq_true ⟨Ne.symm c, by omega, w1⟩, hS a j (by omega) w1 (Ne.symm c), w2]
          rfl
/-- the guards, once sight is alike -/
theorem guards_of {Z : CZ} {M : MZ} (hI : Inv Z M) (hS : ∀ p, p < 4 → sM M p = true → ∀ i j, i < mM M p → j < mM M p → i ≠ j → svC (zX Z p) (zY Z p) (mM M p) (min i j) (max i j) = sgM (fw (mX M) p) (fw (mY M) p) (mM M p) i j) (f : Int) : aGuards Z f = bGuards M f := by
  unfold aGuards bGuards
  by_cases h : fB f = true
  · obtain ⟨p, hp, rfl⟩ := fB_t h
    rw [if_pos h, if_pos h, i_nn, sn_eq hI hp]
    by_cases s : sM M p = true
    · have h3 := sM_3 s
      have n10 := hI.n10 hp
      rw [if_pos s, if_pos s, hI.N hp]
      congr 1
      refine few_eq (by omega) (fun i hi => pop_less n10 hi) (fun j j1 j2 => ?_)
      have e : VZ Z p = fun i => bits (vB (zX Z p) (zY Z p) (mM M p) i) := by
        funext i
        unfold VZ
        rw [hI.N hp]
      rw [e, wsn_eq n10 (by omega) (hS p hp s)]
    · rw [if_neg s, if_neg s]
  · rw [if_neg h, if_neg h]
