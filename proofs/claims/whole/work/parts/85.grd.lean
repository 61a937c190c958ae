/-! Guards: counting up and counting down find the same set. -/
def Lx (b i : Nat) : Prop := pop b < pop i ∨ (pop b = pop i ∧ b ≤ i)
theorem fw_min {V : Nat → Nat} {n M : Nat} (hM : M = 2 ^ n - 1) (hp : ∀ i, i < M → pop i < pop M) : ∀ (d i b : Nat), 1 ≤ i → i + d ≤ M → (b = M ∨ (1 ≤ b ∧ b < i ∧ wsn V n b = M)) → (∀ j, 1 ≤ j → j < i → wsn V n j = M → Lx b j) → Lx b M → (itF (fwS V n) i d b = M ∨ (1 ≤ itF (fwS V n) i d b ∧ itF (fwS V n) i d b < i + d ∧ wsn V n (itF (fwS V n) i d b) = M)) ∧ (∀ j, 1 ≤ j → j < i + d → wsn V n j = M → Lx (itF (fwS V n) i d b) j) ∧ Lx (itF (fwS V n) i d b) M
  | 0, i, b, _, _, h1, h2, h3 => ⟨h1, h2, h3⟩
  | d + 1, i, b, hi, hd, h1, h2, h3 => by
    have e : i + (d + 1) = i + 1 + d := by omega
    rw [itF, e]
    have pi := hp i (by omega)
    by_cases c : wsn V n i = 2 ^ n - 1 ∧ pop i < pop b
    · have ef : fwS V n i b = i := by unfold fwS; rw [if_pos ⟨by omega, by omega⟩]
      rw [ef]
      refine fw_min hM hp d (i + 1) i (by omega) (by omega) (Or.inr ⟨hi, by omega, by omega⟩) (fun j j1 j2 j3 => ?_) (Or.inl pi)
      by_cases ej : j = i
      · subst ej; exact Or.inr ⟨rfl, Nat.le_refl _⟩
      · have := h2 j j1 (by omega) j3
        unfold Lx at this ⊢
        omega
    · have ef : fwS V n i b = b := by unfold fwS; rw [if_neg (fun q => c ⟨by omega, by omega⟩)]
      rw [ef]
      refine fw_min hM hp d (i + 1) b (by omega) (by omega) (by omega) (fun j j1 j2 j3 => ?_) h3
      by_cases ej : j = i
      · subst ej
        have c2 : ¬ pop j < pop b := fun z => c ⟨by omega, z⟩
        unfold Lx
        rcases h1 with w | w
        · rw [w] at c2; omega
        · omega
      · exact h2 j j1 (by omega) j3
theorem gr_min {V : Nat → Nat} {n M : Nat} (hM : M = 2 ^ n - 1) : ∀ (s b : Nat), s ≤ M → (b = M ∨ (s < b ∧ b < M ∧ sgtV V n b = M)) → (∀ j, s < j → j < M → sgtV V n j = M → Lx b j) → Lx b M → (grF V n s b = M ∨ (1 ≤ grF V n s b ∧ grF V n s b < M ∧ sgtV V n (grF V n s b) = M)) ∧ (∀ j, 1 ≤ j → j < M → sgtV V n j = M → Lx (grF V n s b) j) ∧ Lx (grF V n s b) M
  | 0, b, _, h1, h2, h3 => by
    rw [grF]
    exact ⟨by omega, fun j j1 j2 j3 => h2 j (by omega) j2 j3, h3⟩
  | s + 1, b, hs, h1, h2, h3 => by
    rw [grF]
    by_cases c : sgtV V n (s + 1) = 2 ^ n - 1 ∧ pop (s + 1) ≤ pop b
    · rw [if_pos c]
      have L : Lx (s + 1) M := by
        by_cases e : s + 1 = M
        · rw [e]; exact Or.inr ⟨rfl, Nat.le_refl _⟩
        · unfold Lx at h3 ⊢; omega
      refine gr_min hM s (s + 1) (by omega) ?_ (fun j j1 j2 j3 => ?_) L
      · by_cases e : s + 1 = M
        · exact Or.inl e
        · exact Or.inr ⟨by omega, by omega, by omega⟩
      · by_cases ej : j = s + 1
        · subst ej; exact Or.inr ⟨rfl, Nat.le_refl _⟩
        · have := h2 j (by omega) j2 j3
          unfold Lx at this ⊢
          omega
    · rw [if_neg c]
      refine gr_min hM s b (by omega) (by omega) (fun j j1 j2 j3 => ?_) h3
      by_cases ej : j = s + 1
      · subst ej
        have c2 : ¬ pop (s + 1) ≤ pop b := fun z => c ⟨by omega, z⟩
        exact Or.inl (by omega)
      · exact h2 j (by omega) j2 j3
theorem few_eq {V V' : Nat → Nat} {n : Nat} (h1 : 1 ≤ n) (hp : ∀ i, i < 2 ^ n - 1 → pop i < pop (2 ^ n - 1)) (hG : ∀ j, 1 ≤ j → j < 2 ^ n - 1 → (wsn V n j = 2 ^ n - 1 ↔ sgtV V' n j = 2 ^ n - 1)) : fewC V n = grF V' n (2 ^ n - 1) (2 ^ n - 1) := by
  have h2 : 2 ≤ 2 ^ n := Nat.pow_le_pow_right (n := 2) (by omega) h1
  unfold fewC
  have ed : 2 ^ n - 2 = 2 ^ n - 1 - 1 := by omega
  rw [ed]
  generalize eM : 2 ^ n - 1 = M at *
  obtain ⟨a1, a2, a3⟩ := fw_min (V := V) eM.symm hp (M - 1) 1 M (by omega) (by omega) (Or.inl rfl) (fun j _ _ => by omega) (Or.inr ⟨rfl, Nat.le_refl _⟩)
  obtain ⟨b1, b2, b3⟩ := gr_min (V := V') eM.symm M M (Nat.le_refl _) (Or.inl rfl) (fun j _ _ => by omega) (Or.inr ⟨rfl, Nat.le_refl _⟩)
  have q1 : Lx (itF (fwS V n) 1 (M - 1) M) (grF V' n M M) := by
    rcases b1 with w | ⟨w1, w2, w3⟩
    · rw [w]; exact a3
    · exact a2 _ w1 (by omega) ((hG _ w1 w2).mpr w3)
  have q2 : Lx (grF V' n M M) (itF (fwS V n) 1 (M - 1) M) := by
    rcases a1 with w | ⟨w1, w2, w3⟩
    · rw [w]; exact b3
    · exact b2 _ w1 (by omega) ((hG _ w1 (by omega)).mp w3)
  unfold Lx at q1 q2
  omega
