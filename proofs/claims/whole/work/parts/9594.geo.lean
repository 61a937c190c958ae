/-! Every sound field can be cut into three-cornered ones. -/
def Tr (ok : Nat → Nat → Prop) : Nat → Nat → Nat → Prop
  | 0, a, b => b = a + 1
  | w + 1, a, b => b = a + 1 ∨ (ok a b ∧ ∃ k, a < k ∧ k < b ∧ Tr ok w a k ∧ Tr ok w k b)
theorem Tr.base {ok : Nat → Nat → Prop} {w a b : Nat} (h : b = a + 1) : Tr ok w a b := by
  cases w with
  | zero => exact h
  | succ w => exact Or.inl h
theorem Tr.up1 {ok : Nat → Nat → Prop} : ∀ {w a b : Nat}, Tr ok w a b → Tr ok (w + 1) a b
  | 0, a, b, h => Or.inl h
  | w + 1, a, b, h => by
    rcases h with h | ⟨h1, k, h2, h3, h4, h5⟩
    · exact Or.inl h
    · exact Or.inr ⟨h1, k, h2, h3, Tr.up1 h4, Tr.up1 h5⟩
theorem Tr.up {ok : Nat → Nat → Prop} {w a b : Nat} (h : Tr ok w a b) : ∀ d, Tr ok (w + d) a b
  | 0 => h
  | d + 1 => (Tr.up h d).up1
def okG (n : Nat) (G : Nat → V3) (a b : Nat) : Prop := (a = 0 ∧ b = n - 1) ∨ StG n G a b
section
variable {n c o : Nat} {G : Nat → V3}
theorem Gd.trI (h : SnG n G) (hg : Gd n G c o) : ∀ (w i j : Nat), i < j → j ≤ o - c → Tr (okG (o - c + 1) (gI G c)) w i j → Tr (okG n G) w (c + i) (c + j)
  | 0, i, j, hij, hj, q => by
    have q : j = i + 1 := q
    exact Tr.base (by omega)
  | w + 1, i, j, hij, hj, q => by
    rcases q with q | ⟨q1, k, q2, q3, q4, q5⟩
    · exact Tr.base (by omega)
    · refine Or.inr ⟨Or.inr ?_, c + k, by omega, by omega, Gd.trI h hg w i k q2 (by omega) q4, Gd.trI h hg w k j q3 hj q5⟩
      rcases q1 with ⟨r1, r2⟩ | r
      · have h1 := hg.1
        rw [r1, r2, show c + 0 = c by omega, show c + (o - c + 1 - 1) = o by omega]
        exact hg.st
      · exact hg.liftI h r
theorem Gd.trO (h : SnG n G) (hg : Gd n G c o) {w0 : Nat} (h0 : Tr (okG n G) w0 c o) : ∀ (w i j : Nat), i < j → j < n - (o - c - 1) → Tr (okG (n - (o - c - 1)) (gO G c (o - c - 1))) w i j → Tr (okG n G) (w0 + w) (oI c (o - c - 1) i) (oI c (o - c - 1) j)
  | w, i, j, hij, hj, q => by
    have one : j = i + 1 → Tr (okG n G) (w0 + w) (oI c (o - c - 1) i) (oI c (o - c - 1) j) := fun e => by
      by_cases ic : i = c
      · have e1 : oI c (o - c - 1) i = c := by unfold oI; split <;> omega
        have e2 : oI c (o - c - 1) j = o := by have := hg.1; unfold oI; split <;> omega
        rw [e1, e2]
        exact h0.up w
      · refine Tr.base ?_
        unfold oI; (repeat' split) <;> omega
    cases w with
    | zero => exact one q
    | succ w =>
      rcases q with q | ⟨q1, k, q2, q3, q4, q5⟩
      · exact one q
      · have mono : ∀ x y, x < y → oI c (o - c - 1) x < oI c (o - c - 1) y := fun x y hxy => by unfold oI; (repeat' split) <;> omega
        refine Or.inr ⟨?_, oI c (o - c - 1) k, mono _ _ q2, mono _ _ q3, Gd.trO h hg h0 w i k q2 (by omega) q4, Gd.trO h hg h0 w k j q3 hj q5⟩
        rcases q1 with ⟨r1, r2⟩ | r
        · left
          have h1 := hg.1
          have h2 := hg.2.1
          constructor
          · unfold oI; split <;> omega
          · unfold oI; split <;> omega
        · exact Or.inr (hg.liftO h r)
end
theorem SnG.tri : ∀ (m n : Nat) (G : Nat → V3), n ≤ m → SnG n G → ∃ w, Tr (okG n G) w 0 (n - 1)
  | 0, n, G, hm, h => by have := h.1; omega
  | m + 1, n, G, hm, h => by
    by_cases h4 : 4 ≤ n
    · obtain ⟨c, o, hg⟩ := h.good h4
      have h1 := hg.1
      have h2 := hg.2.1
      have h3 := hg.2.2.1
      obtain ⟨wI, hI⟩ := SnG.tri m _ _ (by omega) (h.inn hg)
      obtain ⟨wO, hO⟩ := SnG.tri m _ _ (by omega) (h.out hg)
      have t1 := hg.trI h wI 0 (o - c + 1 - 1) (by omega) (by omega) hI
      rw [show c + 0 = c by omega, show c + (o - c + 1 - 1) = o by omega] at t1
      have t2 := hg.trO h t1 wO 0 (n - (o - c - 1) - 1) (by omega) (by omega) hO
      have e1 : oI c (o - c - 1) 0 = 0 := by unfold oI; split <;> omega
      have e2 : oI c (o - c - 1) (n - (o - c - 1) - 1) = n - 1 := by unfold oI; split <;> omega
      rw [e1, e2] at t2
      exact ⟨_, t2⟩
    · have : n = 3 := by have := h.1; omega
      subst this
      exact ⟨1, Or.inr ⟨Or.inl ⟨rfl, rfl⟩, 1, by omega, by omega, rfl, rfl⟩⟩
