/-! The first of the least cuts: what a cut's set is like. -/
section
variable {st st' : Nat → Nat → Bool} {lg : Nat → Nat → Nat} {n : Nat}
theorem Tg.mem {w a b L F x y : Nat} (hb : b < 10) (hab : a < b) (h : Tg st lg n w a b L F) (hxy : x < y) (hy : y < 10) (m : F.testBit (62 - rank x y) = true) : a ≤ x ∧ y ≤ b ∧ st x y = true := by
  obtain ⟨x', y', h1, h2, h3, h4, h5⟩ := Tg.bit w a b L F hab h _ m
  obtain ⟨rfl, rfl⟩ := rank_inj hxy hy h2 (by omega) h5
  exact ⟨h1, h3, h4⟩
/-- an inner part is a strip or a fence -/
theorem Tg.sub {w a b L F : Nat} (hab : a < b) (hw : b - a < n - 1) (h : Tg st lg n w a b L F) : b = a + 1 ∨ (st a b = true ∧ F.testBit (62 - rank a b) = true) := by
  cases w with
  | zero => exact absurd h id
  | succ w =>
    rcases h with ⟨e, _⟩ | ⟨_, al, k, k1, k2, L1, F1, L2, F2, t1, t2, _, rfl⟩
    · exact Or.inl e
    · right
      have s : st a b = true := by
        rcases al with q | q
        · exact q
        · omega
      refine ⟨s, ?_⟩
      rw [Nat.testBit_or, (own_test a b _).mpr ⟨s, rfl⟩, Bool.or_true]
/-- no two cross -/
theorem Tg.nocr : ∀ (w a b L F : Nat), b < 10 → a < b → Tg st lg n w a b L F → ∀ x y u v, x < y → y < 10 → u < v → v < 10 → F.testBit (62 - rank x y) = true → F.testBit (62 - rank u v) = true → ¬ (x < u ∧ u < y ∧ y < v)
  | 0, a, b, L, F, _, _, h, x, y, u, v, _, _, _, _, _, _ => absurd h id
  | w + 1, a, b, L, F, hb, hab, h, x, y, u, v, hxy, hy, huv, hv, m1, m2 => by
    have i1 := Tg.mem hb hab h hxy hy m1
    have i2 := Tg.mem hb hab h huv hv m2
    rcases h with ⟨_, _, rfl⟩ | ⟨_, _, k, k1, k2, L1, F1, L2, F2, t1, t2, _, rfl⟩
    · simp at m1
    · rw [Nat.testBit_or, Nat.testBit_or, Bool.or_eq_true, Bool.or_eq_true, own_test] at m1 m2
      have own : ∀ {p q : Nat}, p < q → q < 10 → 62 - rank a b = 62 - rank p q → p = a ∧ q = b := fun h1 h2 e => by
        have := rank_inj hab hb h1 h2 e
        omega
      rcases m1 with (q | q) | ⟨_, q⟩
      · have j1 := Tg.mem (by omega) k1 t1 hxy hy q
        rcases m2 with (r | r) | ⟨_, r⟩
        · exact Tg.nocr w a k L1 F1 (by omega) k1 t1 x y u v hxy hy huv hv q r
        · have j2 := Tg.mem hb k2 t2 huv hv r
          omega
        · have := own huv hv r
          omega
      · have j1 := Tg.mem hb k2 t2 hxy hy q
        rcases m2 with (r | r) | ⟨_, r⟩
        · have j2 := Tg.mem (by omega) k1 t1 huv hv r
          omega
        · exact Tg.nocr w k b L2 F2 hb k2 t2 x y u v hxy hy huv hv q r
        · have := own huv hv r
          omega
      · have := own hxy hy q
        omega
/-- what is not crossed belongs to it -/
theorem Tg.full : ∀ (w a b L F : Nat), b < 10 → b < n → a < b → Tg st lg n w a b L F → ∀ x y, a ≤ x → y ≤ b → x + 2 ≤ y → ¬ (x = a ∧ y = b) → (∀ u v, u < v → v < 10 → F.testBit (62 - rank u v) = true → ¬ (x < u ∧ u < y ∧ y < v) ∧ ¬ (u < x ∧ x < v ∧ v < y)) → F.testBit (62 - rank x y) = true
  | 0, a, b, L, F, _, _, _, h, x, y, _, _, _, _, _ => absurd h id
  | w + 1, a, b, L, F, hb, hbn, hab, h, x, y, hx, hy, hxy, hne, hc => by
    rcases h with ⟨e, _, rfl⟩ | ⟨_, _, k, k1, k2, L1, F1, L2, F2, t1, t2, _, rfl⟩
    · omega
    · have sb1 := Tg.sub k1 (by omega) t1
      have sb2 := Tg.sub k2 (by omega) t2
      have c1 : ∀ j, F1.testBit j = true → ((F1 ||| F2) ||| (if st a b = true then bt a b else 0)).testBit j = true := fun j q => by rw [Nat.testBit_or, Nat.testBit_or, q]; rfl
      have c2 : ∀ j, F2.testBit j = true → ((F1 ||| F2) ||| (if st a b = true then bt a b else 0)).testBit j = true := fun j q => by rw [Nat.testBit_or, Nat.testBit_or, q, Bool.or_true]; rfl
      by_cases y1 : y ≤ k
      · refine c1 _ ?_
        by_cases e : x = a ∧ y = k
        · obtain ⟨rfl, rfl⟩ := e
          rcases sb1 with q | q
          · omega
          · exact q.2
        · exact Tg.full w a k L1 F1 (by omega) (by omega) k1 t1 x y hx y1 hxy e (fun u v q1 q2 q3 => hc u v q1 q2 (c1 _ q3))
      · by_cases x1 : k ≤ x
        · refine c2 _ ?_
          by_cases e : x = k ∧ y = b
          · obtain ⟨rfl, rfl⟩ := e
            rcases sb2 with q | q
            · omega
            · exact q.2
          · exact Tg.full w k b L2 F2 hb hbn k2 t2 x y x1 hy hxy e (fun u v q1 q2 q3 => hc u v q1 q2 (c2 _ q3))
        · exfalso
          by_cases xa : a < x
          · rcases sb1 with q | q
            · omega
            · exact (hc a k (by omega) (by omega) (c1 _ q.2)).2 ⟨xa, by omega, by omega⟩
          · rcases sb2 with q | q
            · omega
            · exact (hc k b (by omega) hb (c2 _ q.2)).1 ⟨by omega, by omega, by omega⟩
/-- the same cut, over fewer strips -/
theorem Tg.less : ∀ (w a b L F : Nat), b < 10 → b < n → a < b → (∀ x y, x < y → y < n → st' x y = true → st x y = true) → Tg st lg n w a b L F → (∀ x y, x < y → y < 10 → F.testBit (62 - rank x y) = true → st' x y = true) → Tg st' lg n w a b L F
  | 0, a, b, L, F, _, _, _, _, h, _ => absurd h id
  | w + 1, a, b, L, F, hb, hbn, hab, hs, h, hm => by
    rcases h with q | ⟨e, al, k, k1, k2, L1, F1, L2, F2, t1, t2, e1, e2⟩
    · exact Or.inl q
    · have own : st a b = true ↔ st' a b = true := by
        constructor
        · intro q
          refine hm a b hab hb ?_
          rw [e2, Nat.testBit_or, (own_test a b _).mpr ⟨q, rfl⟩, Bool.or_true]
        · exact hs a b hab hbn
      have i1 : (if st' a b = true then lg a b else 0) = (if st a b = true then lg a b else 0) := by
        by_cases q : st a b = true
        · rw [if_pos q, if_pos (own.mp q)]
        · rw [if_neg q, if_neg (fun z => q (own.mpr z))]
      have i2 : (if st' a b = true then bt a b else 0) = (if st a b = true then bt a b else 0) := by
        by_cases q : st a b = true
        · rw [if_pos q, if_pos (own.mp q)]
        · rw [if_neg q, if_neg (fun z => q (own.mpr z))]
      refine Or.inr ⟨e, ?_, k, k1, k2, L1, F1, L2, F2, Tg.less w a k L1 F1 (by omega) (by omega) k1 hs t1 (fun x y q1 q2 q3 => hm x y q1 q2 ?_), Tg.less w k b L2 F2 hb hbn k2 hs t2 (fun x y q1 q2 q3 => hm x y q1 q2 ?_), by rw [i1]; exact e1, by rw [i2]; exact e2⟩
      · rcases al with q | q
        · exact Or.inl (own.mp q)
        · exact Or.inr q
      · rw [e2, Nat.testBit_or, Nat.testBit_or, q3]; rfl
      · rw [e2, Nat.testBit_or, Nat.testBit_or, q3, Bool.or_true]; rfl
/-- the same cut, over more strips -/
theorem Tg.more : ∀ (w a b L F : Nat), b < n → a < b → (∀ x y, x < y → y < n → st' x y = true → st x y = true) → (∀ x y, x < y → y < n → st x y = true → y - x ≠ n - 1) → Tg st' lg n w a b L F → Tg st lg n w a b L F
  | 0, a, b, L, F, _, _, _, _, h => absurd h id
  | w + 1, a, b, L, F, hbn, hab, hs, hw, h => by
    rcases h with q | ⟨e, al, k, k1, k2, L1, F1, L2, F2, t1, t2, e1, e2⟩
    · exact Or.inl q
    · have own : st a b = true ↔ st' a b = true := by
        constructor
        · intro q
          rcases al with z | z
          · exact z
          · exact absurd z (hw a b hab hbn q)
        · exact hs a b hab hbn
      have i1 : (if st' a b = true then lg a b else 0) = (if st a b = true then lg a b else 0) := by
        by_cases q : st a b = true
        · rw [if_pos q, if_pos (own.mp q)]
        · rw [if_neg q, if_neg (fun z => q (own.mpr z))]
      have i2 : (if st' a b = true then bt a b else 0) = (if st a b = true then bt a b else 0) := by
        by_cases q : st a b = true
        · rw [if_pos q, if_pos (own.mp q)]
        · rw [if_neg q, if_neg (fun z => q (own.mpr z))]
      refine Or.inr ⟨e, ?_, k, k1, k2, L1, F1, L2, F2, Tg.more w a k L1 F1 (by omega) k1 hs hw t1, Tg.more w k b L2 F2 hbn k2 hs hw t2, by rw [← i1]; exact e1, by rw [← i2]; exact e2⟩
      rcases al with q | q
      · exact Or.inl (own.mpr q)
      · exact Or.inr q
/-- the set, by the pairs' numbers -/
def mbS (F s : Nat) : Bool := decide (s / 10 < s % 10) && F.testBit (62 - rank (s / 10) (s % 10))
theorem mbS_t {F s : Nat} : mbS F s = true ↔ s / 10 < s % 10 ∧ F.testBit (62 - rank (s / 10) (s % 10)) = true := by unfold mbS; rw [Bool.and_eq_true, decide_eq_true_eq]
theorem cn_or {p q : Nat → Bool} : ∀ {m : Nat}, (∀ k, k < m → ¬ (p k = true ∧ q k = true)) → cn (fun k => p k || q k) m = cn p m + cn q m
  | 0, _ => rfl
  | m + 1, h => by
    rw [cn, cn, cn, cn_or (fun k hk => h k (by omega))]
    have := h m (by omega)
    cases hp : p m <;> cases hq : q m <;> simp [hp, hq] at this ⊢ <;> omega
theorem cn_c {p q : Nat → Bool} : ∀ {m : Nat}, (∀ k, k < m → p k = q k) → cn p m = cn q m
  | 0, _ => rfl
  | m + 1, h => by rw [cn, cn, cn_c (fun k hk => h k (by omega)), h m (by omega)]
theorem cn_one (s : Nat) : ∀ m, cn (fun k => decide (k = s)) m = if s < m then 1 else 0
  | 0 => rfl
  | m + 1 => by
    rw [cn, cn_one s m]
    by_cases c : m = s
    · rw [if_neg (by omega), if_pos (by simp [c]), if_pos (by omega)]
    · rw [if_neg (show ¬ decide (m = s) = true by simp [c])]
      by_cases d : s < m
      · rw [if_pos d, if_pos (by omega)]
      · rw [if_neg d, if_neg (by omega)]
theorem cn_zero : ∀ m, cn (fun _ => false) m = 0
  | 0 => rfl
  | m + 1 => by rw [cn, cn_zero m]; rfl
theorem Tg.cnt : ∀ (w a b L F : Nat), b < 10 → b < n → a < b → Tg st lg n w a b L F → cn (mbS F) 100 + (if st a b = true ∨ b = a + 1 then 1 else 2) = b - a
  | 0, a, b, L, F, _, _, _, h => absurd h id
  | w + 1, a, b, L, F, hb, hbn, hab, h => by
    rcases h with ⟨e, _, rfl⟩ | ⟨e, al, k, k1, k2, L1, F1, L2, F2, t1, t2, _, rfl⟩
    · rw [if_pos (Or.inr e), cn_c (q := fun _ => false) (fun k _ => by unfold mbS; simp), cn_zero]
      omega
    · have w1 := Tg.cnt w a k L1 F1 (by omega) (by omega) k1 t1
      have w2 := Tg.cnt w k b L2 F2 hb hbn k2 t2
      rw [if_pos (by rcases Tg.sub k1 (by omega) t1 with q | q; exact Or.inr q; exact Or.inl q.1)] at w1
      rw [if_pos (by rcases Tg.sub k2 (by omega) t2 with q | q; exact Or.inr q; exact Or.inl q.1)] at w2
      have e1 : cn (mbS ((F1 ||| F2) ||| (if st a b = true then bt a b else 0))) 100 = cn (fun s => (mbS F1 s || mbS F2 s) || mbS (if st a b = true then bt a b else 0) s) 100 := cn_c (fun s _ => by
        unfold mbS
        rw [Nat.testBit_or, Nat.testBit_or]
        cases decide (s / 10 < s % 10) <;> rfl)
      have own : ∀ s, s < 100 → (mbS (if st a b = true then bt a b else 0) s = true ↔ (st a b = true ∧ s = 10 * a + b)) := fun s hs => by
        rw [mbS_t, own_test]
        constructor
        · rintro ⟨q1, q2, q3⟩
          have := rank_inj hab hb q1 (by omega) q3
          exact ⟨q2, by omega⟩
        · rintro ⟨q1, rfl⟩
          rw [show (10 * a + b) / 10 = a by omega, show (10 * a + b) % 10 = b by omega]
          exact ⟨hab, q1, rfl⟩
      rw [e1, cn_or (fun s hs z => ?_), cn_or (fun s hs z => ?_)]
      · by_cases q : st a b = true
        · rw [if_pos (Or.inl q)]
          have e2 : cn (mbS (if st a b = true then bt a b else 0)) 100 = 1 := by
            rw [cn_c (q := fun s => decide (s = 10 * a + b)) (fun s hs => ?_), cn_one, if_pos (by omega)]
            rw [Bool.eq_iff_iff, own s hs, decide_eq_true_eq]
            exact ⟨fun z => z.2, fun z => ⟨q, z⟩⟩
          omega
        · rw [if_neg (show ¬ (st a b = true ∨ b = a + 1) from fun z => z.elim q e)]
          have e2 : cn (mbS (if st a b = true then bt a b else 0)) 100 = 0 := by
            rw [cn_c (q := fun _ => false) (fun s hs => ?_), cn_zero]
            rw [← Bool.not_eq_true, own s hs]
            exact fun z => q z.1
          omega
      · obtain ⟨z1, z2⟩ := z
        rw [mbS_t] at z1 z2
        have j1 := Tg.mem (by omega) k1 t1 z1.1 (by omega) z1.2
        have j2 := Tg.mem hb k2 t2 z2.1 (by omega) z2.2
        omega
      · obtain ⟨z1, z2⟩ := z
        obtain ⟨_, z3⟩ := (own s hs).mp z2
        rw [Bool.or_eq_true, mbS_t, mbS_t] at z1
        rcases z1 with z1 | z1
        · have j1 := Tg.mem (by omega) k1 t1 z1.1 (by omega) z1.2
          omega
        · have j2 := Tg.mem hb k2 t2 z1.1 (by omega) z1.2
          omega
end
/-- the members in their order -/
def mll (p : Nat → Bool) : Nat → List Nat
  | 0 => []
  | s + 1 => if p s = true then mll p s ++ [s] else mll p s
theorem mll_len (p : Nat → Bool) : ∀ s, (mll p s).length = cn p s
  | 0 => rfl
  | s + 1 => by
    rw [mll, cn]
    by_cases c : p s = true
    · rw [if_pos c, if_pos c, List.length_append, mll_len p s]; rfl
    · rw [if_neg c, if_neg c, mll_len p s]; rfl
theorem cn_up (p : Nat → Bool) (s : Nat) : ∀ d, cn p s ≤ cn p (s + d)
  | 0 => Nat.le_refl _
  | d + 1 => by
    have := cn_up p s d
    rw [← Nat.add_assoc, cn]
    omega
theorem mll_all (p : Nat → Bool) (s : Nat) : ∀ d, cn p (s + d) ≤ cn p s → mll p (s + d) = mll p s
  | 0, _ => rfl
  | d + 1, h => by
    rw [← Nat.add_assoc] at h ⊢
    rw [cn] at h
    have := cn_up p s d
    by_cases c : p (s + d) = true
    · rw [if_pos c] at h; omega
    · rw [if_neg c] at h
      rw [mll, if_neg c, mll_all p s d (by omega)]
theorem mll_get (p : Nat → Bool) {s : Nat} (hs : p s = true) : ∀ t, s < t → (mll p t).getD (cn p s) 0 = s
  | 0, h => by omega
  | t + 1, h => by
    rw [mll]
    by_cases e : s = t
    · subst e
      rw [if_pos hs, List.getD_eq_getElem?_getD, List.getElem?_append_right (by rw [mll_len]; exact Nat.le_refl _), mll_len, Nat.sub_self]
      rfl
    · have w := mll_get p hs t (by omega)
      by_cases c : p t = true
      · rw [if_pos c, List.getD_eq_getElem?_getD, List.getElem?_append_left (by
          rw [mll_len]
          obtain ⟨d, rfl⟩ : ∃ d, t = s + 1 + d := ⟨t - (s + 1), by omega⟩
          have := cn_up p (s + 1) d
          rw [cn, if_pos hs] at this
          omega), ← List.getD_eq_getElem?_getD]
        exact w
      · rw [if_neg c]; exact w
theorem cn_has (p : Nat → Bool) (z : Nat) : ∀ t, z < cn p t → ∃ s, s < t ∧ p s = true ∧ cn p s = z
  | 0, h => by rw [cn] at h; omega
  | t + 1, h => by
    rw [cn] at h
    by_cases c : z < cn p t
    · obtain ⟨s, h1, h2⟩ := cn_has p z t c
      exact ⟨s, by omega, h2⟩
    · by_cases d : p t = true
      · rw [if_pos d] at h
        exact ⟨t, by omega, d, by omega⟩
      · rw [if_neg d] at h; omega
