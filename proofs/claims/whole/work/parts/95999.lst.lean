/-! The first of the least cuts: the class and the reference say the same. -/
def sO (op : Nat → Bool) (a b : Nat) : Bool := op (10 * a + b)
section
variable {X Y : Nat → Int} {n : Nat}
theorem st0_ne {a b : Nat} (hab : a < b) (hb : b < n) (h : spM X Y n a b = true) : b ≠ a + 1 ∧ b - a ≠ n - 1 := adjM_f hab hb h
theorem sO_st {op : Nat → Bool} (hn : n ≤ 10) (ho : ∀ k, op k = true → stB X Y n k = true) {a b : Nat} (hab : a < b) (hb : b < n) (h : sO op a b = true) : spM X Y n a b = true := by
  have := ho _ h
  rw [stB_at hn hab hb] at this
  exact this
theorem cut0 (hn : n ≤ 10) (h : SndF n X Y) : (pt (spM X Y n) (lgC X Y) n 0 (n - 1)).1 ≠ 0 ∧ (cuW X Y n).2 = (pt (spM X Y n) (lgC X Y) n 0 (n - 1)).2.1 ∧ (cuW X Y n).2 ≤ 100000 := by
  have n3 := h.1
  have c := cut_eq (st := spM X Y n) (op := stB X Y n) (lg := lgC X Y) hn (fun a b q1 q2 => (lgC_bd h.2.1 (by omega) q2).1) (fun a b q1 q2 => stB_at hn q1 q2) (fun a b q1 q2 q3 => adjM_f q1 q2 q3) n 0 (n - 1) (by omega) (by omega) (by omega)
  have w := core_C n X Y hn h
  unfold cuW at w ⊢
  obtain ⟨c1, c2, c3, c4⟩ := c
  have p0 : (pt (spM X Y n) (lgC X Y) n 0 (n - 1)).1 ≠ 0 := by rw [c1]; exact w
  exact ⟨p0, c2 p0, by rw [c2 p0]; exact c4⟩
theorem best0 (hn : n ≤ 10) (h : SndF n X Y) : Tg (spM X Y n) (lgC X Y) n n 0 (n - 1) (cuW X Y n).2 (pt (spM X Y n) (lgC X Y) n 0 (n - 1)).2.2 ∧ ∀ L F, Tg (spM X Y n) (lgC X Y) n n 0 (n - 1) L F → (cuW X Y n).2 < L ∨ ((cuW X Y n).2 = L ∧ F ≤ (pt (spM X Y n) (lgC X Y) n 0 (n - 1)).2.2) := by
  have n3 := h.1
  obtain ⟨p0, p1, _⟩ := cut0 hn h
  have b := pt_best (st := spM X Y n) (lg := lgC X Y) hn (fun a b q1 q2 q3 => adjM_f q1 q2 q3) n 0 (n - 1) (by omega) (by omega) (by omega)
  rw [p1]
  exact b.2 p0
theorem cu_due (hn : n ≤ 10) (h : SndF n X Y) {op : Nat → Bool} (ho : ∀ k, op k = true → stB X Y n k = true) : (cu op (lgC X Y) n 0 (n - 1)).2 = (cuW X Y n).2 ↔ ∃ F, Tg (sO op) (lgC X Y) n n 0 (n - 1) (cuW X Y n).2 F := by
  have n3 := h.1
  obtain ⟨_, _, d1⟩ := cut0 hn h
  obtain ⟨_, bst⟩ := best0 hn h
  have hs : ∀ a b, a < b → b < n → sO op a b = true → b ≠ a + 1 ∧ b - a ≠ n - 1 := fun a b q1 q2 q3 => adjM_f q1 q2 (sO_st hn ho q1 q2 q3)
  have c := cut_eq (st := sO op) (op := op) (lg := lgC X Y) hn (fun a b q1 q2 => (lgC_bd h.2.1 (by omega) q2).1) (fun a b q1 q2 => rfl) hs n 0 (n - 1) (by omega) (by omega) (by omega)
  have b := pt_best (st := sO op) (lg := lgC X Y) hn hs n 0 (n - 1) (by omega) (by omega) (by omega)
  obtain ⟨c1, c2, c3, c4⟩ := c
  constructor
  · intro e
    by_cases z : (pt (sO op) (lgC X Y) n 0 (n - 1)).1 = 0
    · have := c3 z
      omega
    · have e2 := c2 z
      refine ⟨(pt (sO op) (lgC X Y) n 0 (n - 1)).2.2, ?_⟩
      have := (b.2 z).1
      rw [← e2, e] at this
      exact this
  · rintro ⟨F, t⟩
    have z : (pt (sO op) (lgC X Y) n 0 (n - 1)).1 ≠ 0 := fun z => b.1 z _ _ t
    have e2 := c2 z
    obtain ⟨bm, bb⟩ := b.2 z
    have u1 := bb _ _ t
    have t2 := Tg.more (st := spM X Y n) n 0 (n - 1) _ _ (by omega) (by omega) (fun x y q1 q2 q3 => sO_st hn ho q1 q2 q3) (fun x y q1 q2 q3 => (adjM_f q1 q2 q3).2) bm
    have u2 := bst _ _ t2
    omega
/-- how far the reference has come: s pairs looked at, open pairs op, chosen ch; F the class's set -/
def Gr (X Y : Nat → Int) (n F s : Nat) (op : Nat → Bool) (ch : List Nat) : Prop := (∀ k, op k = true → stB X Y n k = true) ∧ (∀ k, k < 100 → mbS F k = true → op k = true) ∧ (∀ k, k < s → op k = true → mbS F k = true) ∧ (∀ k, k < s → mbS F k = true → ∀ j, j < 100 → op j = true → crM k j = false ∧ crM j k = false) ∧ ch = mll (mbS F) s
theorem stB_t {k : Nat} (h : stB X Y n k = true) : k / 10 < k % 10 ∧ k % 10 < n ∧ spM X Y n (k / 10) (k % 10) = true := by
  unfold stB at h
  rw [Bool.and_eq_true, decide_eq_true_eq] at h
  exact ⟨h.1.1, h.1.2, h.2⟩
theorem crM_f {s k : Nat} : crM s k = false ↔ ¬ ((s / 10 < k / 10 ∧ k / 10 < s % 10 ∧ s % 10 < k % 10) ∨ (k / 10 < s / 10 ∧ s / 10 < k % 10 ∧ k % 10 < s % 10)) := by unfold crM; rw [decide_eq_false_iff_not]
theorem crM_sw (s k : Nat) : crM k s = crM s k := by
  unfold crM
  exact decide_eq_decide.mpr (by constructor <;> rintro (q | q) <;> omega)
theorem Gr.step (hn : n ≤ 10) (h : SndF n X Y) {F s : Nat} {op : Nat → Bool} {ch : List Nat} (hs : s < 100) (eF : F = (pt (spM X Y n) (lgC X Y) n 0 (n - 1)).2.2) (g : Gr X Y n F s op ch) (hl : ch.length < n - 3) : Gr X Y n F (s + 1) (lsS (lgC X Y) n (cuW X Y n).2 s (op, ch)).1 (lsS (lgC X Y) n (cuW X Y n).2 s (op, ch)).2 := by
  obtain ⟨i1, i2, i3, i4, i5⟩ := id g
  have n3 := h.1
  obtain ⟨b1, b2⟩ := best0 hn h
  rw [← eF] at b1 b2
  have mem : ∀ k, k < 100 → mbS F k = true → k / 10 < k % 10 ∧ k % 10 < n ∧ spM X Y n (k / 10) (k % 10) = true := fun k hk m => stB_t (i1 k (i2 k hk m))
  unfold lsS
  by_cases os : op s = true
  · rw [if_pos ⟨hl, os⟩]
    obtain ⟨v1, v2, v3⟩ := stB_t (i1 s os)
    have ho' : ∀ k, (fun k => op k && !crM s k) k = true → stB X Y n k = true := fun k q => by
      rw [Bool.and_eq_true] at q; exact i1 k q.1
    have due := cu_due hn h ho'
    by_cases m : mbS F s = true
    · -- it belongs to the class's set
      have t : Tg (sO (fun k => op k && !crM s k)) (lgC X Y) n n 0 (n - 1) (cuW X Y n).2 F := by
        refine Tg.less (st := spM X Y n) n 0 (n - 1) _ _ (by omega) (by omega) (by omega) (fun x y q1 q2 q3 => sO_st hn ho' q1 q2 q3) b1 (fun x y q1 q2 q3 => ?_)
        have my : mbS F (10 * x + y) = true := by
          rw [mbS_t, show (10 * x + y) / 10 = x by omega, show (10 * x + y) % 10 = y by omega]
          exact ⟨q1, q3⟩
        show (op (10 * x + y) && !crM s (10 * x + y)) = true
        rw [i2 _ (by omega) my, Bool.true_and, Bool.not_eq_true', crM_f, show (10 * x + y) / 10 = x by omega, show (10 * x + y) % 10 = y by omega]
        have mm := (mbS_t.mp m).2
        have n1 := Tg.nocr n 0 (n - 1) _ _ (by omega) (by omega) b1 (s / 10) (s % 10) x y v1 (by omega) q1 q2 mm q3
        have n2 := Tg.nocr n 0 (n - 1) _ _ (by omega) (by omega) b1 x y (s / 10) (s % 10) q1 q2 v1 (by omega) q3 mm
        omega
      rw [if_pos (due.mpr ⟨F, t⟩)]
      have key : ∀ k, k < 100 → mbS F k = true → crM s k = false := fun k hk mk => by
        obtain ⟨w1, w2, w3⟩ := mem k hk mk
        have mm := (mbS_t.mp m).2
        have mm2 := (mbS_t.mp mk).2
        have n1 := Tg.nocr n 0 (n - 1) _ _ (by omega) (by omega) b1 (s / 10) (s % 10) (k / 10) (k % 10) v1 (by omega) w1 (by omega) mm mm2
        have n2 := Tg.nocr n 0 (n - 1) _ _ (by omega) (by omega) b1 (k / 10) (k % 10) (s / 10) (s % 10) w1 (by omega) v1 (by omega) mm2 mm
        rw [crM_f]
        omega
      refine ⟨ho', fun k hk mk => ?_, fun k hk q => ?_, fun k hk mk j hj q => ?_, ?_⟩
      · dsimp only
        rw [i2 k hk mk, key k hk mk]; rfl
      · dsimp only at q
        rw [Bool.and_eq_true] at q
        by_cases e : k = s
        · rw [e]; exact m
        · exact i3 k (by omega) q.1
      · dsimp only at q
        rw [Bool.and_eq_true, Bool.not_eq_true'] at q
        by_cases e : k = s
        · rw [e, crM_sw s j]; exact ⟨q.2, q.2⟩
        · exact i4 k (by omega) mk j hj q.1
      · dsimp only
        rw [mll, if_pos m, ← i5]
    · -- it does not: no least cut holds it
      have no : ¬ ∃ F', Tg (sO (fun k => op k && !crM s k)) (lgC X Y) n n 0 (n - 1) (cuW X Y n).2 F' := by
        rintro ⟨F', t⟩
        have t0 := Tg.more (st := spM X Y n) n 0 (n - 1) _ _ (by omega) (by omega) (fun x y q1 q2 q3 => sO_st hn ho' q1 q2 q3) (fun x y q1 q2 q3 => (adjM_f q1 q2 q3).2) t
        -- what belongs to F' is open
        have op' : ∀ x y, x < y → y < 10 → F'.testBit (62 - rank x y) = true → op (10 * x + y) = true ∧ crM s (10 * x + y) = false := fun x y q1 q2 q3 => by
          have := (Tg.mem (by omega) (by omega) t q1 q2 q3).2.2
          unfold sO at this
          rw [Bool.and_eq_true, Bool.not_eq_true'] at this
          exact this
        have full : ∀ x y, x < y → y < n → spM X Y n x y = true → (∀ u v, u < v → v < 10 → F'.testBit (62 - rank u v) = true → crM (10 * x + y) (10 * u + v) = false) → F'.testBit (62 - rank x y) = true := fun x y q1 q2 q3 q4 => by
          obtain ⟨w1, w2⟩ := st0_ne q1 q2 q3
          refine Tg.full n 0 (n - 1) _ _ (by omega) (by omega) (by omega) t x y (by omega) (by omega) (by omega) (by omega) (fun u v u1 u2 u3 => ?_)
          have c := q4 u v u1 u2 u3
          rw [crM_f, show (10 * x + y) / 10 = x by omega, show (10 * x + y) % 10 = y by omega, show (10 * u + v) / 10 = u by omega, show (10 * u + v) % 10 = v by omega] at c
          omega
        have es : 10 * (s / 10) + s % 10 = s := by omega
        have inS : F'.testBit (62 - rank (s / 10) (s % 10)) = true := full _ _ v1 v2 v3 (fun u v u1 u2 u3 => by rw [es]; exact (op' u v u1 u2 u3).2)
        have outS : F.testBit (62 - rank (s / 10) (s % 10)) = false := by
          refine Bool.eq_false_iff.mpr fun q => m (mbS_t.mpr ⟨v1, q⟩)
        have hi : ∀ j, 62 - rank (s / 10) (s % 10) < j → F.testBit j = F'.testBit j := fun j hj => by
          rw [Bool.eq_iff_iff]
          constructor
          · intro q
            obtain ⟨x, y, h1, h2, h3, h4, rfl⟩ := Tg.bit n 0 (n - 1) _ _ (by omega) b1 j q
            have r44 := rank_44 h2 (show y < 10 by omega)
            have rs44 := rank_44 v1 (show s % 10 < 10 by omega)
            have lt := (rank_lt h2 (show y < 10 by omega) v1 (by omega)).mp (by omega)
            have my : mbS F (10 * x + y) = true := by
              rw [mbS_t, show (10 * x + y) / 10 = x by omega, show (10 * x + y) % 10 = y by omega]
              exact ⟨h2, q⟩
            exact full x y h2 (by omega) h4 (fun u v u1 u2 u3 => (i4 (10 * x + y) (by omega) my (10 * u + v) (by omega) (op' u v u1 u2 u3).1).1)
          · intro q
            obtain ⟨x, y, h1, h2, h3, h4, rfl⟩ := Tg.bit n 0 (n - 1) _ _ (by omega) t j q
            have r44 := rank_44 h2 (show y < 10 by omega)
            have rs44 := rank_44 v1 (show s % 10 < 10 by omega)
            have lt := (rank_lt h2 (show y < 10 by omega) v1 (by omega)).mp (by omega)
            have w := i3 (10 * x + y) (by omega) (op' x y h2 (by omega) q).1
            have := (mbS_t.mp w).2
            rw [show (10 * x + y) / 10 = x by omega, show (10 * x + y) % 10 = y by omega] at this
            exact this
        have lt := lt_bit outS inS hi
        have := b2 _ _ t0
        omega
      rw [if_neg (fun z => no (due.mp z))]
      refine ⟨fun k q => ?_, fun k hk mk => ?_, fun k hk q => ?_, fun k hk mk j hj q => ?_, ?_⟩
      · dsimp only at q
        rw [Bool.and_eq_true] at q
        exact i1 k q.1
      · dsimp only
        have e : k ≠ s := fun z => m (by rw [← z]; exact mk)
        rw [i2 k hk mk, decide_eq_false e]; rfl
      · dsimp only at q
        rw [Bool.and_eq_true, Bool.not_eq_true', decide_eq_false_iff_not] at q
        exact i3 k (by omega) q.1
      · dsimp only at q
        rw [Bool.and_eq_true] at q
        have e : k ≠ s := fun z => m (by rw [← z]; exact mk)
        exact i4 k (by omega) mk j hj q.1
      · dsimp only
        rw [mll, if_neg m]; exact i5
  · rw [if_neg (fun z => os z.2)]
    have m : ¬ mbS F s = true := fun z => os (i2 s hs z)
    refine ⟨i1, i2, fun k hk q => ?_, fun k hk mk j hj q => ?_, ?_⟩
    · have e : k ≠ s := fun z => os (by rw [← z]; exact q)
      exact i3 k (by omega) q
    · have e : k ≠ s := fun z => m (by rw [← z]; exact mk)
      exact i4 k (by omega) mk j hj q
    · show ch = _
      rw [mll, if_neg m]; exact i5
theorem ls_run (hn : n ≤ 10) (h : SndF n X Y) {F : Nat} (eF : F = (pt (spM X Y n) (lgC X Y) n 0 (n - 1)).2.2) (ct : cn (mbS F) 100 = n - 3) : ∀ (d s : Nat) (t : (Nat → Bool) × List Nat), s + d = 100 → Gr X Y n F s t.1 t.2 → (itF (lsS (lgC X Y) n (cuW X Y n).2) s d t).2 = mll (mbS F) 100
  | 0, s, t, hd, g => by
    rw [itF, g.2.2.2.2, show s = 100 by omega]
  | d + 1, s, t, hd, g => by
    by_cases c : t.2.length < n - 3
    · rw [itF]
      exact ls_run hn h eF ct d (s + 1) _ (by omega) (g.step hn h (by omega) eF c)
    · rw [lsS_stop (d + 1) s t (by omega)]
      have e := g.2.2.2.2
      rw [e, mll_len] at c
      rw [e]
      have w := mll_all (mbS F) s (d + 1) (by rw [hd]; omega)
      rw [hd] at w
      exact w.symm
theorem ls_eq (hn : n ≤ 10) (h : SndF n X Y) : lsL X Y n = mll (mbS (pt (spM X Y n) (lgC X Y) n 0 (n - 1)).2.2) 100 ∧ cn (mbS (pt (spM X Y n) (lgC X Y) n 0 (n - 1)).2.2) 100 = n - 3 ∧ (∀ k, k < 100 → mbS (pt (spM X Y n) (lgC X Y) n 0 (n - 1)).2.2 k = true → k % 10 < n) := by
  have n3 := h.1
  obtain ⟨b1, _⟩ := best0 hn h
  have s0 : spM X Y n 0 (n - 1) ≠ true := fun z => (adjM_f (by omega) (by omega) z).2 (by omega)
  have ct := Tg.cnt n 0 (n - 1) _ _ (by omega) (by omega) (by omega) b1
  rw [if_neg (show ¬ (spM X Y n 0 (n - 1) = true ∨ n - 1 = 0 + 1) from fun z => z.elim s0 (by omega))] at ct
  have ct2 : cn (mbS (pt (spM X Y n) (lgC X Y) n 0 (n - 1)).2.2) 100 = n - 3 := by omega
  have mem : ∀ k, k < 100 → mbS (pt (spM X Y n) (lgC X Y) n 0 (n - 1)).2.2 k = true → k % 10 < n ∧ stB X Y n k = true := fun k hk m => by
    obtain ⟨m1, m2⟩ := mbS_t.mp m
    obtain ⟨q1, q2, q3⟩ := Tg.mem (by omega) (by omega) b1 m1 (by omega) m2
    refine ⟨by omega, ?_⟩
    unfold stB
    rw [decide_eq_true ⟨m1, by omega⟩, q3]; rfl
  refine ⟨?_, ct2, fun k hk m => (mem k hk m).1⟩
  unfold lsL
  exact ls_run hn h rfl ct2 100 0 _ (by omega) ⟨fun k q => q, fun k hk m => (mem k hk m).2, fun k hk => by omega, fun k hk => by omega, rfl⟩
end
