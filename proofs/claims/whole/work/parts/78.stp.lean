/-! Strips: the class and the reference say the same of a sound field. -/
theorem meM_sw (X Y : Nat → Int) (a b c d : Nat) : meM X Y a b c d = meM X Y c d a b := by
  unfold meM
  rw [Bool.eq_iff_iff]
  simp only [Bool.or_eq_true, Bool.and_eq_true]
  constructor
  · rintro ((((q | q) | q) | q) | q)
    · exact Or.inl (Or.inl (Or.inr q))
    · exact Or.inl (Or.inr q)
    · exact Or.inl (Or.inl (Or.inl (Or.inl q)))
    · exact Or.inl (Or.inl (Or.inl (Or.inr q)))
    · exact Or.inr ⟨q.2, q.1⟩
  · rintro ((((q | q) | q) | q) | q)
    · exact Or.inl (Or.inl (Or.inr q))
    · exact Or.inl (Or.inr q)
    · exact Or.inl (Or.inl (Or.inl (Or.inl q)))
    · exact Or.inl (Or.inl (Or.inl (Or.inr q)))
    · exact Or.inr ⟨q.2, q.1⟩
/-- a sound field: what is used of it -/
def SndF (n : Nat) (X Y : Nat → Int) : Prop := 3 ≤ n ∧ Rg n X Y ∧ Dst n X Y ∧ (∀ i, i < n → ¬ (sd X Y i (nx n i) (nx n (nx n i)) = 0 ∧ 0 < dt X Y (nx n i) i (nx n (nx n i)))) ∧ (∀ i j, i < n → j < n → i ≠ j → j ≠ nx n i → nx n j ≠ i → meM X Y i (nx n i) j (nx n j) = false)
theorem SndF.of {n : Nat} {X Y : Nat → Int} (hR : Rg n X Y) (hD : Dst n X Y) (h : snM X Y n = true) : SndF n X Y := by
  unfold snM at h
  rw [Bool.and_eq_true, decide_eq_true_eq, Bool.not_eq_true', ← Bool.not_eq_true, anyF_iff] at h
  obtain ⟨hn, h⟩ := h
  have one : ∀ i j, i < n → j < n → i + 2 ≤ j → nx n j ≠ i → meM X Y i (nx n i) j (nx n j) = false := by
    intro i j hi hj h2 h3
    refine Bool.eq_false_iff.mpr fun q => h ⟨i, by omega, by omega, ?_⟩
    rw [Bool.or_eq_true]
    right
    rw [anyF_iff]
    refine ⟨j, h2, by omega, ?_⟩
    unfold mtM
    rw [q, decide_eq_false h3]; rfl
  refine ⟨by omega, hR, hD, fun i hi q => h ⟨i, by omega, by omega, ?_⟩, fun i j hi hj h1 h2 h3 => ?_⟩
  · unfold alM
    rw [decide_eq_true q.1, decide_eq_true q.2]; rfl
  · rcases Nat.lt_or_gt_of_ne h1 with q | q
    · have : j ≠ i + 1 := fun e => h2 (by unfold nx; rw [if_pos (by omega), e])
      exact one i j hi hj (by omega) h3
    · have : i ≠ j + 1 := fun e => h3 (by unfold nx; rw [if_pos (by omega), e])
      rw [meM_sw]
      exact one j i hj hi (by omega) (fun e => h2 e.symm)
theorem btw_sw (X Y : Nat → Int) (a b c : Nat) : btw X Y b a c = btw X Y a b c := by
  unfold btw
  rw [dt_sw, sd_sw]
  congr 1
  exact decide_eq_decide.mpr (by omega)
theorem SndF.nxne {n : Nat} {X Y : Nat → Int} (h : SndF n X Y) {i : Nat} (hi : i < n) : nx n i ≠ i ∧ nx n (nx n i) ≠ i ∧ nx n (nx n i) ≠ nx n i := by
  have := h.1
  unfold nx
  refine ⟨?_, ?_, ?_⟩ <;> (repeat' split) <;> omega
theorem nx_inj {n i j : Nat} (hi : i < n) (hj : j < n) (h : nx n i = nx n j) : i = j := by
  unfold nx at h
  (repeat' split at h) <;> omega
/-- no corner lies on a fence that is not its own -/
theorem SndF.v {n : Nat} {X Y : Nat → Int} (h : SndF n X Y) {c k : Nat} (hc : c < n) (hk : k < n) (h1 : c ≠ k) (h2 : c ≠ nx n k) : btw X Y k (nx n k) c = false := by
  have hnk := nx_lt hk
  have hnc := nx_lt hc
  refine Bool.eq_false_iff.mpr fun q => ?_
  by_cases e : nx n c = k
  · unfold btw at q
    simp only [Bool.and_eq_true, decide_eq_true_eq] at q
    refine h.2.2.2.1 c hc ?_
    rw [e]
    constructor
    · rw [← sd_rt]; exact q.1
    · have : dt X Y k c (nx n k) = lng X Y k c - dt X Y c k (nx n k) := by unfold dt lng; grind
      have := h.2.2.1 k c hk hc (Ne.symm h1)
      omega
  · have w := h.2.2.2.2 k c hk hc (Ne.symm h1) h2 e
    have hkc := h.2.2.1 k c hk hc (Ne.symm h1)
    have hnkc := h.2.2.1 (nx n k) c hnk hc (Ne.symm h2)
    rw [btw_eq hkc hnkc] at q
    unfold meM at w
    rw [q] at w
    simp at w
/-- between, by how far along -/
theorem btw_p {X Y : Nat → Int} {a b c : Nat} (hab : 0 < lng X Y a b) : btw X Y a b c = true ↔ sd X Y a b c = 0 ∧ 0 < prt X Y a b c ∧ prt X Y a b c < lng X Y a b := by
  unfold btw
  simp only [Bool.and_eq_true, decide_eq_true_eq]
  have l := lag X Y a b a b c
  have ta : prt X Y a b a = 0 := by unfold prt; grind
  have tb : prt X Y a b b = lng X Y a b := by unfold prt lng; grind
  have za : sd X Y a b a = 0 := by unfold sd; grind
  have zb : sd X Y a b b = 0 := by unfold sd; grind
  rw [ta, tb, za, zb] at l
  constructor
  · rintro ⟨h1, h2⟩
    rw [h1] at l
    have l2 : dt X Y c a b * lng X Y a b = (0 - prt X Y a b c) * (lng X Y a b - prt X Y a b c) := by rw [l]; grind
    have := Int.mul_neg_of_neg_of_pos h2 hab
    rw [l2] at this
    refine ⟨h1, ?_⟩
    rcases mul_neg_c this with q | q <;> omega
  · rintro ⟨h1, h2, h3⟩
    rw [h1] at l
    have l2 : dt X Y c a b * lng X Y a b = (0 - prt X Y a b c) * (lng X Y a b - prt X Y a b c) := by rw [l]; grind
    exact ⟨h1, neg_of_mul hab (by rw [l2]; exact Int.mul_neg_of_neg_of_pos (by omega) (by omega))⟩
theorem btw_tr {X Y : Nat → Int} {a s i j : Nat} (hs : 0 < lng X Y a s) (hi : 0 < lng X Y a i) (h1 : btw X Y a s i = true) (h2 : btw X Y a i j = true) : btw X Y a s j = true := by
  rw [btw_p hs] at h1 ⊢
  rw [btw_p hi] at h2
  obtain ⟨p1, p2, p3⟩ := h1
  obtain ⟨q1, q2, q3⟩ := h2
  have e1 : sd X Y a i j * lng X Y a s = prt X Y a s i * sd X Y a s j - sd X Y a s i * prt X Y a s j := by unfold sd lng prt; grind
  have e2 : prt X Y a i j * lng X Y a s = prt X Y a s i * prt X Y a s j + sd X Y a s i * sd X Y a s j := by unfold sd lng prt; grind
  have e3 : lng X Y a i * lng X Y a s = prt X Y a s i * prt X Y a s i + sd X Y a s i * sd X Y a s i := by unfold sd lng prt; grind
  rw [p1] at e1 e2 e3
  rw [q1] at e1
  have z : sd X Y a s j = 0 := by
    rcases Int.mul_eq_zero.mp (show prt X Y a s i * sd X Y a s j = 0 by omega) with w | w
    · omega
    · exact w
  have e2' : prt X Y a i j * lng X Y a s = prt X Y a s i * prt X Y a s j := by omega
  have e3' : lng X Y a i * lng X Y a s = prt X Y a s i * prt X Y a s i := by omega
  refine ⟨z, ?_, ?_⟩
  · have := Int.mul_pos q2 hs
    rw [e2'] at this
    exact (pos_mul p2).mp this
  · have : 0 < (lng X Y a i - prt X Y a i j) * lng X Y a s := Int.mul_pos (by omega) hs
    have e4 : (lng X Y a i - prt X Y a i j) * lng X Y a s = prt X Y a s i * (prt X Y a s i - prt X Y a s j) := by
      rw [Int.sub_mul, Int.mul_sub]; omega
    rw [e4] at this
    have := (pos_mul p2).mp this
    omega
/-- the nearest corner: none is nearer, and it is the far one or lies between -/
theorem near_p {X Y : Nat → Int} {n a : Nat} (hD : Dst n X Y) (ha : a < n) : ∀ (d i s : Nat), i + d = n → s < n → a ≠ s → (∀ j, j < i → btw X Y a s j = false) → (itF (nst X Y a) i d s < n ∧ a ≠ itF (nst X Y a) i d s ∧ (∀ j, j < n → btw X Y a (itF (nst X Y a) i d s) j = false) ∧ (itF (nst X Y a) i d s = s ∨ btw X Y a s (itF (nst X Y a) i d s) = true))
  | 0, i, s, h, hs, has, hm => by
    obtain rfl : i = n := by omega
    exact ⟨hs, has, hm, Or.inl rfl⟩
  | d + 1, i, s, h, hs, has, hm => by
    have hin : i < n := by omega
    rw [itF]
    by_cases c : btw X Y a s i = true
    · have e : nst X Y a i s = i := by unfold nst; rw [if_pos c]
      have hai : a ≠ i := fun q => by
        rw [← q] at c
        unfold btw at c
        simp only [Bool.and_eq_true, decide_eq_true_eq] at c
        have : dt X Y a a s = 0 := by unfold dt; grind
        omega
      rw [e]
      have l1 := hD a s ha hs has
      have l2 := hD a i ha hin hai
      have st : ∀ j, j < i + 1 → btw X Y a i j = false := fun j hj => by
        refine Bool.eq_false_iff.mpr fun q => ?_
        by_cases ej : j = i
        · subst ej
          rw [btw_p l2] at q
          have : prt X Y a j j = lng X Y a j := by unfold prt lng; grind
          omega
        · have := btw_tr l1 l2 c q
          rw [hm j (by omega)] at this; cases this
      obtain ⟨r1, r2, r3, r4⟩ := near_p hD ha d (i + 1) i (by omega) hin hai st
      refine ⟨r1, r2, r3, Or.inr ?_⟩
      rcases r4 with r4 | r4
      · rw [r4]; exact c
      · exact btw_tr l1 l2 c r4
    · have e : nst X Y a i s = s := by unfold nst; rw [if_neg c]
      rw [e]
      refine near_p hD ha d (i + 1) s (by omega) hs has (fun j hj => ?_)
      by_cases ej : j = i
      · subst ej; simpa using c
      · exact hm j (by omega)
theorem near_b {X Y : Nat → Int} {n a b : Nat} (hD : Dst n X Y) (ha : a < n) (hb : b < n) (hab : a ≠ b) : near X Y n a b = b ↔ ∀ j, j < n → btw X Y a b j = false := by
  have w := near_p hD ha n 0 b (by omega) hb hab (fun j hj => by omega)
  constructor
  · intro h
    unfold near at h
    rw [h] at w
    exact w.2.2.1
  · intro h
    rcases w.2.2.2 with q | q
    · exact q
    · have := h _ w.1
      rw [this] at q; cases q
/-- a corner on the ray from a through b, not b itself, at a's own fence: b or the corner lies between -/
theorem ray {X Y : Nat → Int} {a b r : Nat} (hab : 0 < lng X Y a b) (har : 0 < lng X Y a r) (hbr : 0 < lng X Y b r) (h1 : sd X Y a b r = 0) (h2 : 0 < dt X Y a b r) : btw X Y a b r = true ∨ btw X Y a r b = true := by
  have e : dt X Y a b r = prt X Y a b r := by unfold dt prt; grind
  rw [e] at h2
  by_cases c : prt X Y a b r < lng X Y a b
  · exact Or.inl ((btw_p hab).mpr ⟨h1, h2, c⟩)
  · right
    rw [btw_p har]
    have e1 : sd X Y a r b = -sd X Y a b r := by unfold sd; grind
    have e2 : prt X Y a r b = prt X Y a b r := by unfold prt; grind
    have e3 : lng X Y a r * lng X Y a b = prt X Y a b r * prt X Y a b r + sd X Y a b r * sd X Y a b r := by unfold lng prt sd; grind
    have e4 : lng X Y b r * lng X Y a b = (prt X Y a b r - lng X Y a b) * (prt X Y a b r - lng X Y a b) + sd X Y a b r * sd X Y a b r := by unfold lng prt sd; grind
    rw [h1] at e3 e4
    have ne : prt X Y a b r ≠ lng X Y a b := fun q => by
      rw [q] at e4
      have := Int.mul_pos hbr hab
      simp at e4
      omega
    refine ⟨by omega, by omega, ?_⟩
    rw [e2]
    refine Int.not_le.mp fun q => ?_
    have k1 : lng X Y a r * lng X Y a b ≤ prt X Y a b r * lng X Y a b := Int.mul_le_mul_of_nonneg_right q (by omega)
    have k2 : prt X Y a b r * lng X Y a b < prt X Y a b r * prt X Y a b r := Int.mul_lt_mul_of_pos_left (by omega) h2
    omega
theorem alE_of {X Y : Nat → Int} {a b r : Nat} (hab : 0 < lng X Y a b) (h : btw X Y a b r = true) : alE X Y a b r = true := by
  rw [btw_p hab] at h
  have e : dt X Y a b r = prt X Y a b r := by unfold dt prt; grind
  unfold alE
  rw [decide_eq_true h.1, decide_eq_true (by omega)]; rfl
theorem strip_free {n : Nat} {X Y : Nat → Int} (h : SndF n X Y) {a b : Nat} (ha : a < n) (hb : b < n) (hadj : adjM n a b = false) : (near X Y n a b = b ∧ crsd X Y n a b = false) ↔ anyF (bkM X Y n a b) 0 n = false := by
  simp only [adjM, decide_eq_false_iff_not, not_or] at hadj
  obtain ⟨hab, hn1, hn2⟩ := hadj
  have hD := h.2.2.1
  have lab := hD a b ha hb hab
  have lba := hD b a hb ha (Ne.symm hab)
  rw [near_b hD ha hb hab]
  constructor
  · rintro ⟨h1, h2⟩
    refine Bool.eq_false_iff.mpr fun q => ?_
    rw [anyF_iff] at q
    obtain ⟨k, -, k2, k3⟩ := q
    have hk : k < n := by omega
    have hnk := nx_lt hk
    unfold bkM at k3
    have cr : crs X Y a b k (nx n k) = false := by
      refine Bool.eq_false_iff.mpr fun z => ?_
      have : crsd X Y n a b = true := by unfold crsd; rw [anyF_iff]; exact ⟨k, by omega, by omega, z⟩
      rw [h2] at this; cases this
    split at k3
    · rename_i hat
      unfold alnM at k3
      split at k3
      · rename_i hata
        -- the fence is a's own
        obtain ⟨r, hr, er, hra, hrb, hv⟩ : ∃ r, r < n ∧ r = (if k = a then nx n k else k) ∧ r ≠ a ∧ r ≠ b ∧ btw X Y a r b = false := by
          by_cases e : k = a
          · subst e
            refine ⟨nx n k, hnk, by rw [if_pos rfl], (h.nxne hk).1, hn1, h.v hb hk (Ne.symm hab) (Ne.symm hn1)⟩
          · have e2 : nx n k = a := by omega
            refine ⟨k, hk, by rw [if_neg e], e, fun z => hn2 (by rw [← z]; exact e2), ?_⟩
            have w := h.v hb hk (fun z => hn2 (by rw [z]; exact e2)) (by rw [e2]; exact Ne.symm hab)
            rw [e2, btw_sw] at w
            exact w
        rw [← er] at k3
        unfold alE at k3
        simp only [Bool.and_eq_true, decide_eq_true_eq] at k3
        rcases ray lab (hD a r ha hr (Ne.symm hra)) (hD b r hb hr (Ne.symm hrb)) k3.1 k3.2 with z | z
        · rw [h1 r hr] at z; cases z
        · rw [hv] at z; cases z
      · rename_i hata
        rw [if_neg (Ne.symm hab)] at k3
        obtain ⟨r, hr, er, hrb, hra, hv⟩ : ∃ r, r < n ∧ r = (if k = b then nx n k else k) ∧ r ≠ b ∧ r ≠ a ∧ btw X Y b r a = false := by
          by_cases e : k = b
          · subst e
            refine ⟨nx n k, hnk, by rw [if_pos rfl], (h.nxne hk).1, hn2, h.v ha hk hab (Ne.symm hn2)⟩
          · have e2 : nx n k = b := by omega
            refine ⟨k, hk, by rw [if_neg e], e, fun z => hn1 (by rw [← z]; exact e2), ?_⟩
            have w := h.v ha hk (fun z => hn1 (by rw [z]; exact e2)) (by rw [e2]; exact hab)
            rw [e2, btw_sw] at w
            exact w
        rw [← er] at k3
        unfold alE at k3
        simp only [Bool.and_eq_true, decide_eq_true_eq] at k3
        rcases ray lba (hD b r hb hr (Ne.symm hrb)) (hD a r ha hr (Ne.symm hra)) k3.1 k3.2 with z | z
        · rw [btw_sw, h1 r hr] at z; cases z
        · rw [hv] at z; cases z
    · rename_i hat
      have l1 := hD a k ha hk (by omega)
      have l2 := hD b k hb hk (by omega)
      have l3 := hD a _ ha hnk (by omega)
      have l4 := hD b _ hb hnk (by omega)
      have l5 := hD k a hk ha (by omega)
      have l6 := hD k b hk hb (by omega)
      have l7 := hD _ a hnk ha (by omega)
      have l8 := hD _ b hnk hb (by omega)
      unfold meM at k3
      rw [← btw_eq l1 l2, ← btw_eq l3 l4, ← btw_eq l5 l7, ← btw_eq l6 l8, h1 k hk, h1 _ hnk, h.v ha hk (by omega) (by omega), h.v hb hk (by omega) (by omega)] at k3
      simp only [Bool.false_or, Bool.and_eq_true, decide_eq_true_eq, sgn_mul] at k3
      unfold crs at cr
      rw [decide_eq_true k3.1, decide_eq_true k3.2] at cr
      cases cr
  · intro hno
    have no : ∀ k, k < n → bkM X Y n a b k = false := fun k hk => anyF_no _ _ hno k (by omega) (by omega)
    constructor
    · intro i hi
      refine Bool.eq_false_iff.mpr fun q => ?_
      have w := no i hi
      have hai : a ≠ i := fun z => by
        rw [← z, btw_p lab] at q
        have : prt X Y a b a = 0 := by unfold prt; grind
        omega
      have hbi : b ≠ i := fun z => by
        rw [← z, btw_p lab] at q
        have : prt X Y a b b = lng X Y a b := by unfold prt lng; grind
        omega
      unfold bkM at w
      split at w
      · rename_i hat
        unfold alnM at w
        split at w
        · rename_i hata
          rw [if_neg (Ne.symm hai), alE_of lab q] at w
          cases w
        · rename_i hata
          rw [if_neg (Ne.symm hab), if_neg (Ne.symm hbi), alE_of lba (by rw [btw_sw]; exact q)] at w
          cases w
      · rename_i hat
        unfold meM at w
        rw [← btw_eq (hD a i ha hi hai) (hD b i hb hi hbi), q] at w
        simp at w
    · refine Bool.eq_false_iff.mpr fun q => ?_
      unfold crsd at q
      rw [anyF_iff] at q
      obtain ⟨k, -, k2, k3⟩ := q
      have hk : k < n := by omega
      have w := no k hk
      unfold crs at k3
      simp only [Bool.and_eq_true, decide_eq_true_eq] at k3
      have za : sd X Y a b a = 0 := by unfold sd; grind
      have zb : sd X Y a b b = 0 := by unfold sd; grind
      unfold bkM at w
      rw [if_neg (by
        rintro (z | z | z | z)
        · rw [z, za] at k3; simp at k3
        · rw [z, za] at k3; simp at k3
        · rw [z, zb] at k3; simp at k3
        · rw [z, zb] at k3; simp at k3)] at w
      unfold meM at w
      rw [decide_eq_true ((sgn_mul _ _).mpr k3.1), decide_eq_true ((sgn_mul _ _).mpr k3.2)] at w
      simp at w
/-- a strip by the class is a strip by the reference -/
theorem strip_eq {n : Nat} {X Y : Nat → Int} (h : SndF n X Y) {a b : Nat} (ha : a < n) (hb : b < n) : stripC X Y n a b = spM X Y n a b := by
  unfold stripC spM
  rw [pmid_eq]
  have e0 : (decide (a = b) || decide (nx n a = b) || decide (nx n b = a)) = adjM n a b := by
    unfold adjM
    rw [← Bool.decide_or, ← Bool.decide_or]
    exact decide_eq_decide.mpr (by rw [or_assoc])
  rw [e0]
  cases hadj : adjM n a b with
  | true => rfl
  | false =>
    have w := strip_free h ha hb hadj
    rw [Bool.not_false, Bool.true_and, Bool.true_and]
    congr 1
    by_cases c : anyF (bkM X Y n a b) 0 n = false
    · obtain ⟨w1, w2⟩ := w.mpr c
      rw [c, w2, decide_eq_true w1]; rfl
    · have c2 : anyF (bkM X Y n a b) 0 n = true := by simpa using c
      rw [c2]
      by_cases c3 : near X Y n a b = b
      · have c4 : ¬ crsd X Y n a b = false := fun q => c (w.mp ⟨c3, q⟩)
        rw [show crsd X Y n a b = true by simpa using c4]; simp
      · rw [decide_eq_false c3]; rfl
