/-! Do two fences meet: the class and the reference say the same; sound is sound. -/
theorem mul_neg_c {u v : Int} (h : u * v < 0) : (u < 0 ∧ 0 < v) ∨ (0 < u ∧ v < 0) := by
  rcases Int.lt_trichotomy u 0 with a | a | a
  · rcases Int.lt_trichotomy v 0 with b | b | b
    · have := Int.mul_pos_of_neg_of_neg a b; omega
    · subst b; simp at h
    · exact Or.inl ⟨a, b⟩
  · subst a; simp at h
  · rcases Int.lt_trichotomy v 0 with b | b | b
    · exact Or.inr ⟨a, b⟩
    · subst b; simp at h
    · have := Int.mul_pos a b; omega
theorem lag (X Y : Nat → Int) (a b x y z : Nat) : dt X Y z x y * lng X Y a b = (prt X Y a b x - prt X Y a b z) * (prt X Y a b y - prt X Y a b z) + (sd X Y a b x - sd X Y a b z) * (sd X Y a b y - sd X Y a b z) := by
  unfold dt lng prt sd
  grind
theorem neg_of_mul {u l : Int} (hl : 0 < l) (h : u * l < 0) : u < 0 := by
  refine Int.not_le.mp fun q => ?_
  have := Int.mul_nonneg q (show 0 ≤ l by omega)
  omega
/-- in one line: if b is between c and d, then a, c or d is between others -/
theorem line4 {X Y : Nat → Int} {a b c d : Nat} (hab : 0 < lng X Y a b) (hac : 0 < lng X Y a c) (had : 0 < lng X Y a d) (hc : sd X Y a b c = 0) (hd : sd X Y a b d = 0) (h : dt X Y b c d < 0) : dt X Y c a b < 0 ∨ dt X Y d a b < 0 ∨ dt X Y a c d < 0 := by
  have za : sd X Y a b a = 0 := by unfold sd; grind
  have zb : sd X Y a b b = 0 := by unfold sd; grind
  have ta : prt X Y a b a = 0 := by unfold prt; grind
  have tb : prt X Y a b b = lng X Y a b := by unfold prt lng; grind
  have l1 := lag X Y a b c d b
  have l2 := lag X Y a b a b c
  have l3 := lag X Y a b a b d
  have l4 := lag X Y a b c d a
  have l5 := lag X Y a b c c a
  have l6 := lag X Y a b d d a
  have e5 : dt X Y a c c = lng X Y a c := by unfold dt lng; grind
  have e6 : dt X Y a d d = lng X Y a d := by unfold dt lng; grind
  rw [hc, hd, zb, tb] at l1
  rw [hc, za, zb, ta, tb] at l2
  rw [hd, za, zb, ta, tb] at l3
  rw [hc, hd, za, ta] at l4
  rw [hc, za, ta, e5] at l5
  rw [hd, za, ta, e6] at l6
  simp only [Int.sub_self, Int.mul_zero, Int.zero_mul, Int.add_zero, Int.sub_zero, Int.zero_sub] at l1 l2 l3 l4 l5 l6
  have n5 : prt X Y a b c ≠ 0 := fun q => by rw [q] at l5; have := Int.mul_pos hac hab; omega
  have n6 : prt X Y a b d ≠ 0 := fun q => by rw [q] at l6; have := Int.mul_pos had hab; omega
  have h1 : (prt X Y a b c - lng X Y a b) * (prt X Y a b d - lng X Y a b) < 0 := by
    rw [← l1]; exact Int.mul_neg_of_neg_of_pos h hab
  have key : ∀ u v : Int, u ≠ 0 → u < lng X Y a b → lng X Y a b < v → -u * (lng X Y a b - u) < 0 ∨ u * v < 0 := by
    intro u v n q1 q2
    rcases Int.lt_or_gt_of_ne n with q | q
    · exact Or.inr (Int.mul_neg_of_neg_of_pos q (by omega))
    · exact Or.inl (Int.mul_neg_of_neg_of_pos (by omega) (by omega))
  rcases mul_neg_c h1 with ⟨q1, q2⟩ | ⟨q1, q2⟩
  · rcases key _ (prt X Y a b d) n5 (by omega) (by omega) with q | q
    · exact Or.inl (neg_of_mul hab (by rw [l2]; exact q))
    · exact Or.inr (Or.inr (neg_of_mul hab (by rw [l4]; exact q)))
  · rcases key _ (prt X Y a b c) n6 (by omega) (by omega) with q | q
    · exact Or.inr (Or.inl (neg_of_mul hab (by rw [l3]; exact q)))
    · exact Or.inr (Or.inr (neg_of_mul hab (by rw [l4, Int.mul_comm]; exact q)))
def tchP (X Y : Nat → Int) (a b c d : Nat) : Bool := if sd X Y a b c = 0 ∧ sd X Y a b d = 0 then btw X Y a b c || btw X Y a b d || btw X Y c d a else decide (sd X Y a b c * sd X Y a b d ≤ 0) && decide (sd X Y c d a * sd X Y c d b ≤ 0)
theorem col_rs {X Y : Nat → Int} {a b c d : Nat} (hab : 0 < lng X Y a b) (hc : sd X Y a b c = 0) (hd : sd X Y a b d = 0) : sd X Y c d a = 0 ∧ sd X Y c d b = 0 := by
  have e1 : sd X Y c d a * lng X Y a b = (sd X Y a b d) * (prt X Y a b c) - (sd X Y a b c) * (prt X Y a b d) := by unfold sd lng prt; grind
  have sm := sd_sum X Y a b c d
  rw [hc, hd] at e1
  have : sd X Y c d a = 0 := by
    rcases Int.mul_eq_zero.mp (show sd X Y c d a * lng X Y a b = 0 by omega) with q | q
    · exact q
    · omega
  omega
theorem tch_eq {X Y : Nat → Int} {a b c d : Nat} (hab : 0 < lng X Y a b) (hcd : 0 < lng X Y c d) (hac : 0 < lng X Y a c) (hbc : 0 < lng X Y b c) (had : 0 < lng X Y a d) (hbd : 0 < lng X Y b d) : tchP X Y a b c d = meM X Y a b c d := by
  have hca : 0 < lng X Y c a := by rw [lng_sw]; exact hac
  have hda : 0 < lng X Y d a := by rw [lng_sw]; exact had
  have hcb : 0 < lng X Y c b := by rw [lng_sw]; exact hbc
  have hdb : 0 < lng X Y d b := by rw [lng_sw]; exact hbd
  unfold meM
  rw [← btw_eq hac hbc, ← btw_eq had hbd, ← btw_eq hca hda, ← btw_eq hcb hdb]
  rw [Bool.eq_iff_iff]
  simp only [Bool.or_eq_true, Bool.and_eq_true, decide_eq_true_eq, sgn_mul]
  unfold tchP
  by_cases h : sd X Y a b c = 0 ∧ sd X Y a b d = 0
  · rw [if_pos h]
    simp only [Bool.or_eq_true]
    constructor
    · rintro ((q | q) | q)
      · exact Or.inl (Or.inl (Or.inl (Or.inl q)))
      · exact Or.inl (Or.inl (Or.inl (Or.inr q)))
      · exact Or.inl (Or.inl (Or.inr q))
    · rintro ((((q | q) | q) | q) | q)
      · exact Or.inl (Or.inl q)
      · exact Or.inl (Or.inr q)
      · exact Or.inr q
      · unfold btw at q ⊢
        simp only [Bool.and_eq_true, decide_eq_true_eq] at q ⊢
        have rs := col_rs hab h.1 h.2
        rcases line4 hab hac had h.1 h.2 q.2 with z | z | z
        · exact Or.inl (Or.inl ⟨h.1, z⟩)
        · exact Or.inl (Or.inr ⟨h.2, z⟩)
        · exact Or.inr ⟨rs.1, z⟩
      · rw [h.1, h.2] at q
        simp at q
  · rw [if_neg h]
    simp only [Bool.and_eq_true, decide_eq_true_eq]
    unfold btw
    simp only [Bool.and_eq_true, decide_eq_true_eq]
    have sm := sd_sum X Y a b c d
    -- the four ways of one end on the other line
    have k1 : sd X Y a b c = 0 → (dt X Y c a b < 0 ↔ sd X Y c d a * sd X Y c d b ≤ 0) := fun z => btw_of hac hbc z (fun q => h ⟨z, q⟩)
    have k2 : sd X Y a b d = 0 → (dt X Y d a b < 0 ↔ sd X Y c d a * sd X Y c d b ≤ 0) := fun z => by
      have w := btw_of (d := c) had hbd z (fun q => h ⟨q, z⟩)
      rw [sd_sw X Y c d a, sd_sw X Y c d b, Int.neg_mul_neg] at w
      exact w
    have nz : sd X Y c d a = 0 → sd X Y c d b ≠ 0 := fun z1 z2 => by
      have e := col_rs hcd z1 z2
      exact h e
    have k3 : sd X Y c d a = 0 → (dt X Y a c d < 0 ↔ sd X Y a b c * sd X Y a b d ≤ 0) := fun z => btw_of hca hda z (nz z)
    have k4 : sd X Y c d b = 0 → (dt X Y b c d < 0 ↔ sd X Y a b c * sd X Y a b d ≤ 0) := fun z => by
      have w := btw_of (d := a) hcb hdb z (fun q => nz q z)
      rw [sd_sw X Y a b c, sd_sw X Y a b d, Int.neg_mul_neg] at w
      exact w
    constructor
    · rintro ⟨q1, q2⟩
      by_cases z1 : sd X Y a b c = 0
      · exact Or.inl (Or.inl (Or.inl (Or.inl ⟨z1, (k1 z1).mpr q2⟩)))
      · by_cases z2 : sd X Y a b d = 0
        · exact Or.inl (Or.inl (Or.inl (Or.inr ⟨z2, (k2 z2).mpr q2⟩)))
        · by_cases z3 : sd X Y c d a = 0
          · exact Or.inl (Or.inl (Or.inr ⟨z3, (k3 z3).mpr q1⟩))
          · by_cases z4 : sd X Y c d b = 0
            · exact Or.inl (Or.inr ⟨z4, (k4 z4).mpr q1⟩)
            · refine Or.inr ⟨?_, ?_⟩
              · have : sd X Y a b c * sd X Y a b d ≠ 0 := fun q => by
                  rcases Int.mul_eq_zero.mp q with w | w
                  · exact z1 w
                  · exact z2 w
                omega
              · have : sd X Y c d a * sd X Y c d b ≠ 0 := fun q => by
                  rcases Int.mul_eq_zero.mp q with w | w
                  · exact z3 w
                  · exact z4 w
                omega
    · rintro ((((q | q) | q) | q) | q)
      · exact ⟨by rw [q.1]; simp, (k1 q.1).mp q.2⟩
      · exact ⟨by rw [q.1]; simp, (k2 q.1).mp q.2⟩
      · exact ⟨(k3 q.1).mp q.2, by rw [q.1]; simp⟩
      · exact ⟨(k4 q.1).mp q.2, by rw [q.1]; simp⟩
      · exact ⟨by omega, by omega⟩
theorem sd_c {n : Nat} {X Y X' Y' : Nat → Int} (hx : Ag n X X') (hy : Ag n Y Y') {a b c : Nat} (ha : a < n) (hb : b < n) (hc : c < n) : sd X Y a b c = sd X' Y' a b c := by
  unfold sd
  rw [hx a ha, hx b hb, hx c hc, hy a ha, hy b hb, hy c hc]
theorem dt_c {n : Nat} {X Y X' Y' : Nat → Int} (hx : Ag n X X') (hy : Ag n Y Y') {a b c : Nat} (ha : a < n) (hb : b < n) (hc : c < n) : dt X Y a b c = dt X' Y' a b c := by
  unfold dt
  rw [hx a ha, hx b hb, hx c hc, hy a ha, hy b hb, hy c hc]
theorem btw_c {n : Nat} {X Y X' Y' : Nat → Int} (hx : Ag n X X') (hy : Ag n Y Y') {a b c : Nat} (ha : a < n) (hb : b < n) (hc : c < n) : btw X Y a b c = btw X' Y' a b c := by
  unfold btw
  rw [sd_c hx hy ha hb hc, dt_c hx hy hc ha hb]
theorem tch_c {n : Nat} {X Y X' Y' : Nat → Int} (hx : Ag n X X') (hy : Ag n Y Y') {i j : Nat} (hi : i < n) (hj : j < n) : tch X Y n i j = tch X' Y' n i j := by
  have h1 := nx_lt hi
  have h2 := nx_lt hj
  unfold tch
  rw [sd_c hx hy hi h1 hj, sd_c hx hy hi h1 h2, sd_c hx hy hj h2 hi, sd_c hx hy hj h2 h1, btw_c hx hy hi h1 hj, btw_c hx hy hi h1 h2, btw_c hx hy hj h2 hi]
theorem soundC_c {n : Nat} {X Y X' Y' : Nat → Int} (hx : Ag n X X') (hy : Ag n Y Y') : soundC X Y n = soundC X' Y' n := by
  unfold soundC
  congr 2
  refine anyF_c _ _ (fun i h1 h2 => ?_)
  have hi : i < n := by omega
  unfold outS
  have e1 : fld X Y n i = fld X' Y' n i := by
    unfold fld
    rw [sd_c hx hy (pv_lt hi) (nx_lt hi) hi, dt_c hx hy hi (pv_lt hi) (nx_lt hi)]
  rw [e1]
  congr 1
  refine anyF_c _ _ (fun j h3 h4 => ?_)
  unfold inS
  rw [tch_c hx hy hi (by omega)]
theorem anyF_t {p : Nat → Bool} {i d : Nat} : (anyF p i d = true) = ∃ j, i ≤ j ∧ j < i + d ∧ p j = true := propext (anyF_iff p d i)
/-- sound by the class is sound by the reference -/
theorem sound_eq {n : Nat} {X Y : Nat → Int} (hD : Dst n X Y) : soundC X Y n = snM X Y n := by
  unfold soundC snM
  by_cases hn : 3 ≤ n
  · rw [decide_eq_true hn, decide_eq_true (show 2 < n by omega), Bool.true_and, Bool.true_and]
    congr 1
    have ein : ∀ i j, i < n → i + 2 ≤ j → j < n → inS X Y n i j = mtM X Y n i j := by
      intro i j hi h2 hj
      unfold inS mtM
      by_cases c : nx n j = i
      · rw [decide_eq_false (fun q => q c), decide_eq_true c]; rfl
      · rw [decide_eq_true c, decide_eq_false c]
        have e1 : nx n i = i + 1 := by unfold nx; rw [if_pos (by omega)]
        have n2 := nx_lt hj
        have e2 : nx n j ≠ j := by unfold nx; split <;> omega
        have e3 : nx n j ≠ i + 1 := by unfold nx; split <;> omega
        have w := tch_eq (a := i) (b := nx n i) (c := j) (d := nx n j) (hD i _ hi (by omega) (by omega)) (hD j _ hj n2 (by omega)) (hD i j hi hj (by omega)) (hD _ j (by omega) hj (by omega)) (hD i _ hi n2 (by omega)) (hD _ _ (by omega) n2 (by omega))
        show (true && tchP X Y i (nx n i) j (nx n j)) = _
        rw [w]; rfl
    have efl : ∀ i, i < n → fld X Y n i = alM X Y n (pv n i) := by
      intro i hi
      unfold fld alM
      have e1 : nx n (pv n i) = i := by unfold nx pv; split <;> split <;> omega
      rw [e1]
      have e2 : sd X Y (pv n i) (nx n i) i = -sd X Y (pv n i) i (nx n i) := by unfold sd; grind
      congr 1
      exact decide_eq_decide.mpr (by omega)
    rw [Bool.eq_iff_iff, anyF_iff, anyF_iff]
    constructor
    · rintro ⟨i, h1, h2, h3⟩
      unfold outS at h3
      rw [Bool.or_eq_true] at h3
      rcases h3 with h3 | h3
      · rw [efl i (by omega)] at h3
        have := pv_lt (show i < n by omega)
        exact ⟨pv n i, by omega, by omega, by rw [h3]; rfl⟩
      · refine ⟨i, h1, h2, ?_⟩
        rw [anyF_iff] at h3
        obtain ⟨j, g1, g2, g3⟩ := h3
        rw [ein i j (by omega) g1 (by omega)] at g3
        rw [Bool.or_eq_true]
        right
        rw [anyF_iff]
        exact ⟨j, g1, g2, g3⟩
    · rintro ⟨i, h1, h2, h3⟩
      rw [Bool.or_eq_true] at h3
      rcases h3 with h3 | h3
      · have hnx := nx_lt (show i < n by omega)
        refine ⟨nx n i, by omega, by omega, ?_⟩
        unfold outS
        have e1 : pv n (nx n i) = i := by unfold nx pv; split <;> split <;> omega
        rw [efl _ hnx, e1, h3]; rfl
      · refine ⟨i, h1, h2, ?_⟩
        rw [anyF_iff] at h3
        obtain ⟨j, g1, g2, g3⟩ := h3
        rw [← ein i j (by omega) g1 (by omega)] at g3
        unfold outS
        rw [Bool.or_eq_true]
        right
        rw [anyF_iff]
        exact ⟨j, g1, g2, g3⟩
  · rw [decide_eq_false hn, decide_eq_false (show ¬ 2 < n by omega)]; rfl
theorem sn_eq {Z : CZ} {M : MZ} (hI : Inv Z M) {f : Nat} (hf : f < 4) : snZ Z f = sM M f := by
  unfold snZ sM
  rw [hI.N hf, soundC_c (hI.X hf) (hI.Y hf), sound_eq (hI.D hf)]
theorem ob_sound {Z : CZ} {M : MZ} (hI : Inv Z M) (f : Int) : aSound Z f = bSound M f := by
  unfold aSound bSound
  by_cases h : fB f = true
  · obtain ⟨p, hp, rfl⟩ := fB_t h
    rw [if_pos h, if_pos h, i_nn, sn_eq hI hp]
  · rw [if_neg h, if_neg h]
theorem ob_count {Z : CZ} {M : MZ} (hI : Inv Z M) (k : Int) : aCount Z k = bCount M k := by
  unfold aCount bCount
  have e1 : allN Z = mM M 0 + mM M 1 + mM M 2 + mM M 3 := by
    unfold allN
    rw [hI.N (f := 0) (by omega), hI.N (f := 1) (by omega), hI.N (f := 2) (by omega), hI.N (f := 3) (by omega)]
  have e2 : allS Z = itF (ctM M) 0 4 0 := by
    unfold allS
    refine itF_congr _ _ _ (fun f h1 h2 s => ?_)
    unfold ctM
    rw [sn_eq hI (show f < 4 by omega)]
    split <;> rfl
  rw [e1, e2, hI.r.1.1]
