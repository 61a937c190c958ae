/-! Sight: the class's way, and what guards and hops need. -/
theorem prt_sw (X Y : Nat → Int) (c o x : Nat) : prt X Y o c x = lng X Y c o - prt X Y c o x := by unfold prt lng; grind
theorem OnS.sw {X Y : Nat → Int} {c o x : Nat} (h : OnS X Y c o x) : OnS X Y o c x := by
  obtain ⟨h1, h2, h3⟩ := h
  exact ⟨by rw [sd_sw, h1]; rfl, by rw [prt_sw]; omega, by rw [prt_sw, lng_sw]; omega⟩
theorem crs_sw (X Y : Nat → Int) (a b c d : Nat) : crs X Y b a c d = crs X Y a b c d := by
  unfold crs
  rw [sd_sw X Y a b c, sd_sw X Y a b d, Int.neg_mul_neg, Int.mul_comm (sd X Y c d b)]
theorem crsd_sw (X Y : Nat → Int) (n a b : Nat) : crsd X Y n b a = crsd X Y n a b := by
  unfold crsd
  rw [funext fun i => crs_sw X Y a b i (nx n i)]
theorem pmid_sw (X Y : Nat → Int) (n a b : Nat) : pmid X Y n b a = pmid X Y n a b := by
  rw [pmid_eq, pmid_eq, Int.add_comm (X b), Int.add_comm (Y b)]
theorem SpecP.sw {X Y : Nat → Int} {n c o : Nat} (h : SpecP X Y n c o) : SpecP X Y n o c := fun a b ha hb oa ob hab hno => by
  rw [prt_sw X Y c o a, prt_sw X Y c o b] at hab
  have w := h b a hb ha ob.sw oa.sw (by omega) (fun j hj oj z => hno j hj oj.sw (by rw [prt_sw X Y c o a, prt_sw X Y c o b, prt_sw X Y c o j]; omega))
  rw [crsd_sw, pmid_sw]
  exact w
theorem core_Y (n : Nat) (X Y : Nat → Int) (hn : n ≤ 10) (h : SndF n X Y) (i j : Nat) (hi : i < n) (hj : j < n) : sgM X Y n i j = sgM X Y n j i := by
  by_cases e : i = j
  · rw [e]
  · rw [Bool.eq_iff_iff]
    constructor
    · exact fun q => spec_sg h hj hi (Ne.symm e) (sg_spec h hi hj e q).sw
    · exact fun q => spec_sg h hi hj e (sg_spec h hj hi (Ne.symm e) q).sw
/-- corners at the same place on the way -/
theorem OnS.inj {X Y : Nat → Int} {n c o a b : Nat} (hD : Dst n X Y) (hL : 0 < lng X Y c o) (ha : a < n) (hb : b < n) (oa : OnS X Y c o a) (ob : OnS X Y c o b) (e : prt X Y c o a = prt X Y c o b) : a = b := by
  refine Classical.byContradiction fun z => ?_
  have d := hD a b ha hb z
  have e3 : lng X Y a b * lng X Y c o = (prt X Y c o a - prt X Y c o b) * (prt X Y c o a - prt X Y c o b) + (sd X Y c o a - sd X Y c o b) * (sd X Y c o a - sd X Y c o b) := by unfold lng prt sd; grind
  rw [e, oa.1, ob.1] at e3
  have := Int.mul_pos d hL
  rw [e3] at this
  simp at this
/-- only the two ends lie on the way -/
theorem spec_two {X Y : Nat → Int} {n c o : Nat} (hD : Dst n X Y) (hc : c < n) (ho : o < n) (hco : c ≠ o) (h1 : ∀ j, j < n → btw X Y c o j = false) (h2 : crsd X Y n c o = false) (h3 : pmid X Y n c o ≠ 2) : SpecP X Y n c o := fun a b ha hb oa ob hab _ => by
  have hL := hD c o hc ho hco
  have two : ∀ x, x < n → OnS X Y c o x → x = c ∨ x = o := fun x hx ox => by
    by_cases e0 : prt X Y c o x = 0
    · exact Or.inl (OnS.inj hD hL hx hc ox (OnS.c hL) (by rw [e0, prt_0]))
    · by_cases e1 : prt X Y c o x = lng X Y c o
      · exact Or.inr (OnS.inj hD hL hx ho ox (OnS.o hL) (by rw [e1, prt_L]))
      · exfalso
        have := h1 x hx
        rw [← Bool.not_eq_true, btw_p hL] at this
        exact this ⟨ox.1, by have := ox.2.1; omega, by have := ox.2.2; omega⟩
  rcases two a ha oa with rfl | rfl <;> rcases two b hb ob with rfl | rfl
  · omega
  · exact ⟨h2, h3⟩
  · rw [prt_0, prt_L] at hab; omega
  · omega
theorem core_T (n : Nat) (X Y : Nat → Int) (hn : n ≤ 10) (h : SndF n X Y) (i j : Nat) (hi : i < n) (hj : j < n) (hs : spM X Y n i j = true) : sgM X Y n i j = true := by
  rw [← strip_eq h hi hj] at hs
  unfold stripC at hs
  simp only [Bool.and_eq_true, Bool.not_eq_true', Bool.or_eq_false_iff, decide_eq_true_eq, decide_eq_false_iff_not] at hs
  obtain ⟨⟨⟨⟨⟨h1, _⟩, _⟩, h2⟩, h3⟩, h4⟩ := hs
  exact spec_sg h hi hj h1 (spec_two h.2.2.1 hi hj h1 ((near_b h.2.2.1 hi hj h1).mp h2) h3 (by omega))
theorem core_A (n : Nat) (X Y : Nat → Int) (hn : n ≤ 10) (h : SndF n X Y) (i : Nat) (hi : i < n) : sgM X Y n i (nx n i) = true := by
  have hD := h.2.2.1
  have n3 := h.1
  have hk := nx_lt hi
  have ne := nx_ne (show 2 ≤ n by omega) hi
  refine spec_sg h hi hk (Ne.symm ne) (spec_two hD hi hk (Ne.symm ne) (fun j hj => ?_) ?_ ?_)
  · by_cases e1 : j = i
    · subst e1
      refine Bool.eq_false_iff.mpr fun q => ?_
      have := (btw_p (hD j _ hi hk (Ne.symm ne))).mp q
      rw [prt_0] at this
      omega
    · by_cases e2 : j = nx n i
      · subst e2
        refine Bool.eq_false_iff.mpr fun q => ?_
        have := (btw_p (hD i _ hi hk (Ne.symm ne))).mp q
        rw [prt_L] at this
        omega
      · exact h.v hj hi e1 e2
  · unfold crsd
    rw [← Bool.not_eq_true, anyF_iff]
    rintro ⟨k, _, kn, w⟩
    by_cases ek : k = i
    · subst ek
      unfold crs at w
      have z : sd X Y k (nx n k) k = 0 := by unfold sd; grind
      rw [z, Int.zero_mul] at w
      simp at w
    · obtain ⟨i', j', x, y, hi', hj', hx, hy, e⟩ := crs_cb w
      have := (h.sn.2.2.2.2 i k hi (by omega) (Ne.symm ek) _ _ _ _ (by omega) (by omega) hx hy e).1
      omega
  · rw [pmid_eq, wh_on hD (by omega) (show (0:Int) < 2 by omega) hi (show (0:Int) < 1 by omega) (show (0:Int) ≤ 1 by omega) (show (0:Int) ≤ 1 by omega) (by
      rw [← mid_hat X Y]
      unfold cb hat; refine v3_ext ?_ ?_ ?_ <;> simp only <;> omega)]
    omega
/-- how many -/
def cn (p : Nat → Bool) : Nat → Nat
  | 0 => 0
  | n + 1 => cn p n + (if p n = true then 1 else 0)
theorem cn_le (p : Nat → Bool) : ∀ n, cn p n ≤ n
  | 0 => Nat.le_refl _
  | n + 1 => by rw [cn]; have := cn_le p n; split <;> omega
theorem cn_mono {p q : Nat → Bool} : ∀ {n : Nat}, (∀ k, k < n → p k = true → q k = true) → cn p n ≤ cn q n ∧ ((∃ k, k < n ∧ q k = true ∧ p k = false) → cn p n < cn q n)
  | 0, _ => ⟨Nat.le_refl _, fun ⟨k, hk, _⟩ => by omega⟩
  | n + 1, h => by
    obtain ⟨w1, w2⟩ := cn_mono (p := p) (q := q) (n := n) (fun k hk => h k (by omega))
    have hn := h n (by omega)
    rw [cn, cn]
    refine ⟨?_, ?_⟩
    · split
      · next z => rw [if_pos (hn z)]; omega
      · split <;> omega
    · rintro ⟨k, hk, k1, k2⟩
      by_cases e : k = n
      · subst e
        rw [if_pos k1, if_neg (by rw [k2]; simp)]
        omega
      · have := w2 ⟨k, by omega, k1, k2⟩
        split
        · next z => rw [if_pos (hn z)]; omega
        · split <;> omega
section
variable {X Y : Nat → Int} {n c t : Nat}
def onB2 (X Y : Nat → Int) (c t a x : Nat) : Bool := decide (sd X Y c t x = 0 ∧ 0 ≤ prt X Y c t x ∧ prt X Y c t x ≤ lng X Y c t ∧ prt X Y c t a < prt X Y c t x)
theorem onB2_t {a x : Nat} : onB2 X Y c t a x = true ↔ OnS X Y c t x ∧ prt X Y c t a < prt X Y c t x := by
  unfold onB2 OnS
  rw [decide_eq_true_eq]
  constructor
  · rintro ⟨h1, h2, h3, h4⟩; exact ⟨⟨h1, h2, h3⟩, h4⟩
  · rintro ⟨⟨h1, h2, h3⟩, h4⟩; exact ⟨h1, h2, h3, h4⟩
/-- what is to be seen from a on -/
def TS (X Y : Nat → Int) (n c t a : Nat) : Prop := ∀ x y, x < n → y < n → OnS X Y c t x → OnS X Y c t y → prt X Y c t a ≤ prt X Y c t x → prt X Y c t x < prt X Y c t y → (∀ j, j < n → OnS X Y c t j → ¬ (prt X Y c t x < prt X Y c t j ∧ prt X Y c t j < prt X Y c t y)) → crsd X Y n x y = false ∧ pmid X Y n x y ≠ 2
theorem prt_scale {a b x : Nat} (ha : sd X Y c t a = 0) (hb : sd X Y c t b = 0) : prt X Y a b x * lng X Y c t = (prt X Y c t x - prt X Y c t a) * (prt X Y c t b - prt X Y c t a) := by
  have : prt X Y a b x * lng X Y c t = (prt X Y c t x - prt X Y c t a) * (prt X Y c t b - prt X Y c t a) + (sd X Y c t x - sd X Y c t a) * (sd X Y c t b - sd X Y c t a) := by unfold sd lng prt; grind
  rw [ha, hb] at this
  grind
theorem lng_scale {a b : Nat} (ha : sd X Y c t a = 0) (hb : sd X Y c t b = 0) : lng X Y a b * lng X Y c t = (prt X Y c t b - prt X Y c t a) * (prt X Y c t b - prt X Y c t a) := by
  have : lng X Y a b * lng X Y c t = (prt X Y c t b - prt X Y c t a) * (prt X Y c t b - prt X Y c t a) + (sd X Y c t b - sd X Y c t a) * (sd X Y c t b - sd X Y c t a) := by unfold sd lng prt; grind
  rw [ha, hb] at this
  grind
/-- between two corners on the way, told by the way -/
theorem btw_way (hL : 0 < lng X Y c t) {a b x : Nat} (oa : OnS X Y c t a) (ob : OnS X Y c t b) (hab : prt X Y c t a < prt X Y c t b) (lab : 0 < lng X Y a b) : btw X Y a b x = true ↔ sd X Y c t x = 0 ∧ prt X Y c t a < prt X Y c t x ∧ prt X Y c t x < prt X Y c t b := by
  rw [btw_p lab]
  have e1 := sd_scale oa.1 ob.1 x
  have e2 := prt_scale (x := x) oa.1 ob.1
  have e3 := lng_scale oa.1 ob.1
  have d0 : 0 < prt X Y c t b - prt X Y c t a := by omega
  have s1 : sd X Y a b x = 0 ↔ sd X Y c t x = 0 := by
    constructor
    · intro z
      rw [z, Int.zero_mul] at e1
      exact (zer_mul d0).mp e1.symm
    · intro z
      rw [z, Int.mul_zero] at e1
      rcases Int.mul_eq_zero.mp e1 with w | w
      · exact w
      · omega
  have s2 : 0 < prt X Y a b x ↔ prt X Y c t a < prt X Y c t x := by
    have w1 := pos_lt (a := 0) (b := prt X Y a b x) hL
    have w2 := pos_lt (a := 0) (b := prt X Y c t x - prt X Y c t a) d0
    rw [Int.zero_mul] at w1 w2
    rw [← w1, e2, w2]
    omega
  have s3 : prt X Y a b x < lng X Y a b ↔ prt X Y c t x < prt X Y c t b := by
    rw [← pos_lt (a := prt X Y a b x) (b := lng X Y a b) hL, e2, e3, pos_lt d0]
    omega
  rw [s1, s2, s3]
theorem TS.step (h : SndF n X Y) (hc : c < n) (ht : t < n) (hct : c ≠ t) {a : Nat} (ha : a < n) (oa : OnS X Y c t a) (hat : a ≠ t) : near X Y n a t < n ∧ OnS X Y c t (near X Y n a t) ∧ prt X Y c t a < prt X Y c t (near X Y n a t) ∧ (TS X Y n c t a ↔ ((crsd X Y n a (near X Y n a t) = false ∧ pmid X Y n a (near X Y n a t) ≠ 2) ∧ TS X Y n c t (near X Y n a t))) := by
  have hD := h.2.2.1
  have hL := hD c t hc ht hct
  have lat := hD a t ha ht hat
  have ot := OnS.o hL (X := X) (Y := Y) (c := c) (o := t)
  have lt : prt X Y c t a < prt X Y c t t := by
    have := oa.2.2
    rw [prt_L]
    refine Classical.byContradiction fun z => hat (OnS.inj hD hL ha ht oa ot ?_)
    rw [prt_L]; omega
  obtain ⟨bn, ab, bno, bw⟩ := near_p hD ha n 0 t (by omega) ht hat (fun j hj => by omega)
  have eb : itF (nst X Y a) 0 n t = near X Y n a t := rfl
  rw [eb] at bn ab bno bw
  generalize near X Y n a t = b at *
  have ob : OnS X Y c t b ∧ prt X Y c t a < prt X Y c t b := by
    rcases bw with rfl | w
    · exact ⟨ot, lt⟩
    · obtain ⟨q1, q2, q3⟩ := (btw_way hL oa ot lt lat).mp w
      rw [prt_L] at q3
      have := oa.2.1
      exact ⟨⟨q1, by omega, by omega⟩, q2⟩
  obtain ⟨ob, lab⟩ := ob
  have lnab := hD a b ha bn ab
  have none : ∀ j, j < n → OnS X Y c t j → ¬ (prt X Y c t a < prt X Y c t j ∧ prt X Y c t j < prt X Y c t b) := fun j hj oj z => by
    have := bno j hj
    rw [← Bool.not_eq_true, btw_way hL oa ob lab lnab] at this
    exact this ⟨oj.1, z⟩
  refine ⟨bn, ob, lab, ?_⟩
  constructor
  · intro T
    exact ⟨T a b ha bn oa ob (Int.le_refl _) lab none, fun x y hx hy ox oy l1 l2 l3 => T x y hx hy ox oy (by omega) l2 l3⟩
  · rintro ⟨ok, T⟩ x y hx hy ox oy l1 l2 l3
    by_cases e : prt X Y c t x = prt X Y c t a
    · have ex : x = a := OnS.inj hD hL hx ha ox oa e
      subst ex
      have e2 : prt X Y c t y = prt X Y c t b := by
        have w1 := l3 b bn ob
        have w2 := none y hy oy
        omega
      have ey : y = b := OnS.inj hD hL hy bn oy ob e2
      subst ey
      exact ok
    · have w := none x hx ox
      exact T x y hx hy ox oy (by omega) l2 l3
theorem snF_TS (h : SndF n X Y) (hc : c < n) (ht : t < n) (hct : c ≠ t) : ∀ (d a : Nat), a < n → OnS X Y c t a → cn (onB2 X Y c t a) n ≤ d → (snF X Y n t d a = true ↔ TS X Y n c t a)
  | 0, a, ha, oa, hd => by
    rw [snF]
    refine ⟨fun _ x y hx hy ox oy l1 l2 l3 => ?_, fun _ => rfl⟩
    exfalso
    have := (cn_mono (p := fun _ => false) (q := onB2 X Y c t a) (n := n) (fun k _ z => by cases z)).2 ⟨y, hy, onB2_t.mpr ⟨oy, by omega⟩, rfl⟩
    omega
  | d + 1, a, ha, oa, hd => by
    rw [snF]
    by_cases e : a = t
    · rw [if_pos e]
      refine ⟨fun _ x y hx hy ox oy l1 l2 l3 => ?_, fun _ => rfl⟩
      exfalso
      subst e
      rw [prt_L] at l1
      have := oy.2.2
      omega
    · rw [if_neg e]
      obtain ⟨bn, ob, lab, st⟩ := TS.step h hc ht hct ha oa e
      rw [st]
      have ih := snF_TS h hc ht hct d (near X Y n a t) bn ob (by
        have := (cn_mono (p := onB2 X Y c t (near X Y n a t)) (q := onB2 X Y c t a) (n := n) (fun k _ z => by
          obtain ⟨z1, z2⟩ := onB2_t.mp z
          exact onB2_t.mpr ⟨z1, by omega⟩)).2 ⟨near X Y n a t, bn, onB2_t.mpr ⟨ob, lab⟩, by
            rw [← Bool.not_eq_true, onB2_t]; omega⟩
        omega)
      by_cases c1 : crsd X Y n a (near X Y n a t) = true ∨ pmid X Y n a (near X Y n a t) = 2
      · rw [if_pos c1]
        refine ⟨fun z => by (cases z), fun z => ?_⟩
        rcases c1 with q | q
        · rw [q] at z; exact absurd z.1.1 (by simp)
        · exact absurd q z.1.2
      · rw [if_neg c1, ih]
        refine ⟨fun z => ⟨⟨?_, fun q => c1 (Or.inr q)⟩, z⟩, fun z => z.2⟩
        exact Bool.eq_false_iff.mpr fun q => c1 (Or.inl q)
end
theorem core_S (n : Nat) (X Y : Nat → Int) (hn : n ≤ 10) (h : SndF n X Y) (i j : Nat) (hi : i < n) (hj : j < n) (hij : i ≠ j) : seenC X Y n i j = sgM X Y n i j := by
  have hL := h.2.2.1 i j hi hj hij
  have w := snF_TS h hi hj hij n i hi (OnS.c hL) (cn_le _ n)
  have ts : TS X Y n i j i ↔ SpecP X Y n i j := by
    constructor
    · exact fun T a b ha hb oa ob hab hno => T a b ha hb oa ob (by rw [prt_0]; exact oa.2.1) hab hno
    · exact fun T a b ha hb oa ob _ hab hno => T a b ha hb oa ob hab hno
  rw [Bool.eq_iff_iff]
  show snF X Y n j n i = true ↔ _
  rw [w, ts]
  exact ⟨spec_sg h hi hj hij, sg_spec h hi hj hij⟩
