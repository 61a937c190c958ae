/-! Alike: the class and the reference say the same. -/
theorem max_ex (P : Nat → Int) : ∀ n : Nat, 0 < n → ∃ m, m < n ∧ ∀ k, k < n → P k ≤ P m
  | 0, h => by omega
  | 1, _ => ⟨0, by omega, fun k hk => by rw [show k = 0 by omega]; exact Int.le_refl _⟩
  | n + 2, _ => by
    obtain ⟨m, h1, h2⟩ := max_ex P (n + 1) (by omega)
    by_cases c : P m ≤ P (n + 1)
    · refine ⟨n + 1, by omega, fun k hk => ?_⟩
      by_cases e : k = n + 1
      · rw [e]; exact Int.le_refl _
      · have := h2 k (by omega); omega
    · refine ⟨m, by omega, fun k hk => ?_⟩
      by_cases e : k = n + 1
      · rw [e]; omega
      · exact h2 k (by omega)
/-- the corners of a sound field are not all in one line -/
theorem SndF.bent {n : Nat} {X Y : Nat → Int} (h : SndF n X Y) : ∃ k, 2 ≤ k ∧ k < n ∧ sd X Y 0 1 k ≠ 0 := by
  refine Classical.byContradiction fun c => ?_
  have h3 := h.1
  have hD := h.2.2.1
  have z : ∀ k, k < n → sd X Y 0 1 k = 0 := fun k hk => by
    by_cases e : 2 ≤ k
    · exact Classical.byContradiction fun q => c ⟨k, e, hk, q⟩
    · have : k = 0 ∨ k = 1 := by omega
      rcases this with rfl | rfl
      · unfold sd; grind
      · unfold sd; grind
  have l01 := hD 0 1 (by omega) (by omega) (by omega)
  obtain ⟨m, hm, hmax⟩ := max_ex (fun k => prt X Y 0 1 k) n (by omega)
  have hpm := pv_lt hm
  have hnm := nx_lt hm
  have e1 : nx n (pv n m) = m := by unfold nx pv; split <;> split <;> omega
  have n1 : pv n m ≠ m := by unfold pv; split <;> omega
  have n2 : nx n m ≠ m := (h.nxne hm).1
  have lt : ∀ k, k < n → k ≠ m → prt X Y 0 1 k < prt X Y 0 1 m := fun k hk hkm => by
    have w := hmax k hk
    refine Int.not_le.mp fun q => ?_
    have e : prt X Y 0 1 k = prt X Y 0 1 m := by omega
    have l := lag X Y 0 1 k k m
    have e2 : dt X Y m k k = lng X Y k m := by unfold dt lng; grind
    rw [e2, e, z k hk, z m hm, Int.sub_self] at l
    have := Int.mul_pos (hD k m hk hm hkm) l01
    simp at l
    omega
  refine h.2.2.2.1 (pv n m) hpm ?_
  rw [e1]
  constructor
  · have cr := col_rs (c := pv n m) (d := m) l01 (z _ hpm) (z _ hm)
    have : sd X Y (pv n m) m (nx n m) * lng X Y 0 1 = (sd X Y 0 1 (nx n m) - sd X Y 0 1 (pv n m)) * (prt X Y 0 1 m - prt X Y 0 1 (pv n m)) - (sd X Y 0 1 m - sd X Y 0 1 (pv n m)) * (prt X Y 0 1 (nx n m) - prt X Y 0 1 (pv n m)) := by unfold sd lng prt; grind
    rw [z _ hpm, z _ hm, z _ hnm] at this
    have this2 : sd X Y (pv n m) m (nx n m) * lng X Y 0 1 = 0 := by rw [this]; grind
    rcases Int.mul_eq_zero.mp this2 with q | q
    · exact q
    · omega
  · have l := lag X Y 0 1 (pv n m) (nx n m) m
    rw [z _ hpm, z _ hm, z _ hnm] at l
    have p := Int.mul_pos_of_neg_of_neg (show prt X Y 0 1 (pv n m) - prt X Y 0 1 m < 0 by have := lt _ hpm n1; omega) (show prt X Y 0 1 (nx n m) - prt X Y 0 1 m < 0 by have := lt _ hnm n2; omega)
    simp only [Int.sub_self, Int.mul_zero, Int.add_zero] at l
    rw [← l] at p
    refine Int.not_le.mp fun q => ?_
    have := Int.mul_nonneg (show 0 ≤ -dt X Y m (pv n m) (nx n m) by omega) (show 0 ≤ lng X Y 0 1 by omega)
    rw [Int.neg_mul] at this
    omega
theorem thF_t {X Y : Nat → Int} : ∀ (d i : Nat), (∀ k, i ≤ k → k < thF X Y d i → sd X Y 0 1 k = 0) ∧ (thF X Y d i < i + d → sd X Y 0 1 (thF X Y d i) ≠ 0)
  | 0, i => ⟨fun k h1 h2 => by rw [thF] at h2; omega, fun h => by rw [thF] at h; omega⟩
  | d + 1, i => by
    rw [thF]
    by_cases c : sd X Y 0 1 i = 0
    · rw [if_pos c]
      obtain ⟨h1, h2⟩ := thF_t (X := X) (Y := Y) d (i + 1)
      refine ⟨fun k k1 k2 => ?_, fun q => h2 (by omega)⟩
      by_cases e : k = i
      · rw [e]; exact c
      · exact h1 k (by omega) k2
    · rw [if_neg c]
      exact ⟨fun k k1 k2 => by omega, fun _ => c⟩
theorem SndF.thd {n : Nat} {X Y : Nat → Int} (h : SndF n X Y) : thd X Y n (third X Y n) := by
  have h3 := h.1
  have le := thF_le (X := X) (Y := Y) (n - 2) 2
  obtain ⟨t1, t2⟩ := thF_t (X := X) (Y := Y) (n - 2) 2
  obtain ⟨k, k1, k2, k3⟩ := h.bent
  have lt : third X Y n < n := by
    refine Nat.lt_of_not_le fun q => ?_
    have q2 : n ≤ thF X Y (n - 2) 2 := q
    exact k3 (t1 k k1 (by omega))
  have lt2 : thF X Y (n - 2) 2 < n := lt
  exact ⟨le.1, lt, t2 (by omega), t1⟩
theorem arq_f {n : Nat} (hn : 0 < n) : ∀ (j a : Nat), a < n → arq n false j a = plz n ((a : Int) + 1 * (j : Int))
  | 0, a, h => by
    rw [arq]
    unfold plz
    rw [show ((a : Int) + 1 * ((0 : Nat) : Int) + (n : Int)).toNat = a + n by omega, Nat.add_mod_right, Nat.mod_eq_of_lt h]
  | j + 1, a, h => by
    rw [arq_s, if_neg (by decide), arq_f hn j a h]
    unfold plz
    rw [show ((a : Int) + 1 * ((j + 1 : Nat) : Int) + (n : Int)).toNat = a + j + n + 1 by omega, show ((a : Int) + 1 * (j : Int) + (n : Int)).toNat = a + j + n by omega, ← nx_mod (Nat.mod_lt _ hn), Nat.mod_add_mod]
theorem arq_b {n : Nat} (hn : 0 < n) : ∀ (j a : Nat), a < n → j < n → arq n true j a = plz n ((a : Int) + -1 * (j : Int))
  | 0, a, h, hj => by
    rw [arq]
    unfold plz
    rw [show ((a : Int) + -1 * ((0 : Nat) : Int) + (n : Int)).toNat = a + n by omega, Nat.add_mod_right, Nat.mod_eq_of_lt h]
  | j + 1, a, h, hj => by
    rw [arq_s, if_pos rfl, arq_b hn j a h (by omega)]
    unfold plz
    rw [show ((a : Int) + -1 * ((j + 1 : Nat) : Int) + (n : Int)).toNat = a + n - j - 1 by omega, show ((a : Int) + -1 * (j : Int) + (n : Int)).toNat = a + n - j by omega]
    by_cases c : n ≤ a + n - j
    · rw [Nat.mod_eq_sub_mod c, Nat.mod_eq_of_lt (show a + n - j - n < n by omega)]
      unfold pv
      by_cases c2 : 0 < a + n - j - n
      · rw [if_pos c2, Nat.mod_eq_sub_mod (show n ≤ a + n - j - 1 by omega), Nat.mod_eq_of_lt (by omega)]; omega
      · rw [if_neg c2, Nat.mod_eq_of_lt (by omega)]; omega
    · rw [Nat.mod_eq_of_lt (show a + n - j < n by omega), Nat.mod_eq_of_lt (show a + n - j - 1 < n by omega)]
      unfold pv
      rw [if_pos (by omega)]
theorem tdm {a k : Int} (hk : k ≠ 0) (h : a.tmod k = 0) : k * a.tdiv k = a := by
  have := Int.mul_tdiv_add_tmod a k
  omega
theorem eqk {k u v : Int} (hk : k ≠ 0) : k * u = k * v ↔ u = v := ⟨fun h => Int.eq_of_mul_eq_mul_left hk h, fun h => by rw [h]⟩
/-- a row by the class: the two numbers are whole, and bring all corners there -/
theorem rowM_iff {X Y Z : Nat → Int} {n T : Nat} (hT : thd X Y n T) : rowM X Y Z n T = true ↔ (mBx Y Z T).tmod (sd X Y 0 1 T) = 0 ∧ (mBy X Z T).tmod (sd X Y 0 1 T) = 0 ∧ ∀ c, c < n → mBx Y Z T * (X c - X 0) + mBy X Z T * (Y c - Y 0) = sd X Y 0 1 T * (Z c - Z 0) := by
  obtain ⟨t1, t2, t3, t4⟩ := hT
  have e0 : mAr X Y T = sd X Y 0 1 T := rfl
  unfold rowM
  rw [e0]
  simp only [Bool.and_eq_true, decide_eq_true_eq, Bool.not_eq_true', ← Bool.not_eq_true, anyF_iff]
  constructor
  · rintro ⟨⟨⟨-, h1⟩, h2⟩, h3⟩
    refine ⟨h1, h2, fun c hc => ?_⟩
    by_cases c0 : c = 0
    · subst c0; grind
    · by_cases c1 : c = 1
      · subst c1; unfold mBx mBy sd; grind
      · refine Classical.byContradiction fun q => h3 ⟨c, by omega, by omega, ?_⟩
        unfold rmN
        rw [e0]
        exact decide_eq_true q
  · rintro ⟨h1, h2, h3⟩
    refine ⟨⟨⟨t3, h1⟩, h2⟩, ?_⟩
    rintro ⟨c, c1, c2, c3⟩
    unfold rmN at c3
    rw [e0, decide_eq_true_eq] at c3
    exact c3 (h3 c (by omega))
theorem map_eq {X Y U V : Nat → Int} {n T : Nat} (hT : thd X Y n T) (eT : third X Y n = T) {U' V' : Nat → Int} {fr st r : Int} (hU : ∀ j, j < n → U' j = U (plz n (fr + st * (j : Int))) ∧ V' j = V (plz n (fr + st * (j : Int)))) : mapC X Y U' V' n r = mpM X Y U V n T fr st r := by
  obtain ⟨t1, t2, t3, t4⟩ := id hT
  have u0 := hU 0 (by omega)
  have u1 := hU 1 (by omega)
  have uT := hU T t2
  rw [show fr + st * ((0 : Nat) : Int) = fr by simp] at u0
  rw [show fr + st * ((1 : Nat) : Int) = fr + st by simp] at u1
  have eA : mBx Y U' T = mpA Y U T (plz n fr) (plz n (fr + st)) (plz n (fr + st * (T : Int))) := by
    unfold mBx mpA; rw [u0.1, u1.1, uT.1]
  have eB : mBy X U' T = mpB X U T (plz n fr) (plz n (fr + st)) (plz n (fr + st * (T : Int))) := by
    unfold mBy mpB; rw [u0.1, u1.1, uT.1]
  have eC : mBx Y V' T = mpA Y V T (plz n fr) (plz n (fr + st)) (plz n (fr + st * (T : Int))) := by
    unfold mBx mpA; rw [u0.2, u1.2, uT.2]
  have eD : mBy X V' T = mpB X V T (plz n fr) (plz n (fr + st)) (plz n (fr + st * (T : Int))) := by
    unfold mBy mpB; rw [u0.2, u1.2, uT.2]
  have det : mBx Y U' T * mBy X V' T - mBy X U' T * mBx Y V' T = sd X Y 0 1 T * sd U' V' 0 1 T := by
    unfold mBx mBy sd; grind
  unfold mapC mpM mpI mpW
  rw [eT, decide_eq_true t2, ← eA, ← eB, ← eC, ← eD]
  rw [Bool.eq_iff_iff]
  simp only [Bool.and_eq_true, decide_eq_true_eq, true_and, Bool.not_eq_true', ← Bool.not_eq_true, anyF_iff]
  rw [rowM_iff hT, rowM_iff hT]
  have key : (mBx Y U' T).tmod (sd X Y 0 1 T) = 0 → (mBy X U' T).tmod (sd X Y 0 1 T) = 0 → (mBx Y V' T).tmod (sd X Y 0 1 T) = 0 → (mBy X V' T).tmod (sd X Y 0 1 T) = 0 → (((mBx Y U' T).tdiv (sd X Y 0 1 T) * (mBy X V' T).tdiv (sd X Y 0 1 T) - (mBy X U' T).tdiv (sd X Y 0 1 T) * (mBx Y V' T).tdiv (sd X Y 0 1 T) = r ↔ sd U' V' 0 1 T = r * sd X Y 0 1 T) ∧ ∀ c, c < n → (mpE X Y U V T (plz n fr) (plz n (fr + st)) (plz n (fr + st * (T : Int))) (sd X Y 0 1 T) (sd X Y 0 1 T) c (plz n (fr + st * (c : Int))) = true ↔ mBx Y U' T * (X c - X 0) + mBy X U' T * (Y c - Y 0) = sd X Y 0 1 T * (U' c - U' 0) ∧ mBx Y V' T * (X c - X 0) + mBy X V' T * (Y c - Y 0) = sd X Y 0 1 T * (V' c - V' 0))) := by
    intro a1 b1 c1 d1
    have a2 := tdm t3 a1
    have b2 := tdm t3 b1
    have c2 := tdm t3 c1
    have d2 := tdm t3 d1
    constructor
    · have e : sd X Y 0 1 T * (sd X Y 0 1 T * ((mBx Y U' T).tdiv (sd X Y 0 1 T) * (mBy X V' T).tdiv (sd X Y 0 1 T) - (mBy X U' T).tdiv (sd X Y 0 1 T) * (mBx Y V' T).tdiv (sd X Y 0 1 T))) = sd X Y 0 1 T * sd U' V' 0 1 T := by
        rw [← det]
        have : ∀ k a b c d : Int, k * (k * (a * d - b * c)) = (k * a) * (k * d) - (k * b) * (k * c) := fun k a b c d => by grind
        rw [this, a2, b2, c2, d2]
      have e2 := (eqk t3).mp e
      constructor
      · intro q
        rw [q] at e2
        rw [← e2, Int.mul_comm]
      · intro q
        rw [q, Int.mul_comm r] at e2
        exact (eqk t3).mp e2
    · intro c hc
      obtain ⟨uc1, uc2⟩ := hU c hc
      unfold mpE
      rw [← eA, ← eB, ← eC, ← eD, ← uc1, ← uc2, ← u0.1, ← u0.2]
      simp only [Bool.and_eq_true, decide_eq_true_eq]
      have f : ∀ a b x y z : Int, (a * x + b * y = z) ↔ (sd X Y 0 1 T * a) * x + (sd X Y 0 1 T * b) * y = sd X Y 0 1 T * z := fun a b x y z => by
        rw [show (sd X Y 0 1 T * a) * x + (sd X Y 0 1 T * b) * y = sd X Y 0 1 T * (a * x + b * y) by grind]
        exact (eqk t3).symm
      rw [f, f ((mBx Y V' T).tdiv (sd X Y 0 1 T)), a2, b2, c2, d2]
  constructor
  · rintro ⟨⟨h1, h2, h3, h4⟩, h5, h6, h7⟩
    obtain ⟨k1, k2⟩ := key h2 h3 h5 h6
    refine ⟨⟨⟨⟨⟨h2, h3⟩, h5⟩, h6⟩, k1.mpr h1⟩, ?_⟩
    rintro ⟨c, c1, c2, c3⟩
    have := (k2 c (by omega)).mpr ⟨h4 c (by omega), h7 c (by omega)⟩
    exact c3 this
  · rintro ⟨⟨⟨⟨⟨h2, h3⟩, h5⟩, h6⟩, h1⟩, h8⟩
    obtain ⟨k1, k2⟩ := key h2 h3 h5 h6
    have all : ∀ c, c < n → mBx Y U' T * (X c - X 0) + mBy X U' T * (Y c - Y 0) = sd X Y 0 1 T * (U' c - U' 0) ∧ mBx Y V' T * (X c - X 0) + mBy X V' T * (Y c - Y 0) = sd X Y 0 1 T * (V' c - V' 0) := fun c hc => by
      refine (k2 c hc).mp ?_
      exact Classical.byContradiction fun q => h8 ⟨c, by omega, by omega, q⟩
    exact ⟨⟨k1.mp h1, h2, h3, fun c hc => (all c hc).1⟩, h5, h6, fun c hc => (all c hc).2⟩
theorem third_c {n : Nat} {X Y X' Y' : Nat → Int} (hx : Ag n X X') (hy : Ag n Y Y') : ∀ (d i : Nat), 2 ≤ i → i + d ≤ n → thF X Y d i = thF X' Y' d i
  | 0, i, h, h2 => rfl
  | d + 1, i, h, h2 => by rw [thF, thF, sd_c hx hy (by omega) (by omega) (by omega), third_c hx hy d (i + 1) (by omega) (by omega)]
theorem mapC_c {n : Nat} {X Y X' Y' : Nat → Int} (hx : Ag n X X') (hy : Ag n Y Y') (h3 : 3 ≤ n) (U V : Nat → Int) (sg : Int) : mapC X Y U V n sg = mapC X' Y' U V n sg := by
  have e : third X Y n = third X' Y' n := third_c hx hy (n - 2) 2 (by omega) (by omega)
  unfold mapC
  rw [e]
  by_cases ht : third X' Y' n < n
  · have er : ∀ Z : Nat → Int, rowM X Y Z n (third X' Y' n) = rowM X' Y' Z n (third X' Y' n) := fun Z => by
      have e1 : mAr X Y (third X' Y' n) = mAr X' Y' (third X' Y' n) := by unfold mAr; rw [hx 0 (by omega), hx 1 (by omega), hx _ ht, hy 0 (by omega), hy 1 (by omega), hy _ ht]
      have e2 : mBx Y Z (third X' Y' n) = mBx Y' Z (third X' Y' n) := by unfold mBx; rw [hy 0 (by omega), hy 1 (by omega), hy _ ht]
      have e3 : mBy X Z (third X' Y' n) = mBy X' Z (third X' Y' n) := by unfold mBy; rw [hx 0 (by omega), hx 1 (by omega), hx _ ht]
      unfold rowM
      rw [e1, e2, e3]
      congr 2
      refine anyF_c _ _ (fun j j1 j2 => ?_)
      unfold rmN
      rw [e1, e2, e3, hx j (by omega), hy j (by omega), hx 0 (by omega), hy 0 (by omega)]
    rw [er, er, sd_c hx hy (by omega) (by omega) ht]
  · simp [ht]
theorem lk_eq {Z : CZ} {M : MZ} (hI : Inv Z M) {f g : Nat} (hf : f < 4) (hg : g < 4) (sf : sM M f = true) (r : Int) : lkZ Z f g r = lkM M f g (third (fw (mX M) f) (fw (mY M) f) (mM M f)) r := by
  have h3 := sM_3 sf
  unfold lkZ lkM likC
  rw [hI.N hf, hI.N hg]
  by_cases c : mM M f = mM M g
  · rw [decide_eq_true c, Bool.true_and, Bool.true_and]
    refine anyF_c _ _ (fun st s1 s2 => ?_)
    have hst : st < mM M f := by omega
    unfold likS lkB
    have ax : Ag (mM M f) (zX Z g) (fw (mX M) g) := by rw [c]; exact hI.X hg
    have ay : Ag (mM M f) (zY Z g) (fw (mY M) g) := by rw [c]; exact hI.Y hg
    have S := hI.S hf sf
    rw [mapC_c (hI.X hf) (hI.Y hf) h3, mapC_c (hI.X hf) (hI.Y hf) h3]
    congr 1
    · refine map_eq S.thd rfl (fun j hj => ?_)
      unfold ars
      rw [← arq_f (by omega) j st hst]
      have := arq_lt (bk := false) j st hst
      exact ⟨ax _ this, ay _ this⟩
    · refine map_eq S.thd rfl (fun j hj => ?_)
      unfold ars
      rw [← arq_b (by omega) j st hst hj]
      have := arq_lt (bk := true) j st hst
      exact ⟨ax _ this, ay _ this⟩
  · rw [decide_eq_false c]; rfl
theorem ob_alike {Z : CZ} {M : MZ} (hI : Inv Z M) (f g : Int) : ∃ T : Nat, (∀ p : Nat, p < 4 → f = (p : Int) → sM M p = true → thd (fw (mX M) p) (fw (mY M) p) (mM M p) T) ∧ aAlike Z f g = bAlike M f g T ∧ aMir Z f g = bMirr M f g T := by
  refine ⟨third (fw (mX M) f.toNat) (fw (mY M) f.toNat) (mM M f.toNat), ?_, ?_, ?_⟩
  · rintro p hp rfl hs
    rw [i_nn]
    exact (hI.S hp hs).thd
  · unfold aAlike bAlike
    rw [rf_eq hI]
    by_cases h : rfM M f g = 0
    · rw [if_pos h, if_pos h]
      obtain ⟨p, r, hp, hr, rfl, rfl, s1, s2⟩ := rfM_t h
      rw [i_nn, i_nn, lk_eq hI hp hr s1, lk_eq hI hp hr s1]
    · rw [if_neg h, if_neg h]
  · unfold aMir bMirr
    rw [rf_eq hI]
    by_cases h : rfM M f g = 0
    · rw [if_pos h, if_pos h]
      obtain ⟨p, r, hp, hr, rfl, rfl, s1, s2⟩ := rfM_t h
      rw [i_nn, i_nn, lk_eq hI hp hr s1]
    · rw [if_neg h, if_neg h]
