/-! Widths, areas, dots on the fences. -/
theorem wM_max (X Y : Nat → Int) (a b : Int) : ∀ (d i : Nat) (s : Int × Int), 1 ≤ i → itF (wM X Y a b) i d s = ((itF (wdS X Y a b) i d (s.2, s.1)).2, (itF (wdS X Y a b) i d (s.2, s.1)).1)
  | 0, i, s, h => rfl
  | d + 1, i, s, h => by
    rw [itF, itF, wM_max X Y a b d (i + 1) _ (by omega)]
    have e : ((wM X Y a b i s).2, (wM X Y a b i s).1) = wdS X Y a b i (s.2, s.1) := by
      unfold wM wdS
      rw [if_neg (by omega)]
      refine Prod.ext ?_ ?_
      · show (if s.2 ≤ a * X i + b * Y i then s.2 else a * X i + b * Y i) = min s.2 (a * X i + b * Y i)
        rw [Int.min_def]
      · show (if a * X i + b * Y i ≤ s.1 then s.1 else a * X i + b * Y i) = max s.1 (a * X i + b * Y i)
        rw [Int.max_def]
        split <;> split <;> omega
    rw [e]
theorem wid_eq (X Y : Nat → Int) {n : Nat} (h0 : 0 < n) (a b : Int) : wid X Y n a b = wdM X Y n a b := by
  unfold wid wdM
  have e : itF (wM X Y a b) 0 n (0, 0) = itF (wM X Y a b) 1 (n - 1) (a * X 0 + b * Y 0, a * X 0 + b * Y 0) := by
    obtain ⟨k, rfl⟩ : ∃ k, n = k + 1 := ⟨n - 1, by omega⟩
    rw [itF]
    have : wM X Y a b 0 (0, 0) = (a * X 0 + b * Y 0, a * X 0 + b * Y 0) := by unfold wM; rw [if_pos rfl]
    rw [this]; rfl
  rw [e, wM_max X Y a b _ _ _ (by omega)]
theorem wdS_c {n : Nat} {X Y X' Y' : Nat → Int} (hx : Ag n X X') (hy : Ag n Y Y') (a b : Int) : ∀ (d i : Nat) (s : Int × Int), i + d ≤ n → itF (wdS X Y a b) i d s = itF (wdS X' Y' a b) i d s
  | 0, i, s, h => rfl
  | d + 1, i, s, h => by
    have e : wdS X Y a b i s = wdS X' Y' a b i s := by unfold wdS; rw [hx i (by omega), hy i (by omega)]
    rw [itF, itF, e, wdS_c hx hy a b d (i + 1) _ (by omega)]
theorem wid_c {n : Nat} {X Y X' Y' : Nat → Int} (hx : Ag n X X') (hy : Ag n Y Y') (h0 : 0 < n) (a b : Int) : wid X Y n a b = wid X' Y' n a b := by
  unfold wid
  rw [hx 0 h0, hy 0 h0, wdS_c hx hy a b _ _ _ (by omega)]
theorem ob_wide {Z : CZ} {M : MZ} (hI : Inv Z M) (f a b : Int) : aWide Z f a b = wiM (mX M) (mY M) (mM M) f a b := by
  unfold aWide wiM
  by_cases h : fB f = true
  · obtain ⟨p, hp, rfl⟩ := fB_t h
    rw [if_pos h, if_pos h, i_nn, hI.N hp]
    by_cases c : mM M p = 0
    · rw [if_pos c, if_pos c]
    · rw [if_neg c, if_neg c, wid_c (hI.X hp) (hI.Y hp) (by omega), wid_eq _ _ (by omega)]
  · rw [if_neg h, if_neg h]
theorem gcdT_all : (List.range 16).all (fun p => (List.range 16).all (fun q => decide (p = 0 ∧ q = 0) || decide (gcdT p q 15 = Nat.gcd p q))) = true := by decide +kernel
theorem gcdT_eq {p q : Nat} (hp : p < 16) (hq : q < 16) (h : ¬ (p = 0 ∧ q = 0)) : gcdT p q 15 = Nat.gcd p q := by
  have w := List.all_eq_true.mp (List.all_eq_true.mp gcdT_all p (List.mem_range.mpr hp)) q (List.mem_range.mpr hq)
  rw [decide_eq_false h, Bool.false_or, decide_eq_true_eq] at w
  exact w
theorem wdS_neg (X Y : Nat → Int) : ∀ (d i : Nat) (s : Int × Int), itF (wdS X Y 0 1) i d s = (-(itF (wdS X Y 0 (-1)) i d (-s.2, -s.1)).2, -(itF (wdS X Y 0 (-1)) i d (-s.2, -s.1)).1)
  | 0, i, s => by rw [itF, itF]; exact Prod.ext (by simp) (by simp)
  | d + 1, i, s => by
    rw [itF, itF, wdS_neg X Y d (i + 1)]
    have e : (-(wdS X Y 0 1 i s).2, -(wdS X Y 0 1 i s).1) = wdS X Y 0 (-1) i (-s.2, -s.1) := by
      unfold wdS
      refine Prod.ext ?_ ?_
      · show -(max s.2 (0 * X i + 1 * Y i)) = min (-s.2) (0 * X i + -1 * Y i)
        omega
      · show -(min s.1 (0 * X i + 1 * Y i)) = max (-s.1) (0 * X i + -1 * Y i)
        omega
    rw [e]
theorem wid_neg (X Y : Nat → Int) (n : Nat) : wid X Y n 0 1 = wid X Y n 0 (-1) := by
  unfold wid
  rw [wdS_neg X Y]
  have e : (-(0 * X 0 + 1 * Y 0), -(0 * X 0 + 1 * Y 0)) = (0 * X 0 + -1 * Y 0, 0 * X 0 + -1 * Y 0) := Prod.ext (by omega) (by omega)
  dsimp only
  rw [e]
  omega
theorem nar_eq {X Y : Nat → Int} {n : Nat} (hR : Rg n X Y) (h0 : 0 < n) : nrS X Y n = nwM X Y n := by
  unfold nrS nwM
  have e0 : itF (nwS X Y n 0) 0 19 (1000000, 0, 0) = (wid X Y n 0 (-1), 0, -1) := by
    have hb := wdM_bd hR (a := 0) (b := -1) (by omega) (by omega)
    have no : ∀ (j : Nat) (s : Int × Int × Int), Nat.gcd 0 ((j : Int) - 9).natAbs ≠ 1 → nwS X Y n 0 j s = s := fun j s q => by unfold nwS; rw [if_neg (fun z => q z.1)]
    have st : ∀ s : Int × Int × Int, itF (nwS X Y n 0) 0 19 s = nwS X Y n 0 10 (nwS X Y n 0 8 s) := by
      intro s
      simp only [itF]
      rw [no 0 _ (by decide), no 1 _ (by decide), no 2 _ (by decide), no 3 _ (by decide), no 4 _ (by decide), no 5 _ (by decide), no 6 _ (by decide), no 7 _ (by decide), no 9 _ (by decide), no 11 _ (by decide), no 12 _ (by decide), no 13 _ (by decide), no 14 _ (by decide), no 15 _ (by decide), no 16 _ (by decide), no 17 _ (by decide), no 18 _ (by decide)]
    rw [st]
    have e8 : nwS X Y n 0 8 (1000000, 0, 0) = (wid X Y n 0 (-1), 0, -1) := by
      unfold nwS
      rw [wid_eq X Y h0]
      rw [if_pos ⟨by decide, by show wdM X Y n 0 (-1) < 1000000; omega⟩]; rfl
    rw [e8]
    unfold nwS
    rw [if_neg]
    intro q
    have q2 : wdM X Y n 0 1 < wid X Y n 0 (-1) := q.2
    rw [← wid_eq X Y h0, wid_neg] at q2
    omega
  have w : ∀ (F : Nat → Int × Int × Int → Int × Int × Int) (s : Int × Int × Int), itF F 0 10 s = itF F 1 9 (F 0 s) := fun F s => rfl
  rw [w, e0]
  refine itF_congr _ _ _ (fun p h1 h2 s => itF_congr _ _ _ (fun j h3 h4 t => ?_))
  unfold nrT nwS
  rw [gcdT_eq (by omega) (by omega) (by omega), wid_eq X Y h0]
theorem nrS_c {n : Nat} {X Y X' Y' : Nat → Int} (hx : Ag n X X') (hy : Ag n Y Y') (h0 : 0 < n) : nrS X Y n = nrS X' Y' n := by
  unfold nrS
  rw [wid_c hx hy h0]
  refine itF_congr _ _ _ (fun p h1 h2 s => itF_congr _ _ _ (fun j h3 h4 t => ?_))
  unfold nrT
  rw [wid_c hx hy h0]
theorem ob_narrow {Z : CZ} {M : MZ} (hI : Inv Z M) (f k : Int) : aNarrow Z f k = bNarrow M f k := by
  unfold aNarrow bNarrow
  by_cases h : fB f = true
  · obtain ⟨p, hp, rfl⟩ := fB_t h
    rw [if_pos h, if_pos h, i_nn, hI.N hp]
    by_cases c : mM M p = 0
    · rw [if_pos c, if_pos c]
    · rw [if_neg c, if_neg c]
      unfold aNar
      rw [nrS_c (hI.X hp) (hI.Y hp) (by omega), nar_eq (hI.R hp) (by omega)]
  · rw [if_neg h, if_neg h]
theorem fan_eq (X Y : Nat → Int) (p q : Nat) : ∀ (d k : Nat) (s : Int), p < k → k + d = q → itF (arS X Y p q) k (d + 1) s = fan X Y p k d (s - ar X Y p k)
  | 0, k, s, h1, h2 => by
    obtain rfl : k = q := by omega
    rw [itF, itF, fan]
    unfold arS
    rw [if_neg (by omega)]
    unfold ar
    grind
  | d + 1, k, s, h1, h2 => by
    rw [itF, fan, fan_eq X Y p q d (k + 1) _ (by omega) (by omega)]
    congr 1
    unfold arS
    rw [if_pos (by omega)]
    unfold ar sd
    grind
theorem areaP_eq (X Y : Nat → Int) {p q : Nat} (h : p < q) : areaP X Y p q = fan X Y p (p + 1) (q - (p + 1)) 0 := by
  unfold areaP
  obtain ⟨d, rfl⟩ : ∃ d, q = p + 1 + d := ⟨q - (p + 1), by omega⟩
  rw [show p + 1 + d + 1 - p = d + 1 + 1 by omega, itF, fan_eq X Y p _ d (p + 1) _ (by omega) rfl, show p + 1 + d - (p + 1) = d by omega]
  congr 1
  unfold arS
  rw [if_pos (by omega)]
  omega
theorem area_eq (X Y : Nat → Int) {n : Nat} (h : 2 ≤ n) : area X Y n = arM X Y n := by
  unfold area arM
  rw [areaP_eq X Y (show 0 < n - 1 by omega)]
theorem unl_eq (X Y : Nat → Int) {n a b : Nat} (h : 2 ≤ n) (hab : a ≠ b) : unl X Y n a b = (sdsM X Y n a b : Int) := by
  unfold unl sdsM
  rw [area_eq X Y h]
  by_cases c : a < b
  · rw [if_pos c, Nat.min_eq_left (by omega), Nat.max_eq_right (by omega), areaP_eq X Y c]
  · rw [if_neg c, Nat.min_eq_right (by omega), Nat.max_eq_left (by omega), areaP_eq X Y (show b < a by omega)]
theorem areaP_c {n : Nat} {X Y X' Y' : Nat → Int} (hx : Ag n X X') (hy : Ag n Y Y') {p q : Nat} (hp : p < n) (hq : q < n) (hpq : p ≤ q) : areaP X Y p q = areaP X' Y' p q := by
  unfold areaP
  refine itF_congr _ _ _ (fun k h1 h2 s => ?_)
  unfold arS ar
  have h3 : (if k < q then k + 1 else p) < n := by split <;> omega
  rw [hx k (by omega), hy k (by omega), hx _ h3, hy _ h3]
theorem area_c {n : Nat} {X Y X' Y' : Nat → Int} (hx : Ag n X X') (hy : Ag n Y Y') (h : 1 ≤ n) : area X Y n = area X' Y' n := areaP_c hx hy (by omega) (by omega) (by omega)
theorem unl_c {n : Nat} {X Y X' Y' : Nat → Int} (hx : Ag n X X') (hy : Ag n Y Y') {a b : Nat} (ha : a < n) (hb : b < n) : unl X Y n a b = unl X' Y' n a b := by
  unfold unl
  rw [area_c hx hy (by omega), areaP_c hx hy (by omega) (by omega) (by omega)]
theorem fenT_eq {X Y : Nat → Int} {n : Nat} (hR : Rg n X Y) (hD : Dst n X Y) (h2 : 2 ≤ n) {i : Nat} (hi : i < n) : fenT X Y n i = fnM X Y n i := by
  have hj := nx_lt hi
  have hne : i ≠ nx n i := by unfold nx; split <;> omega
  obtain ⟨a1, a2, a3, a4⟩ := hR i hi
  obtain ⟨b1, b2, b3, b4⟩ := hR _ hj
  have d := hD.ne hi hj hne
  unfold fenT fnM
  rw [gcdT_eq (by omega) (by omega) (by omega)]
  congr 1 <;> omega
theorem fenc_eq {X Y : Nat → Int} {n : Nat} (hR : Rg n X Y) (hD : Dst n X Y) (h2 : 2 ≤ n) : fenc X Y n = fncM X Y n := by
  unfold fenc fncM
  refine itF_congr _ _ _ (fun k h1 h3 s => ?_)
  rw [fenT_eq hR hD h2 (by omega)]
theorem fenc_c {n : Nat} {X Y X' Y' : Nat → Int} (hx : Ag n X X') (hy : Ag n Y Y') : fenc X Y n = fenc X' Y' n := by
  unfold fenc
  refine itF_congr _ _ _ (fun k h1 h3 s => ?_)
  have hk : k < n := by omega
  unfold fenT
  rw [hx k hk, hy k hk, hx _ (nx_lt hk), hy _ (nx_lt hk)]
theorem td2 (u : Int) (h : 0 ≤ u) : u.tdiv 2 + 1 = (u + 2).tdiv 2 := by
  rw [Int.tdiv_eq_ediv_of_nonneg h, Int.tdiv_eq_ediv_of_nonneg (by omega)]; omega
theorem ob_grown {Z : CZ} {M : MZ} (hI : Inv Z M) (f k : Int) : aGrown Z f k = bGrown M f k := by
  unfold aGrown bGrown
  by_cases h : fB f = true
  · obtain ⟨p, hp, rfl⟩ := fB_t h
    rw [if_pos h, if_pos h, i_nn, sn_eq hI hp, hI.N hp]
    by_cases c : 1 ≤ k ∧ k ≤ 99
    · rw [if_pos c, if_pos c]
      by_cases s : sM M p = true
      · have h3 := sM_3 s
        rw [if_pos s, if_pos s, area_c (hI.X hp) (hI.Y hp) (by omega), area_eq _ _ (by omega), fenc_c (hI.X hp) (hI.Y hp), fenc_eq (hI.R hp) (hI.D hp) (by omega)]
        refine td2 _ ?_
        have p1 : 0 ≤ ((arM (fw (mX M) p) (fw (mY M) p) (mM M p)).natAbs : Int) * k * k := Int.mul_nonneg (Int.mul_nonneg (by omega) (by omega)) (by omega)
        have p2 : 0 ≤ (fncM (fw (mX M) p) (fw (mY M) p) (mM M p) : Int) * k := Int.mul_nonneg (by omega) (by omega)
        omega
      · rw [if_neg s, if_neg s]
    · rw [if_neg c, if_neg c]
  · rw [if_neg h, if_neg h]
