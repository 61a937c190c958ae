/-! Hulls: the way round comes back, and the two lists are one. -/
theorem pigeon : ∀ (n : Nat) (f : Nat → Nat), (∀ i, i ≤ n → f i < n) → ∃ i j, i < j ∧ j ≤ n ∧ f i = f j
  | 0, f, h => absurd (h 0 (by omega)) (by omega)
  | n + 1, f, h => by
    by_cases c : ∃ i, i ≤ n ∧ f i = f (n + 1)
    · obtain ⟨i, h1, h2⟩ := c
      exact ⟨i, n + 1, by omega, by omega, h2⟩
    · have nc : ∀ i, i ≤ n → f i ≠ f (n + 1) := fun i hi e => c ⟨i, hi, e⟩
      have hv := h (n + 1) (by omega)
      obtain ⟨i, j, h1, h2, h3⟩ := pigeon n (fun i => if f i = n then f (n + 1) else f i) (fun i hi => by
        have := h i (by omega)
        have := nc i hi
        show (if f i = n then f (n + 1) else f i) < n
        split <;> omega)
      have n1 := nc i (by omega)
      have n2 := nc j (by omega)
      refine ⟨i, j, h1, by omega, ?_⟩
      have h4 : (if f i = n then f (n + 1) else f i) = (if f j = n then f (n + 1) else f j) := h3
      split at h4 <;> split at h4 <;> omega
theorem st_min {X Y : Nat → Int} : ∀ (d i s : Nat), (∀ c, c < i → X s < X c ∨ (X s = X c ∧ Y s ≤ Y c)) → ∀ c, c < i + d → X (itF (stS X Y) i d s) < X c ∨ (X (itF (stS X Y) i d s) = X c ∧ Y (itF (stS X Y) i d s) ≤ Y c)
  | 0, i, s, h => h
  | d + 1, i, s, h => by
    intro c hc
    rw [itF]
    refine st_min d (i + 1) _ (fun k hk => ?_) c (by omega)
    unfold stS
    by_cases q : X i < X s ∨ (X i = X s ∧ Y i < Y s)
    · rw [if_pos q]
      by_cases e : k = i
      · subst e; omega
      · have := h k (by omega); omega
    · rw [if_neg q]
      by_cases e : k = i
      · subst e; omega
      · exact h k (by omega)
theorem hu1_1 {X Y : Nat → Int} {N : Nat} : ∀ (d i : Nat) (s : Nat × Bool), (itF (h1S X Y N) i d s).1 = itF (stS X Y) i d s.1
  | 0, i, s => rfl
  | d + 1, i, s => by rw [itF, itF, hu1_1 d (i + 1)]; rfl
theorem hu1_b {X Y : Nat → Int} {N : Nat} : ∀ (d i : Nat) (s : Nat × Bool), (itF (h1S X Y N) i d s).2 = true ↔ s.2 = true ∧ ∀ c, i ≤ c → c < i + d → N < 2 ∨ sd X Y 0 1 c = 0
  | 0, i, s => ⟨fun h => ⟨h, fun c h1 h2 => by omega⟩, fun h => h.1⟩
  | d + 1, i, s => by
    rw [itF, hu1_b d (i + 1)]
    simp only [h1S, Bool.and_eq_true, Bool.or_eq_true, decide_eq_true_eq]
    constructor
    · rintro ⟨⟨a, b⟩, c⟩
      refine ⟨a, fun k h1 h2 => ?_⟩
      by_cases e : k = i
      · subst e; exact b
      · exact c k (by omega) (by omega)
    · rintro ⟨a, b⟩
      exact ⟨⟨a, b i (by omega) (by omega)⟩, fun k h1 h2 => b k (by omega) (by omega)⟩
theorem hst_eq {X Y : Nat → Int} {n : Nat} (hn : 1 ≤ n) : hst X Y n = (hu1 X Y n).1 := by
  unfold hst hu1
  rw [hu1_1]
  obtain ⟨m, rfl⟩ : ∃ m, n = m + 1 := ⟨n - 1, by omega⟩
  rw [itF]
  have e : stS X Y 0 0 = 0 := by unfold stS; rw [if_neg (by omega)]
  rw [e]; rfl
theorem line_eq {X Y : Nat → Int} {n : Nat} : inLine X Y n = (hu1 X Y n).2 := by
  rw [Bool.eq_iff_iff]
  unfold hu1 inLine
  rw [hu1_b]
  have e : (!anyF (isn X Y n) 2 (n - 2)) = true ↔ ¬ anyF (isn X Y n) 2 (n - 2) = true := by
    cases anyF (isn X Y n) 2 (n - 2) <;> simp
  rw [e, anyF_iff]
  constructor
  · intro h
    refine ⟨rfl, fun c h1 h2 => ?_⟩
    by_cases c0 : c = 0
    · right; subst c0; unfold sd; grind
    by_cases c1 : c = 1
    · right; subst c1; unfold sd; grind
    right
    refine Classical.byContradiction fun z => h ⟨c, by omega, by omega, ?_⟩
    exact decide_eq_true z
  · rintro ⟨_, h⟩ ⟨j, h1, h2, h3⟩
    have := h j (by omega) (by omega)
    unfold isn at h3
    rw [decide_eq_true_eq] at h3
    omega
theorem hu1_a {X Y : Nat → Int} {n : Nat} : (hu1 X Y n).1 = itF (stS X Y) 0 n 0 := hu1_1 n 0 (0, true)
theorem st_edg {X Y : Nat → Int} {n : Nat} (hn : 1 ≤ n) : EdgX n X Y (hu1 X Y n).1 := by
  have m := st_min (X := X) (Y := Y) n 0 0 (fun c hc => by omega)
  have l : (hu1 X Y n).1 < n := hu1_lt n 0 (0, true) hn (by omega)
  rw [hu1_a] at l ⊢
  generalize itF (stS X Y) 0 n 0 = a at l m ⊢
  refine ⟨l, 0, -1, by omega, fun c hc => ?_⟩
  have := m c (by omega)
  omega
theorem huC_s (X Y : Nat → Int) (n k : Nat) : huC X Y n (k + 1) = nxH X Y n (huC X Y n k) := rfl
theorem hu_edg {X Y : Nat → Int} {n : Nat} (hn : 2 ≤ n) (hD : Dst n X Y) : ∀ k, EdgX n X Y (huC X Y n k)
  | 0 => st_edg (by omega)
  | k + 1 => by
    have h := hu_edg hn hD k
    rw [huC_s]
    exact Edg.next hD h (next_eq hn hD h).1
theorem hu_inj {X Y : Nat → Int} {n : Nat} (hn : 2 ≤ n) (hD : Dst n X Y) : ∀ i j, huC X Y n i = huC X Y n (i + j) → huC X Y n j = (hu1 X Y n).1
  | 0, j, h => by rw [Nat.zero_add] at h; exact h.symm
  | i + 1, j, h => by
    refine hu_inj hn hD i j ?_
    have e : i + 1 + j = (i + j) + 1 := by omega
    rw [e, huC_s, huC_s] at h
    have b1 := (next_eq hn hD (hu_edg hn hD i)).1
    have b2 := (next_eq hn hD (hu_edg hn hD (i + j))).1
    rw [← h] at b2
    exact Edg.inj hD (hu_edg hn hD i) (hu_edg hn hD (i + j)) b1 b2
theorem least_of {P : Nat → Prop} : ∀ (n k : Nat), k ≤ n → P k → ∃ N, N ≤ n ∧ P N ∧ ∀ j, j < N → ¬ P j
  | 0, k, h, p => by
    have e : k = 0 := by omega
    rw [e] at p
    exact ⟨0, by omega, p, fun j hj => by omega⟩
  | n + 1, k, h, p => by
    by_cases c : ∃ j, j ≤ n ∧ P j
    · obtain ⟨j, h1, h2⟩ := c
      obtain ⟨N, a, b, d⟩ := least_of n j h1 h2
      exact ⟨N, by omega, b, d⟩
    · exact ⟨k, h, p, fun j hj q => c ⟨j, by omega, q⟩⟩
theorem hu_back {X Y : Nat → Int} {n : Nat} (hn : 2 ≤ n) (hD : Dst n X Y) : ∃ N, 1 ≤ N ∧ N ≤ n ∧ huC X Y n N = (hu1 X Y n).1 ∧ ∀ k, 0 < k → k < N → huC X Y n k ≠ (hu1 X Y n).1 := by
  obtain ⟨i, j, h1, h2, h3⟩ := pigeon n (huC X Y n) (fun i _ => (hu_edg hn hD i).1)
  obtain ⟨d, rfl⟩ : ∃ d, j = i + d := ⟨j - i, by omega⟩
  obtain ⟨N, a, b, c⟩ := least_of (P := fun k => 0 < k ∧ huC X Y n k = (hu1 X Y n).1) n d (by omega) ⟨by omega, hu_inj hn hD i d h3⟩
  exact ⟨N, by omega, a, b.2, fun k k1 k2 e => c k k2 ⟨k1, e⟩⟩
theorem hl_eq {X Y : Nat → Int} {n N : Nat} (hn : 2 ≤ n) (hD : Dst n X Y) (h1 : huC X Y n N = (hu1 X Y n).1) (h2 : ∀ k, 0 < k → k < N → huC X Y n k ≠ (hu1 X Y n).1) : ∀ (d k : Nat), k < N → N ≤ k + d → (hlL X Y n (hu1 X Y n).1 d (huC X Y n k)).length = N - k ∧ ∀ j, j < N - k → (hlL X Y n (hu1 X Y n).1 d (huC X Y n k)).getD j 0 = huC X Y n (k + j)
  | 0, k, a, b => by omega
  | d + 1, k, a, b => by
    rw [hlL, (next_eq hn hD (hu_edg hn hD k)).2, ← huC_s]
    by_cases c : k + 1 = N
    · rw [if_pos (by rw [c]; exact h1)]
      refine ⟨by simp only [List.length_cons, List.length_nil]; omega, fun j hj => ?_⟩
      obtain rfl : j = 0 := by omega
      rfl
    · rw [if_neg (h2 (k + 1) (by omega) (by omega))]
      obtain ⟨r1, r2⟩ := hl_eq hn hD h1 h2 d (k + 1) (by omega) (by omega)
      refine ⟨by rw [List.length_cons, r1]; omega, fun j hj => ?_⟩
      cases j with
      | zero => rfl
      | succ j =>
        rw [List.getD_cons_succ, r2 j (by omega)]
        congr 1; omega
theorem inLine_c {n : Nat} {X Y X' Y' : Nat → Int} (hx : Ag n X X') (hy : Ag n Y Y') : inLine X Y n = inLine X' Y' n := by
  unfold inLine
  rw [anyF_c (q := isn X' Y' n) (n - 2) 2 (fun j a b => by unfold isn; rw [sd_c hx hy (by omega) (by omega) (show j < n by omega)])]
theorem hst_c {n : Nat} {X Y X' Y' : Nat → Int} (hx : Ag n X X') (hy : Ag n Y Y') (hn : 1 ≤ n) : hst X Y n = hst X' Y' n := by
  have w := itF_sim (f := stS X Y) (g := stS X' Y') (R := fun s t => s = t ∧ s < n) (n - 1) 1 0 0 (fun k h1 h2 s t r => by
    obtain ⟨rfl, hs⟩ := r
    have hk : k < n := by omega
    unfold stS
    rw [← hx k hk, ← hx s hs, ← hy k hk, ← hy s hs]
    exact ⟨rfl, by split <;> omega⟩) ⟨rfl, by omega⟩
  exact w.1
theorem rmost_c {n : Nat} {X Y X' Y' : Nat → Int} (hx : Ag n X X') (hy : Ag n Y Y') {a : Nat} (ha : a < n) : rmost X Y n a = rmost X' Y' n a := by
  have w := itF_sim (f := rmS X Y a) (g := rmS X' Y' a) (R := fun s t => s = t ∧ s < n) n 0 (nx n a) (nx n a) (fun k h1 h2 s t r => by
    obtain ⟨rfl, hs⟩ := r
    have hk : k < n := by omega
    unfold rmS
    rw [sd_c hx hy ha hs hk, btw_c hx hy ha hk hs]
    refine ⟨rfl, ?_⟩
    split
    · exact hs
    · split <;> omega) ⟨rfl, nx_lt ha⟩
  exact w.1
theorem hlL_c {n : Nat} {X Y X' Y' : Nat → Int} (hx : Ag n X X') (hy : Ag n Y Y') {st : Nat} : ∀ (d a : Nat), a < n → hlL X Y n st d a = hlL X' Y' n st d a
  | 0, a, h => rfl
  | d + 1, a, h => by
    rw [hlL, hlL, rmost_c hx hy h, hlL_c hx hy d _ (rmost_lt h)]
