/-! The small machine's heap, locals and stack as the real machine's. -/
/-- the script's own cell has this number in the small machine -/
def SL : Nat := 1000000
def cvN (b sb k : Nat) : Nat := if k = SL then sb else b + k
def cv (b sb : Nat) (v : Value) : Value := match v with
  | .ref k => .ref (cvN b sb k)
  | v => v
def cvA (b sb : Nat) (a : vp_A) : vp_A := match a with
  | (n, .inr (.inr (.inr (.inr f)))) => (n, .inr (.inr (.inr (.inr (fun j => (f j).map (cvN b sb))))))
  | a => a
def cvE (dA : Nat → ClassId) (b sb : Nat) (e : fE) : va_E := match e with
  | .inl (k, a) => .inl (dA k, cvA b sb a)
  | .inr (ci, fs) => .inr (ci, fs.map (cv b sb))
def wsO (dA : Nat → ClassId) (b sb : Nat) (hp : fH) : va_W := (List.range hp.1).map (fun k => (b + k, cvE dA b sb (hp.2.2 k)))
def bad : fE := .inr (99, [])
theorem wsO_get {dA : Nat → ClassId} {b sb : Nat} {hp : fH} {k : Nat} (h : k < hp.1) : (wsO dA b sb hp)[k]? = some (b + k, cvE dA b sb (hp.2.2 k)) := by
  simp [wsO, h]
theorem wsO_at {dA : Nat → ClassId} {b sb : Nat} {hp : fH} {k : Nat} {q : Nat × va_E} (h : (wsO dA b sb hp)[k]? = some q) : k < hp.1 ∧ q = (b + k, cvE dA b sb (hp.2.2 k)) := by
  have hk : k < hp.1 := by
    have := (List.getElem?_eq_some_iff.mp h).1
    simpa [wsO] using this
  rw [wsO_get hk] at h
  exact ⟨hk, (Option.some.inj h).symm⟩
theorem wsO_set {dA : Nat → ClassId} {b sb : Nat} {hp : fH} {k : Nat} (e : fE) : (wsO dA b sb hp).set k (b + k, cvE dA b sb e) = wsO dA b sb (f_st hp k e) := by
  apply List.ext_getElem?
  intro i
  rw [List.getElem?_set]
  by_cases hi : i < hp.1
  · by_cases hk : k = i
    · subst hk
      rw [if_pos rfl, if_pos (by simpa [wsO] using hi), wsO_get (show k < (f_st hp k e).1 from hi)]
      simp [f_st, f_up]
    · rw [if_neg hk, wsO_get hi, wsO_get (show i < (f_st hp k e).1 from hi)]
      simp [f_st, f_up, Ne.symm hk]
  · have h1 : (wsO dA b sb hp)[i]? = none := by simp [wsO]; omega
    have h2 : (wsO dA b sb (f_st hp k e))[i]? = none := by simp [wsO, f_st]; omega
    rw [h1, h2]
    by_cases hk : k = i
    · subst hk
      rw [if_pos rfl, if_neg (by simpa [wsO] using hi)]
    · rw [if_neg hk]
theorem wsO_new {dA : Nat → ClassId} {b sb : Nat} {hp : fH} (n : Nat) (e : fE) : wsO dA b sb (f_new hp n e) = wsO dA b sb hp ++ [(b + hp.1, cvE dA b sb e)] := by
  simp only [wsO, f_new, List.range_succ, List.map_append, List.map_cons, List.map_nil]
  congr 1
  · apply List.map_congr_left
    intro k hk
    have : k < hp.1 := List.mem_range.mp hk
    simp [f_up, Nat.ne_of_lt this]
  · simp [f_up]
theorem wsO_D {dA : Nat → ClassId} {b sb : Nat} {hp : fH} : va_D (fun q => b ≤ q) (wsO dA b sb hp) := by
  refine ⟨fun i j x y hx hy hxy => ?_, fun k q hq => ?_⟩
  · obtain ⟨-, rfl⟩ := wsO_at hx
    obtain ⟨-, rfl⟩ := wsO_at hy
    dsimp only at hxy
    omega
  · obtain ⟨-, rfl⟩ := wsO_at hq
    exact Nat.le_add_right _ _
/-- the real heap holds the small machine's cells, from b on, and the script at sb -/
def RH (dC : Nat → ClassId) (dI : Nat → Nat → Nat) (dA : Nat → ClassId) (b sb : Nat) (U : State) (hp : fH) (H : Heap) : Prop :=
  va_P (dC, dI) vwCl (wsO dA b sb hp) H ∧ (∀ n f, hp.2.2 SL = .inl (9, n, .inl f) → va_X sb n f U H) ∧ (∀ k, hp.1 ≤ k → k ≠ SL → hp.2.2 k = bad) ∧ hp.1 ≤ SL ∧ (∀ k, k ≠ SL → ∀ n x, hp.2.2 k ≠ .inl (9, n, x)) ∧ (hp.2.2 SL = bad ∨ ∃ n f, hp.2.2 SL = .inl (9, n, .inl f))
theorem RH.moved {dC : Nat → ClassId} {dI : Nat → Nat → Nat} {dA : Nat → ClassId} {b sb : Nat} {u U : State} {hp : fH} {H : Heap} (hvm : u.vm.Alike U.vm) (h : RH dC dI dA b sb u hp H) : RH dC dI dA b sb U hp H :=
  ⟨h.1, fun n f e => va_X.moved hvm (h.2.1 n f e), h.2.2⟩
/-- a number of a cell that isn't bad is below the size, or the script's -/
theorem RH.lt {dC : Nat → ClassId} {dI : Nat → Nat → Nat} {dA : Nat → ClassId} {b sb : Nat} {U : State} {hp : fH} {H : Heap} (h : RH dC dI dA b sb U hp H) {k : Nat} (hb : hp.2.2 k ≠ bad) (h9 : k ≠ SL) : k < hp.1 := by
  rcases Nat.lt_or_ge k hp.1 with q | q
  · exact q
  · exact absurd (h.2.2.1 k q h9) hb
/-- a cell is written -/
theorem RH.put {dC : Nat → ClassId} {dI : Nat → Nat → Nat} {dA : Nat → ClassId} {b sb : Nat} {U : State} {hp : fH} {H H1 : Heap} (h : RH dC dI dA b sb U hp H) {k : Nat} {e : fE} (hk : k < hp.1) (he : ∀ n x, e ≠ .inl (9, n, x)) (ho : H1[sb]? = H[sb]?) (hP : va_P (dC, dI) vwCl (wsO dA b sb (f_st hp k e)) H1) : RH dC dI dA b sb U (f_st hp k e) H1 := by
  obtain ⟨a2, a3, a4, a5, a6, a7⟩ := h
  have hks : SL ≠ k := by omega
  have e0 : (f_st hp k e).2.2 SL = hp.2.2 SL := by simp [f_st, f_up, hks]
  refine ⟨hP, fun n f q => ?_, fun j hj h9 => ?_, a5, fun j hj n x => ?_, by rw [e0]; exact a7⟩
  · rw [e0] at q
    exact (a3 n f q).kept ho
  · have : j ≠ k := by have : (f_st hp k e).1 = hp.1 := rfl; omega
    show f_up hp.2.2 k e j = bad
    simp only [f_up, if_neg this]
    exact a4 j hj h9
  · show f_up hp.2.2 k e j ≠ _
    by_cases hjk : j = k
    · simp only [f_up, if_pos hjk]; exact he n x
    · simp only [f_up, if_neg hjk]; exact a6 j hj n x
theorem RH.new {dC : Nat → ClassId} {dI : Nat → Nat → Nat} {dA : Nat → ClassId} {b sb : Nat} {U : State} {hp : fH} {H H1 : Heap} (h : RH dC dI dA b sb U hp H) {n : Nat} {e : fE} (hk : hp.1 < SL) (he : ∀ n x, e ≠ .inl (9, n, x)) (ho : H1[sb]? = H[sb]?) (hP : va_P (dC, dI) vwCl (wsO dA b sb (f_new hp n e)) H1) : RH dC dI dA b sb U (f_new hp n e) H1 := by
  obtain ⟨a2, a3, a4, a5, a6, a7⟩ := h
  have hks : SL ≠ hp.1 := by omega
  have e0 : (f_new hp n e).2.2 SL = hp.2.2 SL := by simp [f_new, f_up, hks]
  have e1 : (f_new hp n e).1 = hp.1 + 1 := rfl
  refine ⟨hP, fun n f q => ?_, fun j hj h9 => ?_, by omega, fun j hj n x => ?_, by rw [e0]; exact a7⟩
  · rw [e0] at q
    exact (a3 n f q).kept ho
  · have : j ≠ hp.1 := by omega
    show f_up hp.2.2 hp.1 e j = bad
    simp only [f_up, if_neg this]
    exact a4 j (by omega) h9
  · show f_up hp.2.2 hp.1 e j ≠ _
    by_cases hjk : j = hp.1
    · simp only [f_up, if_pos hjk]; exact he n x
    · simp only [f_up, if_neg hjk]; exact a6 j hj n x
/-! locals -/
def isJk (v : Value) : Bool := match v with
  | .retAddr _ => true
  | _ => false
def lvA (b sb : Nat) : Nat → List Value → List (Nat × Value)
  | _, [] => []
  | i, v :: t => if isJk v = true then lvA b sb (i + 1) t else (i, cv b sb v) :: lvA b sb (i + 1) t
theorem lvA_mem {b sb : Nat} : ∀ (lv : List Value) (j i : Nat) (v : Value), lv[i]? = some v → isJk v = false → (j + i, cv b sb v) ∈ lvA b sb j lv
  | [], j, i, v, h, _ => by simp at h
  | a :: t, j, 0, v, h, hv => by
    simp at h
    subst h
    simp [lvA, hv]
  | a :: t, j, i + 1, v, h, hv => by
    have h1 := lvA_mem (b := b) (sb := sb) t (j + 1) i v (by simpa using h) hv
    rw [show j + 1 + i = j + (i + 1) by omega] at h1
    rw [lvA]
    split
    · exact h1
    · exact List.mem_cons_of_mem _ h1
theorem lvA_inv {b sb : Nat} : ∀ (lv : List Value) (j : Nat) (q : Nat × Value), q ∈ lvA b sb j lv → ∃ i v, lv[i]? = some v ∧ isJk v = false ∧ q = (j + i, cv b sb v)
  | [], j, q, h => by simp [lvA] at h
  | a :: t, j, q, h => by
    rw [lvA] at h
    split at h
    · obtain ⟨i, v, h1, h2, h3⟩ := lvA_inv t (j + 1) q h
      exact ⟨i + 1, v, by simpa using h1, h2, by rw [h3]; congr 1; omega⟩
    · rename_i hj
      rcases List.mem_cons.mp h with h | h
      · exact ⟨0, a, by simp, by simpa using hj, by simpa using h⟩
      · obtain ⟨i, v, h1, h2, h3⟩ := lvA_inv t (j + 1) q h
        exact ⟨i + 1, v, by simpa using h1, h2, by rw [h3]; congr 1; omega⟩
theorem sto_get : ∀ (lv : List Value) (i : Nat) (v : Value) (lv' : List Value), sto lv i v = some lv' → i < lv.length ∧ lv'.length = lv.length ∧ ∀ j w, lv'[j]? = some w → isJk w = false → (j = i ∧ w = v) ∨ (j ≠ i ∧ lv[j]? = some w ∧ ¬ (j + 1 = i ∧ isL w = true))
  | [], i, v, lv', h => by simp [sto] at h
  | a :: t, 0, v, lv', h => by
    simp only [sto, Option.some.injEq] at h
    subst h
    refine ⟨by simp, by simp, fun j w hj hw => ?_⟩
    cases j with
    | zero => simp at hj; exact Or.inl ⟨rfl, hj.symm⟩
    | succ j => exact Or.inr ⟨by omega, by simpa using hj, by omega⟩
  | a :: t, i + 1, v, lv', h => by
    rw [sto, Option.map_eq_some_iff] at h
    obtain ⟨r, h1, rfl⟩ := h
    obtain ⟨g1, g2, g3⟩ := sto_get t i v r h1
    refine ⟨by simp; omega, by simp [g2], fun j w hj hw => ?_⟩
    cases j with
    | zero =>
      simp only [List.getElem?_cons_zero, Option.some.injEq] at hj
      by_cases hc : i = 0 ∧ isL a = true
      · rw [if_pos hc] at hj
        subst hj
        simp [isJk, jk] at hw
      · rw [if_neg hc] at hj
        subst hj
        refine Or.inr ⟨by omega, by simp, fun q => hc ⟨by omega, q.2⟩⟩
    | succ j =>
      rcases g3 j w (by simpa using hj) hw with ⟨q1, q2⟩ | ⟨q1, q2, q3⟩
      · exact Or.inl ⟨by omega, q2⟩
      · exact Or.inr ⟨by omega, by simpa using q2, fun q => q3 ⟨by omega, q.2⟩⟩
theorem sto2_get : ∀ (lv : List Value) (i : Nat) (v : Value) (lv' : List Value), sto2 lv i v = some lv' → i + 1 < lv.length ∧ lv'.length = lv.length ∧ ∀ j w, lv'[j]? = some w → isJk w = false → (j = i ∧ w = v) ∨ (j ≠ i ∧ j ≠ i + 1 ∧ lv[j]? = some w ∧ ¬ (j + 1 = i ∧ isL w = true))
  | [], i, v, lv', h => by simp [sto2] at h
  | a :: t, 0, v, lv', h => by
    rw [sto2, Option.map_eq_some_iff] at h
    obtain ⟨r, h1, rfl⟩ := h
    obtain ⟨g1, g2, g3⟩ := sto_get t 0 jk r h1
    refine ⟨by simp; omega, by simp [g2], fun j w hj hw => ?_⟩
    cases j with
    | zero => simp at hj; exact Or.inl ⟨rfl, hj.symm⟩
    | succ j =>
      rcases g3 j w (by simpa using hj) hw with ⟨q1, q2⟩ | ⟨q1, q2, q3⟩
      · subst q2; simp [isJk, jk] at hw
      · exact Or.inr ⟨by omega, by omega, by simpa using q2, by omega⟩
  | a :: t, i + 1, v, lv', h => by
    rw [sto2, Option.map_eq_some_iff] at h
    obtain ⟨r, h1, rfl⟩ := h
    obtain ⟨g1, g2, g3⟩ := sto2_get t i v r h1
    refine ⟨by simp; omega, by simp [g2], fun j w hj hw => ?_⟩
    cases j with
    | zero =>
      simp only [List.getElem?_cons_zero, Option.some.injEq] at hj
      by_cases hc : i = 0 ∧ isL a = true
      · rw [if_pos hc] at hj
        subst hj
        simp [isJk, jk] at hw
      · rw [if_neg hc] at hj
        subst hj
        refine Or.inr ⟨by omega, by omega, by simp, fun q => hc ⟨by omega, q.2⟩⟩
    | succ j =>
      rcases g3 j w (by simpa using hj) hw with ⟨q1, q2⟩ | ⟨q1, q2, q3, q4⟩
      · exact Or.inl ⟨by omega, q2⟩
      · exact Or.inr ⟨by omega, by omega, by simpa using q3, fun q => q4 ⟨by omega, q.2⟩⟩
def LV (b sb nL : Nat) (lv : List Value) (ls : Array Slot) : Prop := lv.length = nL ∧ lv_has ls nL (lvA b sb 0 lv)
theorem LV.at {b sb nL : Nat} {lv : List Value} {ls : Array Slot} (h : LV b sb nL lv ls) {i : Nat} {v : Value} (hi : lv[i]? = some v) (hv : isJk v = false) : ls[i]? = some (.val (cv b sb v)) := by
  have h1 := lvA_mem (b := b) (sb := sb) lv 0 i v hi hv
  rw [Nat.zero_add] at h1
  exact h.2.2.2 _ h1
theorem cv_cat (b sb : Nat) (v : Value) : (cv b sb v).category = 2 → isL v = true := by
  cases v <;> simp [cv, Value.category, isL]
theorem LV.sto1 {b sb nL : Nat} {lv lv' : List Value} {ls ls' : Array Slot} {i : Nat} {v : Value} (h : LV b sb nL lv ls) (hs : sto lv i v = some lv')
    (hl : lv_has ls' nL ((i, cv b sb v) :: (lvA b sb 0 lv).filter (fun q => !(q.1 == i) && !(q.1 + 1 == i && q.2.category == 2)))) : LV b sb nL lv' ls' := by
  obtain ⟨g1, g2, g3⟩ := sto_get lv i v lv' hs
  refine ⟨g2.trans h.1, hl.1, hl.2.1, fun q hq => ?_⟩
  obtain ⟨j, w, q1, q2, rfl⟩ := lvA_inv lv' 0 q hq
  rw [Nat.zero_add] at hq ⊢
  rcases g3 j w q1 q2 with ⟨rfl, rfl⟩ | ⟨r1, r2, r3⟩
  · exact hl.2.2 _ List.mem_cons_self
  · have hm := lvA_mem (b := b) (sb := sb) lv 0 j w r2 q2
    rw [Nat.zero_add] at hm
    refine hl.2.2 (j, cv b sb w) (List.mem_cons_of_mem _ (List.mem_filter.mpr ⟨hm, ?_⟩))
    by_cases hc : j + 1 = i ∧ (cv b sb w).category = 2
    · exact absurd ⟨hc.1, cv_cat b sb w hc.2⟩ r3
    · simp only [Bool.and_eq_true, Bool.not_eq_true', beq_eq_false_iff_ne, ne_eq, r1, not_false_eq_true, true_and, Bool.and_eq_false_iff]
      by_cases hj : j + 1 = i
      · exact Or.inr (fun q => hc ⟨hj, q⟩)
      · exact Or.inl hj
theorem LV.sto2 {b sb nL : Nat} {lv lv' : List Value} {ls ls' : Array Slot} {i : Nat} {v : Value} (h : LV b sb nL lv ls) (hs : sto2 lv i v = some lv')
    (hl : lv_has ls' nL ((i, cv b sb v) :: (lvA b sb 0 lv).filter (fun q => !(q.1 == i) && (!(q.1 == i + 1) && !(q.1 + 1 == i && q.2.category == 2))))) : LV b sb nL lv' ls' := by
  obtain ⟨g1, g2, g3⟩ := sto2_get lv i v lv' hs
  refine ⟨g2.trans h.1, hl.1, hl.2.1, fun q hq => ?_⟩
  obtain ⟨j, w, q1, q2, rfl⟩ := lvA_inv lv' 0 q hq
  rw [Nat.zero_add] at hq ⊢
  rcases g3 j w q1 q2 with ⟨rfl, rfl⟩ | ⟨r1, r0, r2, r3⟩
  · exact hl.2.2 _ List.mem_cons_self
  · have hm := lvA_mem (b := b) (sb := sb) lv 0 j w r2 q2
    rw [Nat.zero_add] at hm
    refine hl.2.2 (j, cv b sb w) (List.mem_cons_of_mem _ (List.mem_filter.mpr ⟨hm, ?_⟩))
    by_cases hc : j + 1 = i ∧ (cv b sb w).category = 2
    · exact absurd ⟨hc.1, cv_cat b sb w hc.2⟩ r3
    · simp only [Bool.and_eq_true, Bool.not_eq_true', beq_eq_false_iff_ne, ne_eq, r1, r0, not_false_eq_true, true_and, Bool.and_eq_false_iff]
      by_cases hj : j + 1 = i
      · exact Or.inr (fun q => hc ⟨hj, q⟩)
      · exact Or.inl hj
