/-! Sight of the reference: no fence is crossed. -/
def lt2 (p q : Int × Int) : Prop := p.1 * q.2 < q.1 * p.2
theorem nlt2 {p q : Int × Int} : ¬ lt2 p q ↔ le2 q p := by unfold lt2 le2; omega
theorem nle2 {p q : Int × Int} : ¬ le2 p q ↔ lt2 q p := by unfold lt2 le2; omega
theorem le_lt2 {p q r : Int × Int} (hp : 0 < p.2) (hq : 0 < q.2) (hr : 0 < r.2) (h1 : le2 p q) (h2 : lt2 q r) : lt2 p r := by
  refine Classical.byContradiction fun c => ?_
  have := le2_tr hr hp hq (nlt2.mp c) h1
  unfold le2 lt2 at *
  omega
theorem lt_le2 {p q r : Int × Int} (hp : 0 < p.2) (hq : 0 < q.2) (hr : 0 < r.2) (h1 : lt2 p q) (h2 : le2 q r) : lt2 p r := by
  refine Classical.byContradiction fun c => ?_
  have := le2_tr hq hr hp h2 (nlt2.mp c)
  unfold le2 lt2 at *
  omega
theorem lt_2 {p q : Int × Int} (h : lt2 p q) : le2 p q := by unfold le2 lt2 at *; omega
def md2 (p q : Int × Int) : Int × Int := (p.1 * q.2 + q.1 * p.2, 2 * p.2 * q.2)
theorem md_pos {p q : Int × Int} (hp : 0 < p.2) (hq : 0 < q.2) : 0 < (md2 p q).2 := by
  unfold md2
  simp only
  have := Int.mul_pos hp hq
  rw [Int.mul_assoc]
  omega
theorem md_lt {p q : Int × Int} (hp : 0 < p.2) (hq : 0 < q.2) (h : lt2 p q) : lt2 p (md2 p q) ∧ lt2 (md2 p q) q := by
  unfold lt2 md2 at *
  simp only
  have a := Int.mul_lt_mul_of_pos_right h hp
  have b := Int.mul_lt_mul_of_pos_right h hq
  constructor
  · have e1 : p.1 * (2 * p.2 * q.2) = p.1 * q.2 * p.2 + p.1 * q.2 * p.2 := by grind
    have e2 : (p.1 * q.2 + q.1 * p.2) * p.2 = p.1 * q.2 * p.2 + q.1 * p.2 * p.2 := by grind
    omega
  · have e1 : q.1 * (2 * p.2 * q.2) = q.1 * p.2 * q.2 + q.1 * p.2 * q.2 := by grind
    have e2 : (p.1 * q.2 + q.1 * p.2) * q.2 = p.1 * q.2 * q.2 + q.1 * p.2 * q.2 := by grind
    omega
theorem md_in {p q : Int × Int} (hp : 0 < p.2) (hq : 0 < q.2) (p1 : 0 ≤ p.1) (p2 : p.1 ≤ p.2) (q1 : 0 ≤ q.1) (q2 : q.1 ≤ q.2) : 0 ≤ (md2 p q).1 ∧ (md2 p q).1 ≤ (md2 p q).2 := by
  unfold md2
  simp only
  have a := Int.mul_nonneg p1 (show 0 ≤ q.2 by omega)
  have b := Int.mul_nonneg q1 (show 0 ≤ p.2 by omega)
  have c := Int.mul_le_mul_of_nonneg_right p2 (show 0 ≤ q.2 by omega)
  have d := Int.mul_le_mul_of_nonneg_right q2 (show 0 ≤ p.2 by omega)
  have e : 2 * p.2 * q.2 = p.2 * q.2 + p.2 * q.2 := by grind
  have f : q.2 * p.2 = p.2 * q.2 := Int.mul_comm ..
  omega
/-- the point at a part of the way -/
def poP (X Y : Nat → Int) (c o : Nat) (t : Int × Int) : V3 := cb (t.2 - t.1) (hat X Y c) t.1 (hat X Y o)
theorem poP_eq (X Y : Nat → Int) (c o : Nat) (t : Int × Int) : poP X Y c o t = (X c * t.2 + (X o - X c) * t.1, Y c * t.2 + (Y o - Y c) * t.1, t.2) := by
  unfold poP cb hat
  refine v3_ext ?_ ?_ ?_ <;> simp only <;> grind
theorem poP_3 (X Y : Nat → Int) (c o : Nat) (t : Int × Int) : (poP X Y c o t).2.2 = t.2 := by rw [poP_eq]
theorem okP_pr {X Y : Nat → Int} {n c o : Nat} (hD : Dst n X Y) (h2 : 2 ≤ n) {p q : Int × Int} (hp : 0 < p.2) (hq : 0 < q.2) (h : okP X Y n c o p q = true) (hn : ∀ e, e < n → Nn (poP X Y c o (md2 p q)) (hat X Y e) (hat X Y (nx n e))) : pr (hat X Y) n (poP X Y c o (md2 p q)) = true := by
  have hb := md_pos hp hq
  unfold okP at h
  rw [decide_eq_true_eq] at h
  rw [poP_eq] at hn ⊢
  have w := wh_off hD h2 hb hn
  unfold md2 at w hn ⊢
  simp only at w hn ⊢
  rw [w] at h
  split at h
  · next z => exact z
  · omega
theorem cut_xy {X Y : Nat → Int} {c o e f : Nat} {m x y : Int} {t : Int × Int} (h : cb m (poP X Y c o t) 0 (poP X Y c o t) = cb x (hat X Y e) y (hat X Y f)) : cb (m * (t.2 - t.1)) (hat X Y c) (m * t.1) (hat X Y o) = cb x (hat X Y e) y (hat X Y f) := by
  rw [← h]
  unfold poP cb
  refine v3_ext ?_ ?_ ?_ <;> simp only <;> grind
/-- how far along, by weights -/
theorem prt_cb {X Y : Nat → Int} {c o e f : Nat} {i j x y : Int} (h : cb i (hat X Y c) j (hat X Y o) = cb x (hat X Y e) y (hat X Y f)) : x * prt X Y c o e + y * prt X Y c o f = j * lng X Y c o ∧ x + y = i + j := by
  obtain ⟨e1, e2, e3⟩ := cb_xy h
  refine ⟨?_, by omega⟩
  unfold prt lng
  grind
/-- a fence along the line, that holds the point, told by its ends -/
theorem along {X Y : Nat → Int} {c o y z : Nat} (hL : 0 < lng X Y c o) (sy : sd X Y c o y = 0) (sz : sd X Y c o z = 0) (t : Int × Int) : cb ((prt X Y c o z - prt X Y c o y) * (t.2 - t.1)) (hat X Y c) ((prt X Y c o z - prt X Y c o y) * t.1) (hat X Y o) = cb (prt X Y c o z * t.2 - t.1 * lng X Y c o) (hat X Y y) (t.1 * lng X Y c o - prt X Y c o y * t.2) (hat X Y z) := by
  have hy := cb_xy (cb_lift (m := c) sy)
  have hz := cb_xy (cb_lift (m := c) sz)
  refine cb_of ?_ ?_ ?_
  · refine Int.eq_of_mul_eq_mul_left (show lng X Y c o ≠ 0 by omega) ?_
    obtain ⟨a1, _, _⟩ := hy
    obtain ⟨b1, _, _⟩ := hz
    grind
  · refine Int.eq_of_mul_eq_mul_left (show lng X Y c o ≠ 0 by omega) ?_
    obtain ⟨_, a1, _⟩ := hy
    obtain ⟨_, b1, _⟩ := hz
    grind
  · grind
section
variable {X Y : Nat → Int} {n c o k : Nat} {x0 y0 : Int} {T : Int × Int}
/-- T is an inner point of fence k, which does not lie along -/
def Cro (X Y : Nat → Int) (n c o k : Nat) (T : Int × Int) : Prop := 0 < T.2 ∧ 0 < T.1 ∧ T.1 < T.2 ∧ k < n ∧ sd X Y c o k ≠ 0 ∧ ∃ m x0 y0 : Int, 0 < m ∧ 0 < x0 ∧ 0 < y0 ∧ cb (m * (T.2 - T.1)) (hat X Y c) (m * T.1) (hat X Y o) = cb x0 (hat X Y k) y0 (hat X Y (nx n k))
theorem Cro.no (h : SndF n X Y) (hL : 0 < lng X Y c o) (hT : Cro X Y n c o k T) {e : Nat} (he : e < n) (ek : e ≠ k) {m x y : Int} (hm : 0 < m) (hx : 0 ≤ x) (hy : 0 ≤ y) (q : cb (m * (T.2 - T.1)) (hat X Y c) (m * T.1) (hat X Y o) = cb x (hat X Y e) y (hat X Y (nx n e))) : False := by
  obtain ⟨t1, t2, t3, hk, s, m', x0, y0, hm', hx0, hy0, q0⟩ := hT
  have w : cb (m * x0) (hat X Y k) (m * y0) (hat X Y (nx n k)) = cb (m' * x) (hat X Y e) (m' * y) (hat X Y (nx n e)) := by
    have a : cb (m * x0) (hat X Y k) (m * y0) (hat X Y (nx n k)) = cb m (cb x0 (hat X Y k) y0 (hat X Y (nx n k))) 0 (hat X Y k) := by
      unfold cb; refine v3_ext ?_ ?_ ?_ <;> simp only <;> grind
    have b : cb (m' * x) (hat X Y e) (m' * y) (hat X Y (nx n e)) = cb m' (cb x (hat X Y e) y (hat X Y (nx n e))) 0 (hat X Y k) := by
      unfold cb; refine v3_ext ?_ ?_ ?_ <;> simp only <;> grind
    rw [a, b, ← q0, ← q]
    unfold cb; refine v3_ext ?_ ?_ ?_ <;> simp only <;> grind
  have := (h.sn.2.2.2.2 k e hk he (Ne.symm ek) _ _ _ _ (Int.mul_nonneg (by omega) (by omega)) (Int.mul_nonneg (by omega) (by omega)) (Int.mul_nonneg (by omega) hx) (Int.mul_nonneg (by omega) hy) w).1
  have := Int.mul_pos hm hx0
  have := Int.mul_pos hm hy0
  omega
theorem Cro.col (h : SndF n X Y) (hL : 0 < lng X Y c o) (hT : Cro X Y n c o k T) {e : Nat} (he : e < n) (s1 : sd X Y c o e = 0) (s2 : sd X Y c o (nx n e) = 0) {y z : Nat} (hyz : (y = e ∧ z = nx n e) ∨ (y = nx n e ∧ z = e)) (a : prt X Y c o y * T.2 ≤ T.1 * lng X Y c o) (b : T.1 * lng X Y c o ≤ prt X Y c o z * T.2) : False := by
  have ek : e ≠ k := fun q => hT.2.2.2.2.1 (by rw [← q]; exact s1)
  have sy : sd X Y c o y = 0 ∧ sd X Y c o z = 0 := by rcases hyz with ⟨rfl, rfl⟩ | ⟨rfl, rfl⟩ <;> exact ⟨by assumption, by assumption⟩
  have w := along hL sy.1 sy.2 T
  have n2 := h.1
  have hne : prt X Y c o y ≠ prt X Y c o z := fun q => by
    have d : 0 < lng X Y y z := by
      have := h.2.2.1 e (nx n e) he (nx_lt he) (Ne.symm (nx_ne (by omega) he))
      rcases hyz with ⟨rfl, rfl⟩ | ⟨rfl, rfl⟩
      · exact this
      · rw [lng_sw]; exact this
    have e : lng X Y y z * lng X Y c o = (prt X Y c o y - prt X Y c o z) * (prt X Y c o y - prt X Y c o z) + (sd X Y c o y - sd X Y c o z) * (sd X Y c o y - sd X Y c o z) := by unfold lng prt sd; grind
    rw [q, sy.1, sy.2] at e
    have := Int.mul_pos d hL
    rw [e] at this
    simp at this
  have lt : prt X Y c o y < prt X Y c o z := by
    refine Classical.byContradiction fun q => ?_
    have := Int.mul_lt_mul_of_pos_right (show prt X Y c o z < prt X Y c o y by omega) hT.1
    omega
  rcases hyz with ⟨rfl, rfl⟩ | ⟨rfl, rfl⟩
  · exact hT.no h hL he ek (show 0 < prt X Y c o (nx n y) - prt X Y c o y by omega) (by omega) (by omega) w
  · rw [cb_sw (prt X Y c o z * T.2 - T.1 * lng X Y c o)] at w
    exact hT.no h hL he ek (show 0 < prt X Y c o z - prt X Y c o (nx n z) by omega) (by omega) (by omega) w
/-- a point between a meet and the crossing, none between them, lies on no fence -/
theorem Cro.off (h : SndF n X Y) (hc : c < n) (ho : o < n) (hco : c ≠ o) (hT : Cro X Y n c o k T) {Q : Int × Int} (q0 : 0 < Q.2) (q1 : 0 ≤ Q.1) (q2 : Q.1 ≤ Q.2) (no : ∀ r, r ∈ mtR X Y n c o → ¬ (le2 r Q ∧ le2 Q r)) (sd1 : (lt2 Q T ∧ ∀ r, r ∈ mtR X Y n c o → lt2 r Q ∨ le2 T r) ∨ (lt2 T Q ∧ ∀ r, r ∈ mtR X Y n c o → lt2 Q r ∨ le2 r T)) {e : Nat} (he : e < n) : Nn (poP X Y c o Q) (hat X Y e) (hat X Y (nx n e)) := fun m x y hm hx hy q => by
  have hL := h.2.2.1 c o hc ho hco
  have n2 := h.1
  have hT2 := hT.1
  have w := cut_xy q
  have a1 := Int.mul_nonneg (show 0 ≤ m by omega) (show 0 ≤ Q.2 - Q.1 by omega)
  have a2 := Int.mul_nonneg (show 0 ≤ m by omega) q1
  have a3 : m * (Q.2 - Q.1) + m * Q.1 = m * Q.2 := by rw [← Int.mul_add]; congr 1; omega
  have a4 := Int.mul_pos hm q0
  rcases pv_of he a1 a2 (by omega) hx hy w with ⟨s1, s2⟩ | ⟨r, r1, r2⟩
  · have lk := h.2.2.1 e (nx n e) he (nx_lt he) (Ne.symm (nx_ne (by omega) he))
    obtain ⟨t1, t2⟩ := col_in (c := c) (d := o) lk s1 s2
    obtain ⟨w1, w2⟩ := prt_cb w
    rw [a3] at w2
    -- where an end may lie
    have lo : ∀ z, z = e ∨ z = nx n e → prt X Y c o z < 0 ∨ lng X Y c o < prt X Y c o z ∨ (prt X Y c o z, lng X Y c o) ∈ mtR X Y n c o := fun z hz => by
      by_cases c1 : prt X Y c o z < 0
      · exact Or.inl c1
      · by_cases c2 : lng X Y c o < prt X Y c o z
        · exact Or.inr (Or.inl c2)
        · exact Or.inr (Or.inr (pv_end he hz s1 s2 (by omega) (by omega)))
    have qL := Int.mul_nonneg q1 (Int.le_of_lt hL)
    have qL2 := Int.mul_le_mul_of_nonneg_right q2 (Int.le_of_lt hL)
    have tL := Int.mul_lt_mul_of_pos_right hT.2.2.1 hL
    have tL0 := Int.mul_pos hT.2.1 hL
    rcases sd1 with ⟨u1, u2⟩ | ⟨u1, u2⟩
    · have en : ∀ z, z = e ∨ z = nx n e → prt X Y c o z * Q.2 < Q.1 * lng X Y c o ∨ T.1 * lng X Y c o ≤ prt X Y c o z * T.2 := fun z hz => by
        rcases lo z hz with c1 | c1 | c1
        · have := Int.mul_neg_of_neg_of_pos c1 q0
          left; omega
        · have := Int.mul_lt_mul_of_pos_right c1 hT2
          rw [Int.mul_comm (lng X Y c o)] at this
          right; omega
        · rcases u2 _ c1 with d | d
          · left; unfold lt2 at d; simp only at d; omega
          · right; unfold le2 at d; simp only at d; omega
      have le : ∀ z, T.1 * lng X Y c o ≤ prt X Y c o z * T.2 → Q.1 * lng X Y c o < prt X Y c o z * Q.2 := fun z d => by
        have := lt_le2 (p := Q) (q := T) (r := (prt X Y c o z, lng X Y c o)) q0 hT2 hL u1 (by unfold le2; simp only; omega)
        unfold lt2 at this
        simpa using this
      have ms : (x * prt X Y c o e + y * prt X Y c o (nx n e)) * Q.2 = (x + y) * (Q.1 * lng X Y c o) := by rw [w1, w2]; grind
      have m1 : (x * prt X Y c o e + y * prt X Y c o (nx n e)) * Q.2 = x * (prt X Y c o e * Q.2) + y * (prt X Y c o (nx n e) * Q.2) := by grind
      rw [m1, Int.add_mul] at ms
      have lt : ∀ z, prt X Y c o z * Q.2 < Q.1 * lng X Y c o → prt X Y c o z * T.2 ≤ T.1 * lng X Y c o := fun z d => by
        have := lt_2 (lt_le2 (p := (prt X Y c o z, lng X Y c o)) (q := Q) (r := T) hL q0 hT2 (by unfold lt2; simpa using d) (lt_2 u1))
        unfold le2 at this
        simpa using this
      rcases en e (Or.inl rfl) with d1 | d1 <;> rcases en (nx n e) (Or.inr rfl) with d2 | d2
      · have b1 := Int.mul_le_mul_of_nonneg_left (Int.le_of_lt d1) hx
        have b2 := Int.mul_le_mul_of_nonneg_left (Int.le_of_lt d2) hy
        by_cases x0 : x = 0
        · have := Int.mul_lt_mul_of_pos_left d2 (show 0 < y by omega)
          omega
        · have := Int.mul_lt_mul_of_pos_left d1 (show 0 < x by omega)
          omega
      · exact hT.col h hL he t1 t2 (Or.inl ⟨rfl, rfl⟩) (lt e d1) d2
      · exact hT.col h hL he t1 t2 (Or.inr ⟨rfl, rfl⟩) (lt _ d2) d1
      · have d1' := le _ d1
        have d2' := le _ d2
        have b1 := Int.mul_le_mul_of_nonneg_left (Int.le_of_lt d1') hx
        have b2 := Int.mul_le_mul_of_nonneg_left (Int.le_of_lt d2') hy
        by_cases x0 : x = 0
        · have := Int.mul_lt_mul_of_pos_left d2' (show 0 < y by omega)
          omega
        · have := Int.mul_lt_mul_of_pos_left d1' (show 0 < x by omega)
          omega
    · have en : ∀ z, z = e ∨ z = nx n e → Q.1 * lng X Y c o < prt X Y c o z * Q.2 ∨ prt X Y c o z * T.2 ≤ T.1 * lng X Y c o := fun z hz => by
        rcases lo z hz with c1 | c1 | c1
        · have := Int.mul_neg_of_neg_of_pos c1 hT2
          right; omega
        · have := Int.mul_lt_mul_of_pos_right c1 q0
          rw [Int.mul_comm (lng X Y c o)] at this
          left; omega
        · rcases u2 _ c1 with d | d
          · left; unfold lt2 at d; simp only at d; omega
          · right; unfold le2 at d; simp only at d; omega
      have le : ∀ z, prt X Y c o z * T.2 ≤ T.1 * lng X Y c o → prt X Y c o z * Q.2 < Q.1 * lng X Y c o := fun z d => by
        have := le_lt2 (p := (prt X Y c o z, lng X Y c o)) (q := T) (r := Q) hL hT2 q0 (by unfold le2; simp only; omega) u1
        unfold lt2 at this
        simpa using this
      have ms : (x * prt X Y c o e + y * prt X Y c o (nx n e)) * Q.2 = (x + y) * (Q.1 * lng X Y c o) := by rw [w1, w2]; grind
      have m1 : (x * prt X Y c o e + y * prt X Y c o (nx n e)) * Q.2 = x * (prt X Y c o e * Q.2) + y * (prt X Y c o (nx n e) * Q.2) := by grind
      rw [m1, Int.add_mul] at ms
      have lt : ∀ z, Q.1 * lng X Y c o < prt X Y c o z * Q.2 → T.1 * lng X Y c o ≤ prt X Y c o z * T.2 := fun z d => by
        have := lt_2 (le_lt2 (p := T) (q := Q) (r := (prt X Y c o z, lng X Y c o)) hT2 q0 hL (lt_2 u1) (by unfold lt2; simpa using d))
        unfold le2 at this
        simpa using this
      rcases en e (Or.inl rfl) with d1 | d1 <;> rcases en (nx n e) (Or.inr rfl) with d2 | d2
      · have b1 := Int.mul_le_mul_of_nonneg_left (Int.le_of_lt d1) hx
        have b2 := Int.mul_le_mul_of_nonneg_left (Int.le_of_lt d2) hy
        by_cases x0 : x = 0
        · have := Int.mul_lt_mul_of_pos_left d2 (show 0 < y by omega)
          omega
        · have := Int.mul_lt_mul_of_pos_left d1 (show 0 < x by omega)
          omega
      · exact hT.col h hL he t1 t2 (Or.inr ⟨rfl, rfl⟩) d2 (lt e d1)
      · exact hT.col h hL he t1 t2 (Or.inl ⟨rfl, rfl⟩) d1 (lt _ d2)
      · have d1' := le _ d1
        have d2' := le _ d2
        have b1 := Int.mul_le_mul_of_nonneg_left (Int.le_of_lt d1') hx
        have b2 := Int.mul_le_mul_of_nonneg_left (Int.le_of_lt d2') hy
        by_cases x0 : x = 0
        · have := Int.mul_lt_mul_of_pos_left d2' (show 0 < y by omega)
          omega
        · have := Int.mul_lt_mul_of_pos_left d1' (show 0 < x by omega)
          omega
  · have r3 : r.1 * Q.2 = Q.1 * r.2 := by
      rw [a3] at r2
      refine Int.eq_of_mul_eq_mul_left (show m ≠ 0 by omega) ?_
      grind
    exact no r r1 ⟨by unfold le2; omega, by unfold le2; omega⟩
end
