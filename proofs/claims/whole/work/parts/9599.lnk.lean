/-! The area is not nothing; there is a cut. -/
theorem su_cons (f : Nat → Int) (d : Nat) : su f (d + 1) = f 0 + su (fun k => f (k + 1)) d := by
  have e := su_add f 1 d
  rw [Nat.add_comm 1 d] at e
  rw [e, su, su, su_c (f := fun i => f (1 + i)) (g := fun k => f (k + 1)) (fun k _ => by rw [Nat.add_comm])]
  omega
theorem arS_su {X Y : Nat → Int} {n : Nat} : ∀ (d i : Nat) (s : Int), i + d = n → itF (arS X Y 0 (n - 1)) i d s = s + su (fun k => crV (hat X Y (i + k)) (hat X Y (nx n (i + k)))) d
  | 0, i, s, h => by rw [itF, su]; omega
  | d + 1, i, s, h => by
    rw [itF, arS_su d (i + 1) _ (by omega), su_cons, su_c (f := fun k => crV (hat X Y (i + 1 + k)) (hat X Y (nx n (i + 1 + k)))) (g := fun k => crV (hat X Y (i + (k + 1))) (hat X Y (nx n (i + (k + 1))))) (fun k _ => by rw [show i + 1 + k = i + (k + 1) by omega])]
    have e : arS X Y 0 (n - 1) i s = s + ar X Y i (nx n i) := by
      unfold arS nx
      congr 2
      split <;> split <;> omega
    have e2 : ar X Y i (nx n i) = crV (hat X Y i) (hat X Y (nx n i)) := rfl
    rw [e, e2, Nat.add_zero]
    omega
theorem arM_G {X Y : Nat → Int} {n : Nat} (h : 2 ≤ n) : arM X Y n = arG n (hat X Y) := by
  rw [← area_eq X Y h]
  unfold area areaP arG
  rw [show n - 1 + 1 - 0 = n by omega, arS_su n 0 0 (by omega), Int.zero_add]
  exact su_c (fun k _ => by rw [Nat.zero_add])
theorem core_W (n : Nat) (X Y : Nat → Int) (hn : n ≤ 10) (h : SndF n X Y) : arM X Y n ≠ 0 := by
  rw [arM_G (by have := h.1; omega)]
  exact (SnG.ara n n _ (Nat.le_refl _) h.sn).1
theorem mid_hat (X Y : Nat → Int) (a b : Nat) : cb 1 (hat X Y a) 1 (hat X Y b) = (X a + X b, Y a + Y b, 2) := by
  unfold cb hat
  refine v3_ext ?_ ?_ ?_ <;> simp only <;> omega
/-- a corner between two corners is a common point -/
theorem btw_cb {X Y : Nat → Int} {a b j : Nat} (hab : 0 < lng X Y a b) (h : btw X Y a b j = true) (m : Nat) : 0 < prt X Y a b j ∧ 0 < lng X Y a b - prt X Y a b j ∧ cb (lng X Y a b - prt X Y a b j) (hat X Y a) (prt X Y a b j) (hat X Y b) = cb (lng X Y a b) (hat X Y j) 0 (hat X Y m) := by
  obtain ⟨s, p1, p2⟩ := (btw_p hab).mp h
  refine ⟨p1, by omega, cb_of ?_ ?_ ?_⟩
  · have : lng X Y a b * (X j - X a) = prt X Y a b j * (X b - X a) - sd X Y a b j * (Y b - Y a) := by unfold lng prt sd; grind
    rw [s] at this
    grind
  · have : lng X Y a b * (Y j - Y a) = prt X Y a b j * (Y b - Y a) + sd X Y a b j * (X b - X a) := by unfold lng prt sd; grind
    rw [s] at this
    grind
  · omega
/-- where two segments cross there is a point of both -/
theorem crs_cb {X Y : Nat → Int} {a b c d : Nat} (h : crs X Y a b c d = true) : ∃ i j k l : Int, 0 < i ∧ 0 < j ∧ 0 ≤ k ∧ 0 ≤ l ∧ cb i (hat X Y a) j (hat X Y b) = cb k (hat X Y c) l (hat X Y d) := by
  unfold crs at h
  rw [Bool.and_eq_true, decide_eq_true_eq, decide_eq_true_eq] at h
  refine hV_pt (s := 1) (show (0:Int) < 1 by omega) (show (0:Int) < 1 by omega) rfl rfl (Or.inl rfl) ?_
  have t1 : dv (hat X Y a) (hat X Y b) (hat X Y c) ≠ 0 := fun z => by rw [hat_dv] at z; rw [z, Int.zero_mul] at h; omega
  have t2 : dv (hat X Y a) (hat X Y b) (hat X Y d) ≠ 0 := fun z => by rw [hat_dv] at z; rw [z, Int.mul_zero] at h; omega
  rw [hV_x (Or.inl rfl) t1 t2]
  unfold xV
  rw [hat_dv, hat_dv, hat_dv, hat_dv, decide_eq_true h.1, decide_eq_true h.2]; rfl
theorem StG.sp {n : Nat} {X Y : Nat → Int} (h : SndF n X Y) {a b : Nat} (hs : StG n (hat X Y) a b) : spM X Y n a b = true := by
  obtain ⟨s1, s2, s3, s4, s5⟩ := hs
  have hD := h.2.2.1
  have n3 := h.1
  have hab := hD a b (by omega) s2 (by omega)
  rw [← strip_eq h (by omega) s2]
  unfold stripC
  have a0 : nx n a ≠ b := by rw [nx_i (by omega)]; omega
  have b0 : nx n b ≠ a := by rcases nx_c s2 with ⟨w1, w2⟩ | ⟨w1, w2⟩ <;> omega
  have nr : near X Y n a b = b := (near_b hD (by omega) s2 (by omega)).mpr fun j hj => by
    refine Bool.eq_false_iff.mpr fun q => ?_
    obtain ⟨p1, p2, p3⟩ := btw_cb hab q (nx n j)
    have := (s4 j hj _ _ _ _ (by omega) (by omega) (by omega) (by omega) p3).1
    omega
  have cr : crsd X Y n a b = false := by
    unfold crsd
    rw [← Bool.not_eq_true, anyF_iff]
    rintro ⟨k, _, k1, k2⟩
    obtain ⟨i, j, k', l, hi, hj, hk, hl, e⟩ := crs_cb k2
    have := (s4 k (by omega) _ _ _ _ (by omega) (by omega) hk hl e).1
    omega
  have pm : pmid X Y n a b = 1 := by
    rw [pmid_eq]
    rw [mid_hat] at s5
    rw [wh_off hD (by omega) (by omega) (fun e he => by have := mid_nn (s4 e he); rw [mid_hat] at this; exact this), if_pos s5]
  rw [decide_eq_false (show ¬ a = b by omega), decide_eq_false a0, decide_eq_false b0, decide_eq_true nr, cr, decide_eq_true pm]
  rfl
theorem cuS_1 {P Q : Nat → Nat × Nat} {own : Nat} : ∀ (d i : Nat) (s : Nat × Nat), s.1 ≤ (itF (cuS P Q own) i d s).1 ∧ ∀ k, i ≤ k → k < i + d → (P k).1 ≠ 0 → (Q k).1 ≠ 0 → (itF (cuS P Q own) i d s).1 ≠ 0
  | 0, i, s => ⟨by rw [itF]; exact Nat.le_refl _, fun k h1 h2 => by omega⟩
  | d + 1, i, s => by
    rw [itF]
    obtain ⟨w1, w2⟩ := cuS_1 (P := P) (Q := Q) (own := own) d (i + 1) (cuS P Q own i s)
    have e : (cuS P Q own i s).1 = s.1 + (P i).1 * (Q i).1 := rfl
    refine ⟨by omega, fun k h1 h2 h3 h4 => ?_⟩
    by_cases c : k = i
    · subst c
      have := Nat.mul_pos (Nat.pos_of_ne_zero h3) (Nat.pos_of_ne_zero h4)
      omega
    · exact w2 k (by omega) (by omega) h3 h4
theorem Tr.cuN {n : Nat} {X Y : Nat → Int} (hn : n ≤ 10) (h : SndF n X Y) (lg : Nat → Nat → Nat) : ∀ (w a b : Nat), a < b → b < n → Tr (okG n (hat X Y)) w a b → (cu (stB X Y n) lg n a b).1 ≠ 0
  | w, a, b, hab, hb, q => by
    have one : b = a + 1 → (cu (stB X Y n) lg n a b).1 ≠ 0 := fun e => by
      rw [cu_eq hab (by omega)]
      have : fnB n (b - a) = true := by unfold fnB; rw [decide_eq_true_eq]; omega
      unfold cuE
      rw [this, Bool.true_or, if_pos rfl]
      unfold cuI cu0
      rw [show b - a - 1 = 0 by omega, itF, if_pos (by omega)]
      decide
    cases w with
    | zero => exact one q
    | succ w =>
      rcases q with q | ⟨q1, k, q2, q3, q4, q5⟩
      · exact one q
      · rw [cu_eq hab (by omega)]
        have op : (fnB n (b - a) || stB X Y n (10 * a + b)) = true := by
          rcases q1 with ⟨r1, r2⟩ | r
          · have : fnB n (b - a) = true := by unfold fnB; rw [decide_eq_true_eq]; omega
            rw [this]; rfl
          · rw [stB_at hn hab hb, r.sp h, Bool.or_true]
        unfold cuE
        rw [op, if_pos rfl]
        unfold cuI
        exact (cuS_1 _ _ _).2 k (by omega) (by omega) (Tr.cuN hn h lg w a k q2 (by omega) q4) (Tr.cuN hn h lg w k b q3 hb q5)
theorem core_C (n : Nat) (X Y : Nat → Int) (hn : n ≤ 10) (h : SndF n X Y) : (cuW X Y n).1 ≠ 0 := by
  obtain ⟨w, hw⟩ := SnG.tri n n _ (Nat.le_refl _) h.sn
  have := h.1
  exact Tr.cuN hn h _ w 0 (n - 1) (by omega) (by omega) hw
