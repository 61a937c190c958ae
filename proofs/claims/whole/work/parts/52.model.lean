/-! The reference: sight. -/
def okP (X Y : Nat → Int) (n c o : Nat) (p q : Int × Int) : Bool := decide (whM X Y n (X c * (2 * p.2 * q.2) + (X o - X c) * (p.1 * q.2 + q.1 * p.2)) (Y c * (2 * p.2 * q.2) + (Y o - Y c) * (p.1 * q.2 + q.1 * p.2)) (2 * p.2 * q.2) < 2)
def okR (X Y : Nat → Int) (n c o : Nat) : List (Int × Int) → Bool
  | [] => true
  | [_] => true
  | q :: p :: t => okP X Y n c o p q && okR X Y n c o (p :: t)
/-- where the line from c to o meets all the fences, the last one first -/
def mtR (X Y : Nat → Int) (n c o : Nat) : List (Int × Int) := itF (fun k R => layL X Y c o k (nx n k) R) 0 n [(1, 1), (0, 1)]
def sgM (X Y : Nat → Int) (n c o : Nat) : Bool := okR X Y n c o (mtR X Y n c o)
theorem okR_iff (X Y : Nat → Int) (n c o : Nat) : ∀ R : List (Int × Int), okR X Y n c o R = true ↔ ∀ k, 1 ≤ k → k < R.length → okP X Y n c o (arr R (k - 1)) (arr R k) = true
  | [] => by simp [okR]
  | [p] => by simp only [okR, true_iff]; intro k h1 h2; simp at h2; omega
  | q :: p :: t => by
    rw [okR, Bool.and_eq_true, okR_iff X Y n c o (p :: t)]
    constructor
    · rintro ⟨h1, h2⟩ k k1 k2
      by_cases e : k = t.length + 1
      · subst e
        have e1 : arr (q :: p :: t) (t.length + 1) = q := by have := arr_h q (p :: t); rwa [List.length_cons] at this
        have e2 : arr (q :: p :: t) t.length = p := by rw [arr_c q (p :: t) (by simp)]; exact arr_h p t
        rw [show t.length + 1 - 1 = t.length by omega, e1, e2]; exact h1
      · have k3 : k < (p :: t).length := by simp only [List.length_cons] at k2 ⊢; omega
        rw [arr_c q (p :: t) k3, arr_c q (p :: t) (by omega)]
        exact h2 k k1 k3
    · intro h
      constructor
      · have := h (t.length + 1) (by omega) (by simp)
        have e1 : arr (q :: p :: t) (t.length + 1) = q := by have := arr_h q (p :: t); rwa [List.length_cons] at this
        have e2 : arr (q :: p :: t) t.length = p := by rw [arr_c q (p :: t) (by simp)]; exact arr_h p t
        rwa [show t.length + 1 - 1 = t.length by omega, e1, e2] at this
      · intro k k1 k2
        have := h k k1 (by simp only [List.length_cons] at k2 ⊢; omega)
        rwa [arr_c q (p :: t) k2, arr_c q (p :: t) (by omega)] at this
theorem okR_any (X Y : Nat → Int) (n c o : Nat) (R : List (Int × Int)) (h : 1 ≤ R.length) : (!anyF (fun k => !okP X Y n c o (arr R (k - 1)) (arr R k)) 1 (R.length - 1)) = okR X Y n c o R := by
  rw [Bool.eq_iff_iff, okR_iff, Bool.not_eq_true', ← Bool.not_eq_true, anyF_iff]
  constructor
  · intro h1 k k1 k2
    refine Classical.byContradiction fun c => h1 ⟨k, k1, by omega, ?_⟩
    simpa using c
  · rintro h1 ⟨k, k1, k2, k3⟩
    have := h1 k k1 (by omega)
    rw [this] at k3; cases k3
theorem arr_mem {R : List (Int × Int)} {j : Nat} (h : j < R.length) : arr R j ∈ R := by
  unfold arr
  rw [List.getD_eq_getElem?_getD, List.getElem?_eq_getElem (by omega)]
  exact List.getElem_mem _
theorem mid_bd {p q u v w z b s : Int} (hp : 0 ≤ p ∧ p ≤ u) (hq : 0 ≤ q ∧ q ≤ v) (hu : 0 < u ∧ u ≤ 900) (hv : 0 < v ∧ v ≤ 900) (hw : 0 ≤ w ∧ w ≤ 15) (hz : 0 ≤ z ∧ z ≤ 15) (eb : b = 2 * u * v) (es : s = p * v + q * u) : (0 < b ∧ b ≤ 2000000) ∧ (0 ≤ w * b + (z - w) * s ∧ w * b + (z - w) * s ≤ 15 * b) ∧ (0 ≤ s ∧ s ≤ b) := by
  have h1 : 0 ≤ p * v := Int.mul_nonneg hp.1 (by omega)
  have h2 : 0 ≤ q * u := Int.mul_nonneg hq.1 (by omega)
  have h3 : p * v ≤ u * v := Int.mul_le_mul_of_nonneg_right hp.2 (by omega)
  have h4 : q * u ≤ v * u := Int.mul_le_mul_of_nonneg_right hq.2 (by omega)
  have h5 : 0 < u * v := Int.mul_pos hu.1 hv.1
  have h6 := mul_bd (a := u) (b := v) (M := 900) (N := 900) (by omega) (by omega) (by omega) (by omega) (by omega) (by omega)
  rw [Int.mul_comm v u] at h4
  have e1 : b = 2 * (u * v) := by rw [eb, Int.mul_assoc]
  have e2 : w * b + (z - w) * s = w * (b - s) + z * s := by rw [Int.sub_mul, Int.mul_sub]; omega
  have s1 : 0 ≤ s ∧ s ≤ b := by omega
  have m1 : 0 ≤ w * (b - s) := Int.mul_nonneg hw.1 (by omega)
  have m2 : 0 ≤ z * s := Int.mul_nonneg hz.1 s1.1
  have m3 : w * (b - s) ≤ 15 * (b - s) := Int.mul_le_mul_of_nonneg_right hw.2 (by omega)
  have m4 : z * s ≤ 15 * s := Int.mul_le_mul_of_nonneg_right hz.2 s1.1
  refine ⟨by omega, ?_, s1⟩
  rw [e2]; omega
set_option maxRecDepth 10000 in
theorem l_sight1 {h0 : fH} {M : MZ} (hM0 : Mdl h0 M) (hK : Mok M) {f c o' : Nat} (hf : f < 4) (hc : c < mM M f) (ho' : o' < mM M f) (hab : 0 < lng (fw (mX M) f) (fw (mY M) f) c o') {z2 z3 z7 z8 z9 z10 z11 z12 z13 z14 z15 : Value} {Q : Option Value → fH → Prop} (hq : ∀ h o, o.1 = mL M → Mob h o → o.2.2.1 = ((mtR (fw (mX M) f) (fw (mY M) f) (mM M f) c o').length : Int) → AR h (mtR (fw (mX M) f) (fw (mY M) f) (mM M f) c o') → mtB (mtR (fw (mX M) f) (fw (mY M) f) (mM M f) c o') → (mtR (fw (mX M) f) (fw (mY M) f) (mM M f) c o').length ≤ 30 → Fr h0 h meS → Go 156 (blk 156 77) [.ref 56, .int (iI f), z2, z3, .int (iI ((10 * f + c : Nat) : Int)), .int (iI ((10 * f + o' : Nat) : Int)), .int (iI (mM M f)), z7, z8, z9, z10, z11, z12, z13, z14, z15] [] h Q) : ∀ (d k : Nat) (h : fH) (o : MO) (R : List (Int × Int)), k + d = mM M f → o.1 = mL M → Mob h o → o.2.2.1 = (R.length : Int) → AR h R → mtB R → R.length ≤ 2 + 2 * k → mtR (fw (mX M) f) (fw (mY M) f) (mM M f) c o' = itF (fun k R => layL (fw (mX M) f) (fw (mY M) f) c o' k (nx (mM M f) k) R) k d R → Fr h0 h meS →
    Go 156 (blk 156 36) [.ref 56, .int (iI f), z2, z3, .int (iI ((10 * f + c : Nat) : Int)), .int (iI ((10 * f + o' : Nat) : Int)), .int (iI k), z7, z8, z9, z10, z11, z12, z13, z14, z15] [] h Q := by
  have mp := (hK.2.2 f hf).1
  intro d
  induction d with
  | zero =>
    intro k h o R hk eL hO eo hA hB hl eR hF
    obtain ⟨r1, r2, r3⟩ := hM0.2.2.1.of hF (by simp [meS]) (by simp [meS]) (by simp [meS])
    have ho := id hO
    unfold Mob at ho
    unfold Row at r3
    rw [itF] at eR
    rw [← eR] at hA hB hl eo
    obtain rfl : k = mM M f := by omega
    rw [B156_36, b156_36]
    simp (disch := omega) only [g_iconst, g_lconst, g_iadd, g_isub, g_imul, g_iand, g_ior, g_ishl, g_ishr, g_iushr, g_ladd, g_lsub, g_lmul, g_land, g_lor, g_lcmp, g_ineg, g_lshl, g_lshr, g_i2l, g_l2i, g_dupi, g_dupr, g_pop, g_dup2, g_mabs_0, g_mabs_1, g_mabs_2, g_mabs_3, g_mmax_0, g_mmax_1, g_mmax_2, g_mmax_3, g_mmin_0, g_mmin_1, g_mmin_2, g_mmin_3, g_goto, g_jsr, g_icmp_eq, g_icmp_ne, g_icmp_lt, g_icmp_ge, g_icmp_gt, g_icmp_le, g_if_eq, g_if_ne, g_if_lt, g_if_ge, g_if_gt, g_if_le, g_idiv, g_irem, g_ldiv, g_iload, g_lload, g_aload, g_istore, g_astore, g_lstore, g_iinc, g_getfield, g_putfield, g_iaload, g_baload, g_laload, g_aaload, g_iastore, g_bastore, g_lastore, g_arraylength, g_call0_0, g_call0_1, g_call0_2, g_call0_3, g_call0_4, g_call1_0, g_call1_1, g_call1_2, g_call1_3, g_call1_4, g_call2_0, g_call2_1, g_call2_2, g_call2_3, g_call2_4, g_call3_0, g_call3_1, g_call3_2, g_call3_3, g_call3_4, g_call4_0, g_call4_1, g_call4_2, g_call4_3, g_call4_4, g_call5_0, g_call5_1, g_call5_2, g_call5_3, g_call5_4, g_call6_0, g_call6_1, g_call6_2, g_call6_3, g_call6_4, g_ireturn, g_lreturn, g_return, g_zreturn, sto_0, sto_s, sto2_0, sto2_s, isL_i, isL_r, isL_l, isL_j, ldI_0, ldI_9, ldZ_2, ldL_1, ldQ_3, stI_0, stL_1, stZ_2, gF_o, pF_o, lenA_9, oB_some, vI_i, vJ_j, vR_r, Option.map_some, List.getElem?_cons_zero, List.getElem?_cons_succ, Nat.reduceDiv, Nat.reduceMod, Int.reduceToNat, true_and, and_true, false_and, reduceIte, List.set_cons_zero, List.set_cons_succ, Option.toList_some, Option.toList_none, List.cons_append, List.nil_append, List.length_cons, List.length_nil, Nat.reduceAdd, Nat.reduceLeDiff, Nat.reduceLT, Nat.reduceEqDiff, and_self, and_false, Bool.false_eq_true, ho, r3, iI_f, i32_0, i32_1, b2i_0, b2i_n, iI_add, iI_sub, iI_mul, iI_neg, iI_lt, iI_le, iI_eq, iI_in, iI_cl, i_nn, eq_self, true_or, or_true, not_true_eq_false, not_false_eq_true, Int.reduceEq, Int.reduceLT, Int.reduceLE, Int.reduceNeg]
    exact ite_t (by omega) (hq h o eL hO eo hA hB (by omega) hF)
  | succ d ih =>
    intro k h o R hk eL hO eo hA hB hl eR hF
    obtain ⟨r1, r2, r3⟩ := hM0.2.2.1.of hF (by simp [meS]) (by simp [meS]) (by simp [meS])
    have hFl : Fld h o (mX M) (mY M) (mM M) := ⟨hO, r1, r2, r3⟩
    have ho := id hO
    unfold Mob at ho
    unfold Row at r3
    have hkn : k < mM M f := by omega
    have hnk := nx_lt hkn
    rw [itF] at eR
    rw [B156_36, b156_36]
    simp (disch := omega) only [g_iconst, g_lconst, g_iadd, g_isub, g_imul, g_iand, g_ior, g_ishl, g_ishr, g_iushr, g_ladd, g_lsub, g_lmul, g_land, g_lor, g_lcmp, g_ineg, g_lshl, g_lshr, g_i2l, g_l2i, g_dupi, g_dupr, g_pop, g_dup2, g_mabs_0, g_mabs_1, g_mabs_2, g_mabs_3, g_mmax_0, g_mmax_1, g_mmax_2, g_mmax_3, g_mmin_0, g_mmin_1, g_mmin_2, g_mmin_3, g_goto, g_jsr, g_icmp_eq, g_icmp_ne, g_icmp_lt, g_icmp_ge, g_icmp_gt, g_icmp_le, g_if_eq, g_if_ne, g_if_lt, g_if_ge, g_if_gt, g_if_le, g_idiv, g_irem, g_ldiv, g_iload, g_lload, g_aload, g_istore, g_astore, g_lstore, g_iinc, g_getfield, g_putfield, g_iaload, g_baload, g_laload, g_aaload, g_iastore, g_bastore, g_lastore, g_arraylength, g_call0_0, g_call0_1, g_call0_2, g_call0_3, g_call0_4, g_call1_0, g_call1_1, g_call1_2, g_call1_3, g_call1_4, g_call2_0, g_call2_1, g_call2_2, g_call2_3, g_call2_4, g_call3_0, g_call3_1, g_call3_2, g_call3_3, g_call3_4, g_call4_0, g_call4_1, g_call4_2, g_call4_3, g_call4_4, g_call5_0, g_call5_1, g_call5_2, g_call5_3, g_call5_4, g_call6_0, g_call6_1, g_call6_2, g_call6_3, g_call6_4, g_ireturn, g_lreturn, g_return, g_zreturn, sto_0, sto_s, sto2_0, sto2_s, isL_i, isL_r, isL_l, isL_j, ldI_0, ldI_9, ldZ_2, ldL_1, ldQ_3, stI_0, stL_1, stZ_2, gF_o, pF_o, lenA_9, oB_some, vI_i, vJ_j, vR_r, Option.map_some, List.getElem?_cons_zero, List.getElem?_cons_succ, Nat.reduceDiv, Nat.reduceMod, Int.reduceToNat, true_and, and_true, false_and, reduceIte, List.set_cons_zero, List.set_cons_succ, Option.toList_some, Option.toList_none, List.cons_append, List.nil_append, List.length_cons, List.length_nil, Nat.reduceAdd, Nat.reduceLeDiff, Nat.reduceLT, Nat.reduceEqDiff, and_self, and_false, Bool.false_eq_true, ho, r3, m_placeI hFl hK.2.2 hf hkn, m_placeN hFl hK.2.2 hf hkn, iI_f, i32_0, i32_1, b2i_0, b2i_n, iI_add, iI_sub, iI_mul, iI_neg, iI_lt, iI_le, iI_eq, iI_in, iI_cl, i_nn, eq_self, true_or, or_true, not_true_eq_false, not_false_eq_true, Int.reduceEq, Int.reduceLT, Int.reduceLE, Int.reduceNeg]
    refine ite_f (by omega) ?_
    refine m_layMeet hFl hK.2.2 (Pl.of hf hc mp) (Pl.of hf ho' mp) (Pl.of hf hkn mp) (Pl.of hf hnk mp) hab hB (by omega) eo hA (fun h1 o1 e1 e2 e3 e4 e5 => ?_)
    have el : layL (mX M) (mY M) (10 * f + c) (10 * f + o') (10 * f + k) (10 * f + nx (mM M f) k) R = layL (fw (mX M) f) (fw (mY M) f) c o' k (nx (mM M f) k) R := rfl
    rw [el] at e2 e4
    have hB2 := layL_b hK.2.2 (Pl.of hf hc mp) (Pl.of hf ho' mp) (Pl.of hf hkn mp) (Pl.of hf hnk mp) hab hB
    rw [el] at hB2
    have ll := layL_l (fw (mX M) f) (fw (mY M) f) c o' k (nx (mM M f) k) R
    have w := ih (k + 1) h1 o1 _ (by omega) (e1.trans eL) e3 e2 e4 hB2 (by omega) eR (hF.tr e5 (fun _ q => q) (fun _ q => q))
    simp (disch := omega) only [g_iconst, g_lconst, g_iadd, g_isub, g_imul, g_iand, g_ior, g_ishl, g_ishr, g_iushr, g_ladd, g_lsub, g_lmul, g_land, g_lor, g_lcmp, g_ineg, g_lshl, g_lshr, g_i2l, g_l2i, g_dupi, g_dupr, g_pop, g_dup2, g_mabs_0, g_mabs_1, g_mabs_2, g_mabs_3, g_mmax_0, g_mmax_1, g_mmax_2, g_mmax_3, g_mmin_0, g_mmin_1, g_mmin_2, g_mmin_3, g_goto, g_jsr, g_icmp_eq, g_icmp_ne, g_icmp_lt, g_icmp_ge, g_icmp_gt, g_icmp_le, g_if_eq, g_if_ne, g_if_lt, g_if_ge, g_if_gt, g_if_le, g_idiv, g_irem, g_ldiv, g_iload, g_lload, g_aload, g_istore, g_astore, g_lstore, g_iinc, g_getfield, g_putfield, g_iaload, g_baload, g_laload, g_aaload, g_iastore, g_bastore, g_lastore, g_arraylength, g_call0_0, g_call0_1, g_call0_2, g_call0_3, g_call0_4, g_call1_0, g_call1_1, g_call1_2, g_call1_3, g_call1_4, g_call2_0, g_call2_1, g_call2_2, g_call2_3, g_call2_4, g_call3_0, g_call3_1, g_call3_2, g_call3_3, g_call3_4, g_call4_0, g_call4_1, g_call4_2, g_call4_3, g_call4_4, g_call5_0, g_call5_1, g_call5_2, g_call5_3, g_call5_4, g_call6_0, g_call6_1, g_call6_2, g_call6_3, g_call6_4, g_ireturn, g_lreturn, g_return, g_zreturn, sto_0, sto_s, sto2_0, sto2_s, isL_i, isL_r, isL_l, isL_j, ldI_0, ldI_9, ldZ_2, ldL_1, ldQ_3, stI_0, stL_1, stZ_2, gF_o, pF_o, lenA_9, oB_some, vI_i, vJ_j, vR_r, Option.map_some, List.getElem?_cons_zero, List.getElem?_cons_succ, Nat.reduceDiv, Nat.reduceMod, Int.reduceToNat, true_and, and_true, false_and, reduceIte, List.set_cons_zero, List.set_cons_succ, Option.toList_some, Option.toList_none, List.cons_append, List.nil_append, List.length_cons, List.length_nil, Nat.reduceAdd, Nat.reduceLeDiff, Nat.reduceLT, Nat.reduceEqDiff, and_self, and_false, Bool.false_eq_true, iI_f, i32_0, i32_1, b2i_0, b2i_n, iI_add, iI_sub, iI_mul, iI_neg, iI_lt, iI_le, iI_eq, iI_in, iI_cl, i_nn, eq_self, true_or, or_true, not_true_eq_false, not_false_eq_true, Int.reduceEq, Int.reduceLT, Int.reduceLE, Int.reduceNeg]
    push_cast at w
    exact w
set_option maxRecDepth 10000 in
set_option maxHeartbeats 1000000 in
theorem l_sight2 {h : fH} {o : MO} {x y : Nat → Int} {m : Nat → Nat} (hF : Fld h o x y m) (hK : Fok x y m) {f c o' : Nat} (hf : f < 4) (hc : c < m f) (ho' : o' < m f) {R : List (Int × Int)} (hB : mtB R) (hl : R.length ≤ 30) (eo : o.2.2.1 = (R.length : Int)) {U D : Nat → Int} (hU : Row h 65 32 U) (hD : Row h 66 32 D) (hj : ∀ j, j < R.length → U j = (arr R j).1 ∧ D j = (arr R j).2) {z2 z3 : Value} {S : Bool} {Q : Option Value → fH → Prop} (hq : Q (some (.int (iI (b2i S)))) h) : ∀ (d k : Nat) (s : Bool) (z8 z9 z10 z11 z12 z13 z14 z15 : Value), 1 ≤ k → k + d = R.length → S = (s && !anyF (fun k => !okP (fw x f) (fw y f) (m f) c o' (arr R (k - 1)) (arr R k)) k d) →
    Go 156 (blk 156 83) [.ref 56, .int (iI f), z2, z3, .int (iI ((10 * f + c : Nat) : Int)), .int (iI ((10 * f + o' : Nat) : Int)), .int (iI (b2i s)), .int (iI k), z8, z9, z10, z11, z12, z13, z14, z15] [] h Q := by
  obtain ⟨ho, h1, h2, h3⟩ := id hF; unfold Mob at ho; unfold Row at h1 h2 h3
  unfold Row at hU hD
  have mp := (hK f hf).1
  have qc := (hK f hf).2 c hc
  have qo := (hK f hf).2 o' ho'
  have pc := (hK.at (Pl.of hf hc mp)).1
  have po := (hK.at (Pl.of hf ho' mp)).1
  intro d
  induction d with
  | zero =>
    intro k s z8 z9 z10 z11 z12 z13 z14 z15 hk hkd es
    rw [anyF, Bool.not_false, Bool.and_true] at es
    subst es
    rw [B156_83, b156_83]
    simp (disch := omega) only [B156_257, b156_257, g_iconst, g_lconst, g_iadd, g_isub, g_imul, g_iand, g_ior, g_ishl, g_ishr, g_iushr, g_ladd, g_lsub, g_lmul, g_land, g_lor, g_lcmp, g_ineg, g_lshl, g_lshr, g_i2l, g_l2i, g_dupi, g_dupr, g_pop, g_dup2, g_mabs_0, g_mabs_1, g_mabs_2, g_mabs_3, g_mmax_0, g_mmax_1, g_mmax_2, g_mmax_3, g_mmin_0, g_mmin_1, g_mmin_2, g_mmin_3, g_goto, g_jsr, g_icmp_eq, g_icmp_ne, g_icmp_lt, g_icmp_ge, g_icmp_gt, g_icmp_le, g_if_eq, g_if_ne, g_if_lt, g_if_ge, g_if_gt, g_if_le, g_idiv, g_irem, g_ldiv, g_iload, g_lload, g_aload, g_istore, g_astore, g_lstore, g_iinc, g_getfield, g_putfield, g_iaload, g_baload, g_laload, g_aaload, g_iastore, g_bastore, g_lastore, g_arraylength, g_call0_0, g_call0_1, g_call0_2, g_call0_3, g_call0_4, g_call1_0, g_call1_1, g_call1_2, g_call1_3, g_call1_4, g_call2_0, g_call2_1, g_call2_2, g_call2_3, g_call2_4, g_call3_0, g_call3_1, g_call3_2, g_call3_3, g_call3_4, g_call4_0, g_call4_1, g_call4_2, g_call4_3, g_call4_4, g_call5_0, g_call5_1, g_call5_2, g_call5_3, g_call5_4, g_call6_0, g_call6_1, g_call6_2, g_call6_3, g_call6_4, g_ireturn, g_lreturn, g_return, g_zreturn, sto_0, sto_s, sto2_0, sto2_s, isL_i, isL_r, isL_l, isL_j, ldI_0, ldI_9, ldZ_2, ldL_1, ldQ_3, stI_0, stL_1, stZ_2, gF_o, pF_o, lenA_9, oB_some, vI_i, vJ_j, vR_r, Option.map_some, List.getElem?_cons_zero, List.getElem?_cons_succ, Nat.reduceDiv, Nat.reduceMod, Int.reduceToNat, true_and, and_true, false_and, reduceIte, List.set_cons_zero, List.set_cons_succ, Option.toList_some, Option.toList_none, List.cons_append, List.nil_append, List.length_cons, List.length_nil, Nat.reduceAdd, Nat.reduceLeDiff, Nat.reduceLT, Nat.reduceEqDiff, and_self, and_false, Bool.false_eq_true, ho, eo, iI_f, i32_0, i32_1, b2i_0, b2i_n, iI_add, iI_sub, iI_mul, iI_neg, iI_lt, iI_le, iI_eq, iI_in, iI_cl, i_nn, eq_self, true_or, or_true, not_true_eq_false, not_false_eq_true, Int.reduceEq, Int.reduceLT, Int.reduceLE, Int.reduceNeg]
    exact ite_t (by omega) ⟨by cases S <;> decide, hq⟩
  | succ d ih =>
    intro k s z8 z9 z10 z11 z12 z13 z14 z15 hk hkd es
    rw [anyF] at es
    rw [B156_83, b156_83]
    cases hs : s with
    | false =>
      rw [hs] at es
      have e : S = false := by rw [es]; rfl
      rw [e] at hq
      simp (disch := omega) only [B156_257, b156_257, g_iconst, g_lconst, g_iadd, g_isub, g_imul, g_iand, g_ior, g_ishl, g_ishr, g_iushr, g_ladd, g_lsub, g_lmul, g_land, g_lor, g_lcmp, g_ineg, g_lshl, g_lshr, g_i2l, g_l2i, g_dupi, g_dupr, g_pop, g_dup2, g_mabs_0, g_mabs_1, g_mabs_2, g_mabs_3, g_mmax_0, g_mmax_1, g_mmax_2, g_mmax_3, g_mmin_0, g_mmin_1, g_mmin_2, g_mmin_3, g_goto, g_jsr, g_icmp_eq, g_icmp_ne, g_icmp_lt, g_icmp_ge, g_icmp_gt, g_icmp_le, g_if_eq, g_if_ne, g_if_lt, g_if_ge, g_if_gt, g_if_le, g_idiv, g_irem, g_ldiv, g_iload, g_lload, g_aload, g_istore, g_astore, g_lstore, g_iinc, g_getfield, g_putfield, g_iaload, g_baload, g_laload, g_aaload, g_iastore, g_bastore, g_lastore, g_arraylength, g_call0_0, g_call0_1, g_call0_2, g_call0_3, g_call0_4, g_call1_0, g_call1_1, g_call1_2, g_call1_3, g_call1_4, g_call2_0, g_call2_1, g_call2_2, g_call2_3, g_call2_4, g_call3_0, g_call3_1, g_call3_2, g_call3_3, g_call3_4, g_call4_0, g_call4_1, g_call4_2, g_call4_3, g_call4_4, g_call5_0, g_call5_1, g_call5_2, g_call5_3, g_call5_4, g_call6_0, g_call6_1, g_call6_2, g_call6_3, g_call6_4, g_ireturn, g_lreturn, g_return, g_zreturn, sto_0, sto_s, sto2_0, sto2_s, isL_i, isL_r, isL_l, isL_j, ldI_0, ldI_9, ldZ_2, ldL_1, ldQ_3, stI_0, stL_1, stZ_2, gF_o, pF_o, lenA_9, oB_some, vI_i, vJ_j, vR_r, Option.map_some, List.getElem?_cons_zero, List.getElem?_cons_succ, Nat.reduceDiv, Nat.reduceMod, Int.reduceToNat, true_and, and_true, false_and, reduceIte, List.set_cons_zero, List.set_cons_succ, Option.toList_some, Option.toList_none, List.cons_append, List.nil_append, List.length_cons, List.length_nil, Nat.reduceAdd, Nat.reduceLeDiff, Nat.reduceLT, Nat.reduceEqDiff, and_self, and_false, Bool.false_eq_true, ho, eo, iI_f, i32_0, i32_1, b2i_0, b2i_n, iI_add, iI_sub, iI_mul, iI_neg, iI_lt, iI_le, iI_eq, iI_in, iI_cl, i_nn, eq_self, true_or, or_true, not_true_eq_false, not_false_eq_true, Int.reduceEq, Int.reduceLT, Int.reduceLE, Int.reduceNeg]
      refine ite_f (by omega) ?_
      first
        | exact ⟨by decide, hq⟩
        | exact ite_t rfl ⟨by decide, hq⟩
        | exact hq
    | true =>
      rw [hs, Bool.true_and] at es
      obtain ⟨j1, j2⟩ := hj (k - 1) (by omega)
      obtain ⟨j3, j4⟩ := hj k (by omega)
      obtain ⟨a1, a2, a3, a4⟩ := hB _ (arr_mem (R := R) (j := k - 1) (by omega))
      obtain ⟨b1, b2, b3, b4⟩ := hB _ (arr_mem (R := R) (j := k) (by omega))
      have ek : ((k : Int) - 1).toNat = k - 1 := by omega
      have B1 := mid_bd (w := x (10 * f + c)) (z := x (10 * f + o')) ⟨a1, a2⟩ ⟨b1, b2⟩ ⟨a3, a4⟩ ⟨b3, b4⟩ (by omega) (by omega) rfl rfl
      have B2 := mid_bd (w := y (10 * f + c)) (z := y (10 * f + o')) ⟨a1, a2⟩ ⟨b1, b2⟩ ⟨a3, a4⟩ ⟨b3, b4⟩ (by omega) (by omega) rfl rfl
      have cw := m_whereOf hF hK hf (u := x (10 * f + c) * (2 * (arr R (k - 1)).2 * (arr R k).2) + (x (10 * f + o') - x (10 * f + c)) * ((arr R (k - 1)).1 * (arr R k).2 + (arr R k).1 * (arr R (k - 1)).2)) (v := y (10 * f + c) * (2 * (arr R (k - 1)).2 * (arr R k).2) + (y (10 * f + o') - y (10 * f + c)) * ((arr R (k - 1)).1 * (arr R k).2 + (arr R k).1 * (arr R (k - 1)).2)) (b := 2 * (arr R (k - 1)).2 * (arr R k).2) ⟨B1.1.1, B1.1.2, B1.2.1.1, B1.2.1.2, B2.2.1.1, B2.2.1.2⟩
      have wb := whM_bd (fw x f) (fw y f) (m f) (x (10 * f + c) * (2 * (arr R (k - 1)).2 * (arr R k).2) + (x (10 * f + o') - x (10 * f + c)) * ((arr R (k - 1)).1 * (arr R k).2 + (arr R k).1 * (arr R (k - 1)).2)) (y (10 * f + c) * (2 * (arr R (k - 1)).2 * (arr R k).2) + (y (10 * f + o') - y (10 * f + c)) * ((arr R (k - 1)).1 * (arr R k).2 + (arr R k).1 * (arr R (k - 1)).2)) (2 * (arr R (k - 1)).2 * (arr R k).2)
      have w1 := ih (k + 1) true
      have w0 := ih (k + 1) false
      rw [show b2i true = 1 from rfl] at w1
      rw [show b2i false = 0 from rfl] at w0
      rw [show ((k + 1 : Nat) : Int) = (k : Int) + 1 by omega] at w1 w0
      simp (maxSteps := 1000000) (disch := omega) only [B156_248, b156_248, B156_249, b156_249, g_iconst, g_lconst, g_iadd, g_isub, g_imul, g_iand, g_ior, g_ishl, g_ishr, g_iushr, g_ladd, g_lsub, g_lmul, g_land, g_lor, g_lcmp, g_ineg, g_lshl, g_lshr, g_i2l, g_l2i, g_dupi, g_dupr, g_pop, g_dup2, g_mabs_0, g_mabs_1, g_mabs_2, g_mabs_3, g_mmax_0, g_mmax_1, g_mmax_2, g_mmax_3, g_mmin_0, g_mmin_1, g_mmin_2, g_mmin_3, g_goto, g_jsr, g_icmp_eq, g_icmp_ne, g_icmp_lt, g_icmp_ge, g_icmp_gt, g_icmp_le, g_if_eq, g_if_ne, g_if_lt, g_if_ge, g_if_gt, g_if_le, g_idiv, g_irem, g_ldiv, g_iload, g_lload, g_aload, g_istore, g_astore, g_lstore, g_iinc, g_getfield, g_putfield, g_iaload, g_baload, g_laload, g_aaload, g_iastore, g_bastore, g_lastore, g_arraylength, g_call0_0, g_call0_1, g_call0_2, g_call0_3, g_call0_4, g_call1_0, g_call1_1, g_call1_2, g_call1_3, g_call1_4, g_call2_0, g_call2_1, g_call2_2, g_call2_3, g_call2_4, g_call3_0, g_call3_1, g_call3_2, g_call3_3, g_call3_4, g_call4_0, g_call4_1, g_call4_2, g_call4_3, g_call4_4, g_call5_0, g_call5_1, g_call5_2, g_call5_3, g_call5_4, g_call6_0, g_call6_1, g_call6_2, g_call6_3, g_call6_4, g_ireturn, g_lreturn, g_return, g_zreturn, sto_0, sto_s, sto2_0, sto2_s, isL_i, isL_r, isL_l, isL_j, ldI_0, ldI_9, ldZ_2, ldL_1, ldQ_3, stI_0, stL_1, stZ_2, gF_o, pF_o, lenA_9, oB_some, vI_i, vJ_j, vR_r, Option.map_some, List.getElem?_cons_zero, List.getElem?_cons_succ, Nat.reduceDiv, Nat.reduceMod, Int.reduceToNat, true_and, and_true, false_and, reduceIte, List.set_cons_zero, List.set_cons_succ, Option.toList_some, Option.toList_none, List.cons_append, List.nil_append, List.length_cons, List.length_nil, Nat.reduceAdd, Nat.reduceLeDiff, Nat.reduceLT, Nat.reduceEqDiff, and_self, and_false, Bool.false_eq_true, ho, h1, h2, eo, hU, hD, ek, j1, j2, j3, j4, lJ_f, lJ_i, lJ_mul, lJ_add, cw, show isL jk = false from rfl, show b2i true = 1 from rfl, show isL (Value.int (iI (k : Int))) = false from rfl, iI_f, i32_0, i32_1, b2i_0, b2i_n, iI_add, iI_sub, iI_mul, iI_neg, iI_lt, iI_le, iI_eq, iI_in, iI_cl, i_nn, eq_self, true_or, or_true, not_true_eq_false, not_false_eq_true, Int.reduceEq, Int.reduceLT, Int.reduceLE, Int.reduceNeg]
      refine ite_f (by omega) (ite_c (fun c1 => ?_) (fun c1 => ?_))
      · exact w0 _ _ _ _ _ _ _ _ (by omega) (by omega) (by
          have : okP (fw x f) (fw y f) (m f) c o' (arr R (k - 1)) (arr R k) = false := by
            unfold okP; exact decide_eq_false (by simp only [fw]; omega)
          rw [es, this]; rfl)
      · exact w1 _ _ _ _ _ _ _ _ (by omega) (by omega) (by
          have : okP (fw x f) (fw y f) (m f) c o' (arr R (k - 1)) (arr R k) = true := by
            unfold okP; exact decide_eq_true (by simp only [fw]; omega)
          rw [es, this]; simp)
theorem Scr.me {h h' : fH} (q : Scr h) (hF : Fr h h' meS) (h65 : ∃ f, Row h' 65 32 f) (h66 : ∃ f, Row h' 66 32 f) : Scr h' :=
  ⟨rw_ex q.1 hF (by simp [meS]), rw_ex q.2.1 hF (by simp [meS]), rw_ex q.2.2.1 hF (by simp [meS]), rw_ex q.2.2.2.1 hF (by simp [meS]), h65, h66, bl_ex q.2.2.2.2.2.2.1 hF (by simp [meS]), bl_ex q.2.2.2.2.2.2.2.1 hF (by simp [meS]), rw_ex q.2.2.2.2.2.2.2.2.1 hF (by simp [meS]), rw_ex q.2.2.2.2.2.2.2.2.2.1 hF (by simp [meS]), rw_ex q.2.2.2.2.2.2.2.2.2.2.1 hF (by simp [meS]), rw_ex q.2.2.2.2.2.2.2.2.2.2.2 hF (by simp [meS])⟩
set_option maxRecDepth 10000 in
theorem m_isSight {h : fH} {M : MZ} (hM : Mdl h M) (hK : Mok M) {f c o' : Nat} (hf : f < 4) (hc : c < mM M f) (ho' : o' < mM M f) (hab : 0 < lng (fw (mX M) f) (fw (mY M) f) c o') {Q : Option Value → fH → Prop} (hq : ∀ h', Mdl h' M → Fr h h' meS → Q (some (.int (iI (b2i (sgM (fw (mX M) f) (fw (mY M) f) (mM M f) c o'))))) h') : Call 156 [.ref 56, .int (iI f), .int (iI c), .int (iI o')] h Q := by
  obtain ⟨o, eL, hFl⟩ := hM.fld
  obtain ⟨ho, r1, r2, r3⟩ := id hFl
  have hO := id ho
  obtain ⟨U, h65⟩ := hM.2.2.2.2.2.2.2.2.1
  obtain ⟨D, h66⟩ := hM.2.2.2.2.2.2.2.2.2.1
  unfold Mob at ho
  refine ⟨by simp [vOK, entL, isL, mlT, kdT, clT, isO, ho], rfl, ?_⟩
  rw [show ent 156 [.ref 56, .int (iI f), .int (iI c), .int (iI o')] = [.ref 56, .int (iI f), .int (iI c), .int (iI o'), jk, jk, jk, jk, jk, jk, jk, jk, jk, jk, jk, jk] from rfl]
  simp (disch := omega) only [B156_0, b156_0, g_iconst, g_lconst, g_iadd, g_isub, g_imul, g_iand, g_ior, g_ishl, g_ishr, g_iushr, g_ladd, g_lsub, g_lmul, g_land, g_lor, g_lcmp, g_ineg, g_lshl, g_lshr, g_i2l, g_l2i, g_dupi, g_dupr, g_pop, g_dup2, g_mabs_0, g_mabs_1, g_mabs_2, g_mabs_3, g_mmax_0, g_mmax_1, g_mmax_2, g_mmax_3, g_mmin_0, g_mmin_1, g_mmin_2, g_mmin_3, g_goto, g_jsr, g_icmp_eq, g_icmp_ne, g_icmp_lt, g_icmp_ge, g_icmp_gt, g_icmp_le, g_if_eq, g_if_ne, g_if_lt, g_if_ge, g_if_gt, g_if_le, g_idiv, g_irem, g_ldiv, g_iload, g_lload, g_aload, g_istore, g_astore, g_lstore, g_iinc, g_getfield, g_putfield, g_iaload, g_baload, g_laload, g_aaload, g_iastore, g_bastore, g_lastore, g_arraylength, g_call0_0, g_call0_1, g_call0_2, g_call0_3, g_call0_4, g_call1_0, g_call1_1, g_call1_2, g_call1_3, g_call1_4, g_call2_0, g_call2_1, g_call2_2, g_call2_3, g_call2_4, g_call3_0, g_call3_1, g_call3_2, g_call3_3, g_call3_4, g_call4_0, g_call4_1, g_call4_2, g_call4_3, g_call4_4, g_call5_0, g_call5_1, g_call5_2, g_call5_3, g_call5_4, g_call6_0, g_call6_1, g_call6_2, g_call6_3, g_call6_4, g_ireturn, g_lreturn, g_return, g_zreturn, sto_0, sto_s, sto2_0, sto2_s, isL_i, isL_r, isL_l, isL_j, ldI_0, ldI_9, ldZ_2, ldL_1, ldQ_3, stI_0, stL_1, stZ_2, gF_o, pF_o, lenA_9, oB_some, vI_i, vJ_j, vR_r, Option.map_some, List.getElem?_cons_zero, List.getElem?_cons_succ, Nat.reduceDiv, Nat.reduceMod, Int.reduceToNat, true_and, and_true, false_and, reduceIte, List.set_cons_zero, List.set_cons_succ, Option.toList_some, Option.toList_none, List.cons_append, List.nil_append, List.length_cons, List.length_nil, Nat.reduceAdd, Nat.reduceLeDiff, Nat.reduceLT, Nat.reduceEqDiff, and_self, and_false, Bool.false_eq_true, ho, m_placeI hFl hK.2.2 hf hc, m_placeI hFl hK.2.2 hf ho', fk204, fit_i, show isL jk = false from rfl, iI_f, i32_0, i32_1, b2i_0, b2i_n, iI_add, iI_sub, iI_mul, iI_neg, iI_lt, iI_le, iI_eq, iI_in, iI_cl, i_nn, eq_self, true_or, or_true, not_true_eq_false, not_false_eq_true, Int.reduceEq, Int.reduceLT, Int.reduceLE, Int.reduceNeg]
  have F0 : Fr h (f_st h 56 (.inr (6, [.ref 57, .int (iI o.1), .ref 58, .ref 59, .int (iI o.2.1), .ref 60, .ref 61, .ref 62, .ref 63, .ref 64, .ref 65, .ref 66, .int (iI 0), .ref 67, .ref 68, .ref 69, .ref 70, .ref 71, .ref 72, .int (iI o.2.2.2.1), .int (iI o.2.2.2.2.1), .int (iI o.2.2.2.2.2.1), .int (iI o.2.2.2.2.2.2.1), .int (iI o.2.2.2.2.2.2.2), .ref 73, .ref 74, .ref 75, .ref 76]))) meS := Fr.rf.st (by simp [meS])
  refine m_addMeet (o := (o.1, o.2.1, 0, o.2.2.2)) (R := []) (by omega) (by omega) (fun p hp => by cases hp) (by simp) (by unfold Mob; rw [fg_st_s]) rfl ⟨U, D, h65.of (Fr.rf.st (S := fun k => k = 56) rfl) (by omega), h66.of (Fr.rf.st (S := fun k => k = 56) rfl) (by omega), fun j hj => by simp at hj⟩ (fun h1 o1 e1 e2 e3 e4 e5 => ?_)
  rw [show adL 0 1 [] = [(0, 1)] from rfl] at e2 e4
  simp (disch := omega) only [g_iconst, g_lconst, g_iadd, g_isub, g_imul, g_iand, g_ior, g_ishl, g_ishr, g_iushr, g_ladd, g_lsub, g_lmul, g_land, g_lor, g_lcmp, g_ineg, g_lshl, g_lshr, g_i2l, g_l2i, g_dupi, g_dupr, g_pop, g_dup2, g_mabs_0, g_mabs_1, g_mabs_2, g_mabs_3, g_mmax_0, g_mmax_1, g_mmax_2, g_mmax_3, g_mmin_0, g_mmin_1, g_mmin_2, g_mmin_3, g_goto, g_jsr, g_icmp_eq, g_icmp_ne, g_icmp_lt, g_icmp_ge, g_icmp_gt, g_icmp_le, g_if_eq, g_if_ne, g_if_lt, g_if_ge, g_if_gt, g_if_le, g_idiv, g_irem, g_ldiv, g_iload, g_lload, g_aload, g_istore, g_astore, g_lstore, g_iinc, g_getfield, g_putfield, g_iaload, g_baload, g_laload, g_aaload, g_iastore, g_bastore, g_lastore, g_arraylength, g_call0_0, g_call0_1, g_call0_2, g_call0_3, g_call0_4, g_call1_0, g_call1_1, g_call1_2, g_call1_3, g_call1_4, g_call2_0, g_call2_1, g_call2_2, g_call2_3, g_call2_4, g_call3_0, g_call3_1, g_call3_2, g_call3_3, g_call3_4, g_call4_0, g_call4_1, g_call4_2, g_call4_3, g_call4_4, g_call5_0, g_call5_1, g_call5_2, g_call5_3, g_call5_4, g_call6_0, g_call6_1, g_call6_2, g_call6_3, g_call6_4, g_ireturn, g_lreturn, g_return, g_zreturn, sto_0, sto_s, sto2_0, sto2_s, isL_i, isL_r, isL_l, isL_j, ldI_0, ldI_9, ldZ_2, ldL_1, ldQ_3, stI_0, stL_1, stZ_2, gF_o, pF_o, lenA_9, oB_some, vI_i, vJ_j, vR_r, Option.map_some, List.getElem?_cons_zero, List.getElem?_cons_succ, Nat.reduceDiv, Nat.reduceMod, Int.reduceToNat, true_and, and_true, false_and, reduceIte, List.set_cons_zero, List.set_cons_succ, Option.toList_some, Option.toList_none, List.cons_append, List.nil_append, List.length_cons, List.length_nil, Nat.reduceAdd, Nat.reduceLeDiff, Nat.reduceLT, Nat.reduceEqDiff, and_self, and_false, Bool.false_eq_true, iI_f, i32_0, i32_1, b2i_0, b2i_n, iI_add, iI_sub, iI_mul, iI_neg, iI_lt, iI_le, iI_eq, iI_in, iI_cl, i_nn, eq_self, true_or, or_true, not_true_eq_false, not_false_eq_true, Int.reduceEq, Int.reduceLT, Int.reduceLE, Int.reduceNeg]
  refine m_addMeet (o := o1) (R := [(0, 1)]) (by omega) (by omega) (fun p hp => by simp only [List.mem_singleton] at hp; subst hp; simp) (by simp) e3 e2 e4 (fun h2 o2 f1 f2 f3 f4 f5 => ?_)
  rw [show adL 1 1 [(0, 1)] = [(1, 1), (0, 1)] from rfl] at f2 f4
  simp (disch := omega) only [g_iconst, g_lconst, g_iadd, g_isub, g_imul, g_iand, g_ior, g_ishl, g_ishr, g_iushr, g_ladd, g_lsub, g_lmul, g_land, g_lor, g_lcmp, g_ineg, g_lshl, g_lshr, g_i2l, g_l2i, g_dupi, g_dupr, g_pop, g_dup2, g_mabs_0, g_mabs_1, g_mabs_2, g_mabs_3, g_mmax_0, g_mmax_1, g_mmax_2, g_mmax_3, g_mmin_0, g_mmin_1, g_mmin_2, g_mmin_3, g_goto, g_jsr, g_icmp_eq, g_icmp_ne, g_icmp_lt, g_icmp_ge, g_icmp_gt, g_icmp_le, g_if_eq, g_if_ne, g_if_lt, g_if_ge, g_if_gt, g_if_le, g_idiv, g_irem, g_ldiv, g_iload, g_lload, g_aload, g_istore, g_astore, g_lstore, g_iinc, g_getfield, g_putfield, g_iaload, g_baload, g_laload, g_aaload, g_iastore, g_bastore, g_lastore, g_arraylength, g_call0_0, g_call0_1, g_call0_2, g_call0_3, g_call0_4, g_call1_0, g_call1_1, g_call1_2, g_call1_3, g_call1_4, g_call2_0, g_call2_1, g_call2_2, g_call2_3, g_call2_4, g_call3_0, g_call3_1, g_call3_2, g_call3_3, g_call3_4, g_call4_0, g_call4_1, g_call4_2, g_call4_3, g_call4_4, g_call5_0, g_call5_1, g_call5_2, g_call5_3, g_call5_4, g_call6_0, g_call6_1, g_call6_2, g_call6_3, g_call6_4, g_ireturn, g_lreturn, g_return, g_zreturn, sto_0, sto_s, sto2_0, sto2_s, isL_i, isL_r, isL_l, isL_j, ldI_0, ldI_9, ldZ_2, ldL_1, ldQ_3, stI_0, stL_1, stZ_2, gF_o, pF_o, lenA_9, oB_some, vI_i, vJ_j, vR_r, Option.map_some, List.getElem?_cons_zero, List.getElem?_cons_succ, Nat.reduceDiv, Nat.reduceMod, Int.reduceToNat, true_and, and_true, false_and, reduceIte, List.set_cons_zero, List.set_cons_succ, Option.toList_some, Option.toList_none, List.cons_append, List.nil_append, List.length_cons, List.length_nil, Nat.reduceAdd, Nat.reduceLeDiff, Nat.reduceLT, Nat.reduceEqDiff, and_self, and_false, Bool.false_eq_true, show isL jk = false from rfl, iI_f, i32_0, i32_1, b2i_0, b2i_n, iI_add, iI_sub, iI_mul, iI_neg, iI_lt, iI_le, iI_eq, iI_in, iI_cl, i_nn, eq_self, true_or, or_true, not_true_eq_false, not_false_eq_true, Int.reduceEq, Int.reduceLT, Int.reduceLE, Int.reduceNeg]
  have F2 : Fr h h2 meS := (F0.tr e5 (U := meS) (fun _ q => q) (fun _ q => q)).tr f5 (fun _ q => q) (fun _ q => q)
  refine l_sight1 hM hK hf hc ho' hab (fun h3 o3 g1 g2 g3 g4 g5 g6 g7 => ?_) (mM M f) 0 h2 o2 [(1, 1), (0, 1)] (by omega) (f1.trans (e1.trans eL)) f3 f2 f4 (fun p hp => by
      simp only [List.mem_cons, List.not_mem_nil, or_false] at hp
      rcases hp with rfl | rfl <;> simp) (by simp) rfl F2
  obtain ⟨U3, D3, k1, k2, k3⟩ := g4
  have M3 : Mdl h3 M := (hM.scr (g7.mono (fun k z => by simp only [meS] at z; simp only [scS]; omega)) ⟨o3, g1, g2⟩ (hM.2.2.2.2.me g7 ⟨_, k1⟩ ⟨_, k2⟩)).1
  have hF3 : Fld h3 o3 (mX M) (mY M) (mM M) := ⟨g2, M3.2.2.1⟩
  have hlen : 1 ≤ (mtR (fw (mX M) f) (fw (mY M) f) (mM M f) c o').length := by
    have : ∀ (d k : Nat) (R : List (Int × Int)), 1 ≤ R.length → 1 ≤ (itF (fun k R => layL (fw (mX M) f) (fw (mY M) f) c o' k (nx (mM M f) k) R) k d R).length := by
      intro d
      induction d with
      | zero => intro k R h; exact h
      | succ d ih =>
        intro k R h
        rw [itF]
        refine ih (k + 1) _ ?_
        unfold layL adL
        (repeat' split) <;> (try simp only [insR_l]) <;> omega
    exact this _ _ _ (by simp)
  rw [B156_77, b156_77]
  simp (disch := omega) only [g_iconst, g_lconst, g_iadd, g_isub, g_imul, g_iand, g_ior, g_ishl, g_ishr, g_iushr, g_ladd, g_lsub, g_lmul, g_land, g_lor, g_lcmp, g_ineg, g_lshl, g_lshr, g_i2l, g_l2i, g_dupi, g_dupr, g_pop, g_dup2, g_mabs_0, g_mabs_1, g_mabs_2, g_mabs_3, g_mmax_0, g_mmax_1, g_mmax_2, g_mmax_3, g_mmin_0, g_mmin_1, g_mmin_2, g_mmin_3, g_goto, g_jsr, g_icmp_eq, g_icmp_ne, g_icmp_lt, g_icmp_ge, g_icmp_gt, g_icmp_le, g_if_eq, g_if_ne, g_if_lt, g_if_ge, g_if_gt, g_if_le, g_idiv, g_irem, g_ldiv, g_iload, g_lload, g_aload, g_istore, g_astore, g_lstore, g_iinc, g_getfield, g_putfield, g_iaload, g_baload, g_laload, g_aaload, g_iastore, g_bastore, g_lastore, g_arraylength, g_call0_0, g_call0_1, g_call0_2, g_call0_3, g_call0_4, g_call1_0, g_call1_1, g_call1_2, g_call1_3, g_call1_4, g_call2_0, g_call2_1, g_call2_2, g_call2_3, g_call2_4, g_call3_0, g_call3_1, g_call3_2, g_call3_3, g_call3_4, g_call4_0, g_call4_1, g_call4_2, g_call4_3, g_call4_4, g_call5_0, g_call5_1, g_call5_2, g_call5_3, g_call5_4, g_call6_0, g_call6_1, g_call6_2, g_call6_3, g_call6_4, g_ireturn, g_lreturn, g_return, g_zreturn, sto_0, sto_s, sto2_0, sto2_s, isL_i, isL_r, isL_l, isL_j, ldI_0, ldI_9, ldZ_2, ldL_1, ldQ_3, stI_0, stL_1, stZ_2, gF_o, pF_o, lenA_9, oB_some, vI_i, vJ_j, vR_r, Option.map_some, List.getElem?_cons_zero, List.getElem?_cons_succ, Nat.reduceDiv, Nat.reduceMod, Int.reduceToNat, true_and, and_true, false_and, reduceIte, List.set_cons_zero, List.set_cons_succ, Option.toList_some, Option.toList_none, List.cons_append, List.nil_append, List.length_cons, List.length_nil, Nat.reduceAdd, Nat.reduceLeDiff, Nat.reduceLT, Nat.reduceEqDiff, and_self, and_false, Bool.false_eq_true, iI_f, i32_0, i32_1, b2i_0, b2i_n, iI_add, iI_sub, iI_mul, iI_neg, iI_lt, iI_le, iI_eq, iI_in, iI_cl, i_nn, eq_self, true_or, or_true, not_true_eq_false, not_false_eq_true, Int.reduceEq, Int.reduceLT, Int.reduceLE, Int.reduceNeg]
  have w := l_sight2 (S := sgM (fw (mX M) f) (fw (mY M) f) (mM M f) c o') (z2 := .int (iI c)) (z3 := .int (iI o')) (Q := Q) hF3 hK.2.2 hf hc ho' g5 g6 g3 k1 k2 k3 (hq h3 M3 g7) ((mtR (fw (mX M) f) (fw (mY M) f) (mM M f) c o').length - 1) 1 true jk jk jk jk jk jk jk jk (by omega) (by omega) (by rw [Bool.true_and, okR_any _ _ _ _ _ _ hlen]; rfl)
  exact w
