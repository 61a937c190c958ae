/-! The reference: dots on the fence, how a corner turns. -/
theorem nx_mod {n i : Nat} (h : i < n) : (i + 1) % n = nx n i := by
  unfold nx
  split
  · exact Nat.mod_eq_of_lt (by omega)
  · rw [show i + 1 = n by omega]; exact Nat.mod_self n
theorem m_placeN {h : fH} {o : MO} {x y : Nat → Int} {m : Nat → Nat} (hF : Fld h o x y m) (hK : Fok x y m) {f i : Nat} (hf : f < 4) (hi : i < m f) (Q : Option Value → fH → Prop) : Call 130 [.ref 56, .int (iI f), .int (iI ((i : Int) + 1))] h Q ↔ Q (some (.int (iI ((10 * f + nx (m f) i : Nat) : Int)))) h := by
  have mp := (hK f hf).1
  have c := m_place hF hK hf (i := i + 1) (by omega) (by omega) Q
  rw [nx_mod hi, show ((i + 1 : Nat) : Int) = (i : Int) + 1 by omega] at c
  exact c
theorem m_placeI {h : fH} {o : MO} {x y : Nat → Int} {m : Nat → Nat} (hF : Fld h o x y m) (hK : Fok x y m) {f i : Nat} (hf : f < 4) (hi : i < m f) (Q : Option Value → fH → Prop) : Call 130 [.ref 56, .int (iI f), .int (iI (i : Int))] h Q ↔ Q (some (.int (iI ((10 * f + i : Nat) : Int)))) h := by
  have mp := (hK f hf).1
  have c := m_place hF hK hf (i := i) (by omega) (by omega) Q
  rw [Nat.mod_eq_of_lt hi] at c
  exact c
set_option maxRecDepth 10000 in
theorem m_placeP {h : fH} {o : MO} {x y : Nat → Int} {m : Nat → Nat} (hF : Fld h o x y m) (hK : Fok x y m) {f i : Nat} (hf : f < 4) (hi : i < m f) (h2n : 2 ≤ m f) (Q : Option Value → fH → Prop) : Call 130 [.ref 56, .int (iI f), .int (iI ((i : Int) - 1))] h Q ↔ Q (some (.int (iI ((10 * f + pv (m f) i : Nat) : Int)))) h := by
  obtain ⟨ho, h1, h2, h3⟩ := id hF; unfold Mob at ho; unfold Row at h1 h2 h3
  have mp := (hK f hf).1
  refine Call.iff ⟨by simp [vOK, entL, isL, mlT, kdT, clT, isO, ho], rfl, ?_⟩ Q
  rw [show ent 130 [.ref 56, .int (iI f), .int (iI ((i : Int) - 1))] = [.ref 56, .int (iI f), .int (iI ((i : Int) - 1))] from rfl]
  have e1 : ((i : Int) - 1).tmod (m f : Int) = (i : Int) - 1 := by
    by_cases e : i = 0
    · subst e
      rw [show ((0 : Nat) : Int) - 1 = -1 from rfl, Int.neg_tmod, show (1 : Int) = ((1 : Nat) : Int) from rfl, tm_n, Nat.mod_eq_of_lt (by omega)]
    · rw [show (i : Int) - 1 = ((i - 1 : Nat) : Int) by omega, tm_n, Nat.mod_eq_of_lt (by omega)]
  have e2 : ((i : Int) - 1 + (m f : Int)).tmod (m f : Int) = (pv (m f) i : Int) := by
    rw [show (i : Int) - 1 + (m f : Int) = ((i + m f - 1 : Nat) : Int) by omega, tm_n]
    unfold pv
    by_cases e : i = 0
    · subst e; rw [if_neg (by omega), Nat.mod_eq_of_lt (by omega)]; congr 1; omega
    · rw [if_pos (by omega), show i + m f - 1 = i - 1 + m f by omega, Nat.add_mod_right, Nat.mod_eq_of_lt (by omega)]
  simp (disch := omega) only [B130_0, b130_0, g_iconst, g_lconst, g_iadd, g_isub, g_imul, g_iand, g_ior, g_ishl, g_ishr, g_iushr, g_ladd, g_lsub, g_lmul, g_land, g_lor, g_lcmp, g_ineg, g_lshl, g_lshr, g_i2l, g_l2i, g_dupi, g_dupr, g_pop, g_dup2, g_mabs_0, g_mabs_1, g_mabs_2, g_mabs_3, g_mmax_0, g_mmax_1, g_mmax_2, g_mmax_3, g_mmin_0, g_mmin_1, g_mmin_2, g_mmin_3, g_goto, g_jsr, g_icmp_eq, g_icmp_ne, g_icmp_lt, g_icmp_ge, g_icmp_gt, g_icmp_le, g_if_eq, g_if_ne, g_if_lt, g_if_ge, g_if_gt, g_if_le, g_idiv, g_irem, g_ldiv, g_iload, g_lload, g_aload, g_istore, g_astore, g_lstore, g_iinc, g_getfield, g_putfield, g_iaload, g_baload, g_laload, g_aaload, g_iastore, g_bastore, g_lastore, g_arraylength, g_call0_0, g_call0_1, g_call0_2, g_call0_3, g_call0_4, g_call1_0, g_call1_1, g_call1_2, g_call1_3, g_call1_4, g_call2_0, g_call2_1, g_call2_2, g_call2_3, g_call2_4, g_call3_0, g_call3_1, g_call3_2, g_call3_3, g_call3_4, g_call4_0, g_call4_1, g_call4_2, g_call4_3, g_call4_4, g_call5_0, g_call5_1, g_call5_2, g_call5_3, g_call5_4, g_call6_0, g_call6_1, g_call6_2, g_call6_3, g_call6_4, g_ireturn, g_lreturn, g_return, g_zreturn, sto_0, sto_s, sto2_0, sto2_s, isL_i, isL_r, isL_l, isL_j, ldI_0, ldI_9, ldZ_2, ldL_1, ldQ_3, stI_0, stL_1, stZ_2, gF_o, pF_o, lenA_9, oB_some, vI_i, vJ_j, vR_r, Option.map_some, List.getElem?_cons_zero, List.getElem?_cons_succ, Nat.reduceDiv, Nat.reduceMod, Int.reduceToNat, true_and, and_true, false_and, reduceIte, List.set_cons_zero, List.set_cons_succ, Option.toList_some, Option.toList_none, List.cons_append, List.nil_append, List.length_cons, List.length_nil, Nat.reduceAdd, Nat.reduceLeDiff, Nat.reduceLT, Nat.reduceEqDiff, and_self, and_false, Bool.false_eq_true, ho, h3, iI_rem, e1, e2, iI_f, i32_0, i32_1, b2i_0, b2i_n, iI_add, iI_sub, iI_mul, iI_neg, iI_lt, iI_le, iI_eq, iI_in, iI_cl, i_nn, eq_self, true_or, or_true, not_true_eq_false, not_false_eq_true, Int.reduceEq, Int.reduceLT, Int.reduceLE, Int.reduceNeg]
  refine ⟨by omega, by omega, ?_⟩
  congr 3
def fnM (X Y : Nat → Int) (n i : Nat) : Nat := Nat.gcd (X (nx n i) - X i).natAbs (Y (nx n i) - Y i).natAbs
set_option maxRecDepth 10000 in
theorem l_mfence {h : fH} {o : MO} {x y : Nat → Int} {m : Nat → Nat} (hF : Fld h o x y m) (hK : Fok x y m) {f : Nat} (hf : f < 4) : ∀ (d i s : Nat) (z4 z5 : Value), i + d = m f → isL z4 = false → isL z5 = false →
    Go 141 (blk 141 4) [.ref 56, .int (iI f), .int (iI s), .int (iI i), z4, z5] [] h (fun w h2 => w = some (.int (iI ((itF (fun i s => s + fnM (fw x f) (fw y f) (m f) i) i d s : Nat) : Int))) ∧ h2 = h) := by
  obtain ⟨ho, h1, h2, h3⟩ := id hF; unfold Mob at ho; unfold Row at h1 h2 h3
  have mp := (hK f hf).1
  intro d
  induction d with
  | zero =>
    intro i s z4 z5 hi l4 l5
    rw [B141_4, b141_4]
    simp (disch := omega) only [B141_74, b141_74, g_iconst, g_lconst, g_iadd, g_isub, g_imul, g_iand, g_ior, g_ishl, g_ishr, g_iushr, g_ladd, g_lsub, g_lmul, g_land, g_lor, g_lcmp, g_ineg, g_lshl, g_lshr, g_i2l, g_l2i, g_dupi, g_dupr, g_pop, g_dup2, g_mabs_0, g_mabs_1, g_mabs_2, g_mabs_3, g_mmax_0, g_mmax_1, g_mmax_2, g_mmax_3, g_mmin_0, g_mmin_1, g_mmin_2, g_mmin_3, g_goto, g_jsr, g_icmp_eq, g_icmp_ne, g_icmp_lt, g_icmp_ge, g_icmp_gt, g_icmp_le, g_if_eq, g_if_ne, g_if_lt, g_if_ge, g_if_gt, g_if_le, g_idiv, g_irem, g_ldiv, g_iload, g_lload, g_aload, g_istore, g_astore, g_lstore, g_iinc, g_getfield, g_putfield, g_iaload, g_baload, g_laload, g_aaload, g_iastore, g_bastore, g_lastore, g_arraylength, g_call0_0, g_call0_1, g_call0_2, g_call0_3, g_call0_4, g_call1_0, g_call1_1, g_call1_2, g_call1_3, g_call1_4, g_call2_0, g_call2_1, g_call2_2, g_call2_3, g_call2_4, g_call3_0, g_call3_1, g_call3_2, g_call3_3, g_call3_4, g_call4_0, g_call4_1, g_call4_2, g_call4_3, g_call4_4, g_call5_0, g_call5_1, g_call5_2, g_call5_3, g_call5_4, g_call6_0, g_call6_1, g_call6_2, g_call6_3, g_call6_4, g_ireturn, g_lreturn, g_return, g_zreturn, sto_0, sto_s, sto2_0, sto2_s, isL_i, isL_r, isL_l, isL_j, ldI_0, ldI_9, ldZ_2, ldL_1, ldQ_3, stI_0, stL_1, stZ_2, gF_o, pF_o, lenA_9, oB_some, vI_i, vJ_j, vR_r, Option.map_some, List.getElem?_cons_zero, List.getElem?_cons_succ, Nat.reduceDiv, Nat.reduceMod, Int.reduceToNat, true_and, and_true, false_and, reduceIte, List.set_cons_zero, List.set_cons_succ, Option.toList_some, Option.toList_none, List.cons_append, List.nil_append, List.length_cons, List.length_nil, Nat.reduceAdd, Nat.reduceLeDiff, Nat.reduceLT, Nat.reduceEqDiff, and_self, and_false, Bool.false_eq_true, ho, h3, iI_f, i32_0, i32_1, b2i_0, b2i_n, iI_add, iI_sub, iI_mul, iI_neg, iI_lt, iI_le, iI_eq, iI_in, iI_cl, i_nn, eq_self, true_or, or_true, not_true_eq_false, not_false_eq_true, Int.reduceEq, Int.reduceLT, Int.reduceLE, Int.reduceNeg]
    exact ite_t (by omega) rfl
  | succ d ih =>
    intro i s z4 z5 hi l4 l5
    have hin : i < m f := by omega
    have hnx := nx_lt hin
    have k1 := (hK f hf).2 i hin
    have k2 := (hK f hf).2 _ hnx
    have w := ih (i + 1) (s + fnM (fw x f) (fw y f) (m f) i) (.int (iI ((10 * f + i : Nat) : Int))) (.int (iI ((10 * f + nx (m f) i : Nat) : Int))) (by omega) rfl rfl
    push_cast at w
    have cd := m_divisor (h := h) (p := x (10 * f + nx (m f) i) - x (10 * f + i)) (q := y (10 * f + nx (m f) i) - y (10 * f + i)) (by omega) (by omega)
    rw [B141_4, b141_4]
    simp (disch := omega) only [g_iconst, g_lconst, g_iadd, g_isub, g_imul, g_iand, g_ior, g_ishl, g_ishr, g_iushr, g_ladd, g_lsub, g_lmul, g_land, g_lor, g_lcmp, g_ineg, g_lshl, g_lshr, g_i2l, g_l2i, g_dupi, g_dupr, g_pop, g_dup2, g_mabs_0, g_mabs_1, g_mabs_2, g_mabs_3, g_mmax_0, g_mmax_1, g_mmax_2, g_mmax_3, g_mmin_0, g_mmin_1, g_mmin_2, g_mmin_3, g_goto, g_jsr, g_icmp_eq, g_icmp_ne, g_icmp_lt, g_icmp_ge, g_icmp_gt, g_icmp_le, g_if_eq, g_if_ne, g_if_lt, g_if_ge, g_if_gt, g_if_le, g_idiv, g_irem, g_ldiv, g_iload, g_lload, g_aload, g_istore, g_astore, g_lstore, g_iinc, g_getfield, g_putfield, g_iaload, g_baload, g_laload, g_aaload, g_iastore, g_bastore, g_lastore, g_arraylength, g_call0_0, g_call0_1, g_call0_2, g_call0_3, g_call0_4, g_call1_0, g_call1_1, g_call1_2, g_call1_3, g_call1_4, g_call2_0, g_call2_1, g_call2_2, g_call2_3, g_call2_4, g_call3_0, g_call3_1, g_call3_2, g_call3_3, g_call3_4, g_call4_0, g_call4_1, g_call4_2, g_call4_3, g_call4_4, g_call5_0, g_call5_1, g_call5_2, g_call5_3, g_call5_4, g_call6_0, g_call6_1, g_call6_2, g_call6_3, g_call6_4, g_ireturn, g_lreturn, g_return, g_zreturn, sto_0, sto_s, sto2_0, sto2_s, isL_i, isL_r, isL_l, isL_j, ldI_0, ldI_9, ldZ_2, ldL_1, ldQ_3, stI_0, stL_1, stZ_2, gF_o, pF_o, lenA_9, oB_some, vI_i, vJ_j, vR_r, Option.map_some, List.getElem?_cons_zero, List.getElem?_cons_succ, Nat.reduceDiv, Nat.reduceMod, Int.reduceToNat, true_and, and_true, false_and, reduceIte, List.set_cons_zero, List.set_cons_succ, Option.toList_some, Option.toList_none, List.cons_append, List.nil_append, List.length_cons, List.length_nil, Nat.reduceAdd, Nat.reduceLeDiff, Nat.reduceLT, Nat.reduceEqDiff, and_self, and_false, Bool.false_eq_true, ho, h1, h2, h3, l4, l5, m_placeI hF hK hf hin, m_placeN hF hK hf hin, cd, iI_f, i32_0, i32_1, b2i_0, b2i_n, iI_add, iI_sub, iI_mul, iI_neg, iI_lt, iI_le, iI_eq, iI_in, iI_cl, i_nn, eq_self, true_or, or_true, not_true_eq_false, not_false_eq_true, Int.reduceEq, Int.reduceLT, Int.reduceLE, Int.reduceNeg]
    refine ite_f (by omega) ?_
    exact w
set_option maxRecDepth 10000 in
theorem m_fenceDots {h : fH} {o : MO} {x y : Nat → Int} {m : Nat → Nat} (hF : Fld h o x y m) (hK : Fok x y m) {f : Nat} (hf : f < 4) (Q : Option Value → fH → Prop) : Call 141 [.ref 56, .int (iI f)] h Q ↔ Q (some (.int (iI ((itF (fun i s => s + fnM (fw x f) (fw y f) (m f) i) 0 (m f) 0 : Nat) : Int)))) h := by
  obtain ⟨ho, h1, h2, h3⟩ := id hF; unfold Mob at ho; unfold Row at h1 h2 h3
  refine Call.iff ⟨by simp [vOK, entL, isL, mlT, kdT, clT, isO, ho], rfl, ?_⟩ Q
  rw [show ent 141 [.ref 56, .int (iI f)] = [.ref 56, .int (iI f), jk, jk, jk, jk] from rfl]
  simp (disch := omega) only [B141_0, b141_0, g_iconst, g_lconst, g_iadd, g_isub, g_imul, g_iand, g_ior, g_ishl, g_ishr, g_iushr, g_ladd, g_lsub, g_lmul, g_land, g_lor, g_lcmp, g_ineg, g_lshl, g_lshr, g_i2l, g_l2i, g_dupi, g_dupr, g_pop, g_dup2, g_mabs_0, g_mabs_1, g_mabs_2, g_mabs_3, g_mmax_0, g_mmax_1, g_mmax_2, g_mmax_3, g_mmin_0, g_mmin_1, g_mmin_2, g_mmin_3, g_goto, g_jsr, g_icmp_eq, g_icmp_ne, g_icmp_lt, g_icmp_ge, g_icmp_gt, g_icmp_le, g_if_eq, g_if_ne, g_if_lt, g_if_ge, g_if_gt, g_if_le, g_idiv, g_irem, g_ldiv, g_iload, g_lload, g_aload, g_istore, g_astore, g_lstore, g_iinc, g_getfield, g_putfield, g_iaload, g_baload, g_laload, g_aaload, g_iastore, g_bastore, g_lastore, g_arraylength, g_call0_0, g_call0_1, g_call0_2, g_call0_3, g_call0_4, g_call1_0, g_call1_1, g_call1_2, g_call1_3, g_call1_4, g_call2_0, g_call2_1, g_call2_2, g_call2_3, g_call2_4, g_call3_0, g_call3_1, g_call3_2, g_call3_3, g_call3_4, g_call4_0, g_call4_1, g_call4_2, g_call4_3, g_call4_4, g_call5_0, g_call5_1, g_call5_2, g_call5_3, g_call5_4, g_call6_0, g_call6_1, g_call6_2, g_call6_3, g_call6_4, g_ireturn, g_lreturn, g_return, g_zreturn, sto_0, sto_s, sto2_0, sto2_s, isL_i, isL_r, isL_l, isL_j, ldI_0, ldI_9, ldZ_2, ldL_1, ldQ_3, stI_0, stL_1, stZ_2, gF_o, pF_o, lenA_9, oB_some, vI_i, vJ_j, vR_r, Option.map_some, List.getElem?_cons_zero, List.getElem?_cons_succ, Nat.reduceDiv, Nat.reduceMod, Int.reduceToNat, true_and, and_true, false_and, reduceIte, List.set_cons_zero, List.set_cons_succ, Option.toList_some, Option.toList_none, List.cons_append, List.nil_append, List.length_cons, List.length_nil, Nat.reduceAdd, Nat.reduceLeDiff, Nat.reduceLT, Nat.reduceEqDiff, and_self, and_false, Bool.false_eq_true, iI_f, i32_0, i32_1, b2i_0, b2i_n, iI_add, iI_sub, iI_mul, iI_neg, iI_lt, iI_le, iI_eq, iI_in, iI_cl, i_nn, eq_self, true_or, or_true, not_true_eq_false, not_false_eq_true, Int.reduceEq, Int.reduceLT, Int.reduceLE, Int.reduceNeg]
  exact l_mfence hF hK hf (m f) 0 0 jk jk (by omega) rfl rfl
def hwM (X Y : Nat → Int) (n i : Nat) : Int := if 0 < (if 0 ≤ arM X Y n then sd X Y (pv n i) i (nx n i) else -sd X Y (pv n i) i (nx n i)) then 0 else if sd X Y (pv n i) i (nx n i) = 0 then 1 else 2
theorem fan_bd {n : Nat} {X Y : Nat → Int} (hR : Rg n X Y) {p : Nat} (hp : p < n) : ∀ (d k : Nat) (s : Int), k + d < n → -450 * (k : Int) ≤ s → s ≤ 450 * (k : Int) → -450 * ((k : Int) + d) ≤ fan X Y p k d s ∧ fan X Y p k d s ≤ 450 * ((k : Int) + d)
  | 0, k, s, _, h1, h2 => by rw [fan]; constructor <;> (push_cast; omega)
  | d + 1, k, s, h, h1, h2 => by
    have e := sd_bd hR hp (show k < n by omega) (show k + 1 < n by omega)
    have w := fan_bd hR hp d (k + 1) (s + sd X Y p k (k + 1)) (by omega) (by push_cast; omega) (by push_cast; omega)
    rw [fan]
    push_cast at w ⊢
    omega
theorem arM_bd {n : Nat} {X Y : Nat → Int} (hR : Rg n X Y) (h2 : 2 ≤ n) (hn : n ≤ 10) : -4500 ≤ arM X Y n ∧ arM X Y n ≤ 4500 := by
  have w := fan_bd hR (show 0 < n by omega) (n - 1 - 1) 1 0 (by omega) (by omega) (by omega)
  unfold arM
  omega
set_option maxRecDepth 10000 in
theorem m_howOf {h : fH} {o : MO} {x y : Nat → Int} {m : Nat → Nat} (hF : Fld h o x y m) (hK : Fok x y m) {f i : Nat} (hf : f < 4) (hi : i < m f) (h2n : 2 ≤ m f) (Q : Option Value → fH → Prop) : Call 142 [.ref 56, .int (iI f), .int (iI i)] h Q ↔ Q (some (.int (iI (hwM (fw x f) (fw y f) (m f) i)))) h := by
  obtain ⟨ho, h1, h2, h3⟩ := id hF; unfold Mob at ho; unfold Row at h1 h2 h3
  have mp := (hK f hf).1
  have hR := fok_R hK hf
  have ab := arM_bd hR h2n mp
  have sb := sd_bd hR (pv_lt hi) hi (nx_lt hi)
  have cs := m_side hF hK (Pl.of hf (pv_lt hi) mp) (Pl.of hf hi mp) (Pl.of hf (nx_lt hi) mp)
  rw [show sd x y (10 * f + pv (m f) i) (10 * f + i) (10 * f + nx (m f) i) = sd (fw x f) (fw y f) (pv (m f) i) i (nx (m f) i) from rfl] at cs
  refine Call.iff ⟨by simp [vOK, entL, isL, mlT, kdT, clT, isO, ho], rfl, ?_⟩ Q
  rw [show ent 142 [.ref 56, .int (iI f), .int (iI i)] = [.ref 56, .int (iI f), .int (iI i), jk] from rfl]
  simp (disch := omega) only [B142_0, b142_0, B142_40, b142_40, B142_41, b142_41, B142_50, b142_50, B142_58, b142_58, B142_59, b142_59, g_iconst, g_lconst, g_iadd, g_isub, g_imul, g_iand, g_ior, g_ishl, g_ishr, g_iushr, g_ladd, g_lsub, g_lmul, g_land, g_lor, g_lcmp, g_ineg, g_lshl, g_lshr, g_i2l, g_l2i, g_dupi, g_dupr, g_pop, g_dup2, g_mabs_0, g_mabs_1, g_mabs_2, g_mabs_3, g_mmax_0, g_mmax_1, g_mmax_2, g_mmax_3, g_mmin_0, g_mmin_1, g_mmin_2, g_mmin_3, g_goto, g_jsr, g_icmp_eq, g_icmp_ne, g_icmp_lt, g_icmp_ge, g_icmp_gt, g_icmp_le, g_if_eq, g_if_ne, g_if_lt, g_if_ge, g_if_gt, g_if_le, g_idiv, g_irem, g_ldiv, g_iload, g_lload, g_aload, g_istore, g_astore, g_lstore, g_iinc, g_getfield, g_putfield, g_iaload, g_baload, g_laload, g_aaload, g_iastore, g_bastore, g_lastore, g_arraylength, g_call0_0, g_call0_1, g_call0_2, g_call0_3, g_call0_4, g_call1_0, g_call1_1, g_call1_2, g_call1_3, g_call1_4, g_call2_0, g_call2_1, g_call2_2, g_call2_3, g_call2_4, g_call3_0, g_call3_1, g_call3_2, g_call3_3, g_call3_4, g_call4_0, g_call4_1, g_call4_2, g_call4_3, g_call4_4, g_call5_0, g_call5_1, g_call5_2, g_call5_3, g_call5_4, g_call6_0, g_call6_1, g_call6_2, g_call6_3, g_call6_4, g_ireturn, g_lreturn, g_return, g_zreturn, sto_0, sto_s, sto2_0, sto2_s, isL_i, isL_r, isL_l, isL_j, ldI_0, ldI_9, ldZ_2, ldL_1, ldQ_3, stI_0, stL_1, stZ_2, gF_o, pF_o, lenA_9, oB_some, vI_i, vJ_j, vR_r, Option.map_some, List.getElem?_cons_zero, List.getElem?_cons_succ, Nat.reduceDiv, Nat.reduceMod, Int.reduceToNat, true_and, and_true, false_and, reduceIte, List.set_cons_zero, List.set_cons_succ, Option.toList_some, Option.toList_none, List.cons_append, List.nil_append, List.length_cons, List.length_nil, Nat.reduceAdd, Nat.reduceLeDiff, Nat.reduceLT, Nat.reduceEqDiff, and_self, and_false, Bool.false_eq_true, m_placeI hF hK hf hi, m_placeN hF hK hf hi, m_placeP hF hK hf hi h2n, cs, m_area hF hK hf (show 0 < m f by omega), iI_f, i32_0, i32_1, b2i_0, b2i_n, iI_add, iI_sub, iI_mul, iI_neg, iI_lt, iI_le, iI_eq, iI_in, iI_cl, i_nn, eq_self, true_or, or_true, not_true_eq_false, not_false_eq_true, Int.reduceEq, Int.reduceLT, Int.reduceLE, Int.reduceNeg]
  unfold hwM
  (repeat' split) <;> first | rfl | (exfalso; omega)
