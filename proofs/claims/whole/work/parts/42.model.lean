/-! The reference: calls that write fields. -/
theorem updM (m : Nat → Nat) (f n : Nat) : updZ (fun j => (m j : Int)) f (n : Int) = fun j => ((updA m f n j : Nat) : Int) := by
  funext j
  by_cases h : j = f
  · subst h; rw [updZ_s, updA_s]
  · rw [updZ_n h, updA_n h]
/-- the first n of field f by g -/
def p10 (x : Nat → Int) (f : Nat) (g : Nat → Int) (n : Nat) : Nat → Int := fun j => if 10 * f ≤ j ∧ j < 10 * f + n then g (j - 10 * f) else x j
theorem p10_0 (x : Nat → Int) (f : Nat) (g : Nat → Int) : p10 x f g 0 = x := by funext j; simp only [p10]; rw [if_neg (by omega)]
theorem p10_s (x : Nat → Int) (f : Nat) (g : Nat → Int) (n : Nat) : updZ (p10 x f g n) (10 * f + n) (g n) = p10 x f g (n + 1) := by
  funext j
  by_cases h : j = 10 * f + n
  · subst h; rw [updZ_s]; simp only [p10]; rw [if_pos (by omega)]; congr 1; omega
  · rw [updZ_n h]; simp only [p10]
    by_cases h2 : 10 * f ≤ j ∧ j < 10 * f + n
    · rw [if_pos h2, if_pos (by omega)]
    · rw [if_neg h2, if_neg (by omega)]
theorem p10_c {x : Nat → Int} {f n : Nat} {g g' : Nat → Int} (h : ∀ k, k < n → g k = g' k) : p10 x f g n = p10 x f g' n := by
  funext j; simp only [p10]; split
  · exact h _ (by omega)
  · rfl
set_option maxRecDepth 10000 in
theorem l_mfield {h0 : fH} {o : MO} {x y X Y : Nat → Int} {m : Nat → Nat} {f n : Nat} (hf : f < 4) (hn : n ≤ 10) (hO : Mob h0 o) (eo : o.2.1 = n) (h58 : Row h0 58 10 X) (h59 : Row h0 59 10 Y) {Q : Option Value → fH → Prop} (hq : ∀ h', Flr h' (p10 x f X n) (p10 y f Y n) m → Fr h0 h' flS → Q (some (.int (iI n))) h') : ∀ (d k : Nat) (h : fH), k + d = n → Flr h (p10 x f X k) (p10 y f Y k) m → Fr h0 h flS →
    Go 122 (blk 122 33) [.ref 56, .int (iI f), .int (iI k)] [] h Q := by
  intro d
  induction d with
  | zero =>
    intro k h hk hR hF
    have ho := hO.of hF (by simp [flS])
    unfold Mob at ho
    obtain rfl : k = n := by omega
    rw [B122_33, b122_33]
    simp (disch := omega) only [B122_81, b122_81, g_iconst, g_lconst, g_iadd, g_isub, g_imul, g_iand, g_ior, g_ishl, g_ishr, g_iushr, g_ladd, g_lsub, g_lmul, g_land, g_lor, g_lcmp, g_ineg, g_lshl, g_lshr, g_i2l, g_l2i, g_dupi, g_dupr, g_pop, g_dup2, g_mabs_0, g_mabs_1, g_mabs_2, g_mabs_3, g_mmax_0, g_mmax_1, g_mmax_2, g_mmax_3, g_mmin_0, g_mmin_1, g_mmin_2, g_mmin_3, g_goto, g_jsr, g_icmp_eq, g_icmp_ne, g_icmp_lt, g_icmp_ge, g_icmp_gt, g_icmp_le, g_if_eq, g_if_ne, g_if_lt, g_if_ge, g_if_gt, g_if_le, g_idiv, g_irem, g_ldiv, g_iload, g_lload, g_aload, g_istore, g_astore, g_lstore, g_iinc, g_getfield, g_putfield, g_iaload, g_baload, g_laload, g_aaload, g_iastore, g_bastore, g_lastore, g_arraylength, g_call0_0, g_call0_1, g_call0_2, g_call0_3, g_call0_4, g_call1_0, g_call1_1, g_call1_2, g_call1_3, g_call1_4, g_call2_0, g_call2_1, g_call2_2, g_call2_3, g_call2_4, g_call3_0, g_call3_1, g_call3_2, g_call3_3, g_call3_4, g_call4_0, g_call4_1, g_call4_2, g_call4_3, g_call4_4, g_call5_0, g_call5_1, g_call5_2, g_call5_3, g_call5_4, g_call6_0, g_call6_1, g_call6_2, g_call6_3, g_call6_4, g_ireturn, g_lreturn, g_return, g_zreturn, sto_0, sto_s, sto2_0, sto2_s, isL_i, isL_r, isL_l, isL_j, ldI_0, ldI_9, ldZ_2, ldL_1, ldQ_3, stI_0, stL_1, stZ_2, gF_o, pF_o, lenA_9, oB_some, vI_i, vJ_j, vR_r, Option.map_some, List.getElem?_cons_zero, List.getElem?_cons_succ, Nat.reduceDiv, Nat.reduceMod, Int.reduceToNat, true_and, and_true, false_and, reduceIte, List.set_cons_zero, List.set_cons_succ, Option.toList_some, Option.toList_none, List.cons_append, List.nil_append, List.length_cons, List.length_nil, Nat.reduceAdd, Nat.reduceLeDiff, Nat.reduceLT, Nat.reduceEqDiff, and_self, and_false, Bool.false_eq_true, ho, eo, iI_f, i32_0, i32_1, b2i_0, b2i_n, iI_add, iI_sub, iI_mul, iI_neg, iI_lt, iI_le, iI_eq, iI_in, iI_cl, i_nn, eq_self, true_or, or_true, not_true_eq_false, not_false_eq_true, Int.reduceEq, Int.reduceLT, Int.reduceLE, Int.reduceNeg]
    exact ite_t (by omega) (hq h hR hF)
  | succ d ih =>
    intro k h hk hR hF
    have ho := hO.of hF (by simp [flS])
    have g58 := h58.of hF (by simp [flS])
    have g59 := h59.of hF (by simp [flS])
    obtain ⟨r1, r2, r3⟩ := id hR
    unfold Mob at ho
    unfold Row at g58 g59 r1 r2
    have e : (10 * (f : Int) + (k : Int)).toNat = 10 * f + k := by omega
    rw [B122_33, b122_33]
    simp (disch := omega) only [g_iconst, g_lconst, g_iadd, g_isub, g_imul, g_iand, g_ior, g_ishl, g_ishr, g_iushr, g_ladd, g_lsub, g_lmul, g_land, g_lor, g_lcmp, g_ineg, g_lshl, g_lshr, g_i2l, g_l2i, g_dupi, g_dupr, g_pop, g_dup2, g_mabs_0, g_mabs_1, g_mabs_2, g_mabs_3, g_mmax_0, g_mmax_1, g_mmax_2, g_mmax_3, g_mmin_0, g_mmin_1, g_mmin_2, g_mmin_3, g_goto, g_jsr, g_icmp_eq, g_icmp_ne, g_icmp_lt, g_icmp_ge, g_icmp_gt, g_icmp_le, g_if_eq, g_if_ne, g_if_lt, g_if_ge, g_if_gt, g_if_le, g_idiv, g_irem, g_ldiv, g_iload, g_lload, g_aload, g_istore, g_astore, g_lstore, g_iinc, g_getfield, g_putfield, g_iaload, g_baload, g_laload, g_aaload, g_iastore, g_bastore, g_lastore, g_arraylength, g_call0_0, g_call0_1, g_call0_2, g_call0_3, g_call0_4, g_call1_0, g_call1_1, g_call1_2, g_call1_3, g_call1_4, g_call2_0, g_call2_1, g_call2_2, g_call2_3, g_call2_4, g_call3_0, g_call3_1, g_call3_2, g_call3_3, g_call3_4, g_call4_0, g_call4_1, g_call4_2, g_call4_3, g_call4_4, g_call5_0, g_call5_1, g_call5_2, g_call5_3, g_call5_4, g_call6_0, g_call6_1, g_call6_2, g_call6_3, g_call6_4, g_ireturn, g_lreturn, g_return, g_zreturn, sto_0, sto_s, sto2_0, sto2_s, isL_i, isL_r, isL_l, isL_j, ldI_0, ldI_9, ldZ_2, ldL_1, ldQ_3, stI_0, stL_1, stZ_2, gF_o, pF_o, lenA_9, oB_some, vI_i, vJ_j, vR_r, Option.map_some, List.getElem?_cons_zero, List.getElem?_cons_succ, Nat.reduceDiv, Nat.reduceMod, Int.reduceToNat, true_and, and_true, false_and, reduceIte, List.set_cons_zero, List.set_cons_succ, Option.toList_some, Option.toList_none, List.cons_append, List.nil_append, List.length_cons, List.length_nil, Nat.reduceAdd, Nat.reduceLeDiff, Nat.reduceLT, Nat.reduceEqDiff, and_self, and_false, Bool.false_eq_true, ho, eo, g58, g59, r1, r2, e, upd_i, fg_st_s, fg_st_n, iI_f, i32_0, i32_1, b2i_0, b2i_n, iI_add, iI_sub, iI_mul, iI_neg, iI_lt, iI_le, iI_eq, iI_in, iI_cl, i_nn, eq_self, true_or, or_true, not_true_eq_false, not_false_eq_true, Int.reduceEq, Int.reduceLT, Int.reduceLE, Int.reduceNeg]
    refine ite_f (by omega) ?_
    rw [p10_s, p10_s]
    have w := ih (k + 1) (f_st (f_st h 60 (.inl (0, 40, .inl (fun j => iI (p10 x f X (k + 1) j))))) 61 (.inl (0, 40, .inl (fun j => iI (p10 y f Y (k + 1) j))))) (by omega) ⟨by unfold Row; rw [fg_st_n (by omega), fg_st_s], by unfold Row; rw [fg_st_s], by unfold Row; rw [fg_st_n (by omega), fg_st_n (by omega)]; exact r3⟩ ((hF.st (a := 60) (by simp [flS])).st (a := 61) (by simp [flS]))
    push_cast at w
    exact w
def yField (M : MZ) (f : Int) : MZ := if fB f = true ∧ bFault M = -9 then mF M (p10 (mX M) f.toNat (vX (mB M)) (mL M / 2)) (p10 (mY M) f.toNat (vY (mB M)) (mL M / 2)) (updA (mM M) f.toNat (mL M / 2)) else M
def bField (M : MZ) (f : Int) : Int := if fB f = true then (if bFault M = -9 then ((mL M / 2 : Nat) : Int) else -3) else -1
theorem rtM_no {B : Nat → Int} {L : Nat} : ∀ (d i : Nat), i + d = L → rtM B L i d = -9 → (6 ≤ L ∧ L % 2 = 0) ∧ ∀ j, i ≤ j → j < L → ftM B j = false
  | 0, i, e, h => by
    rw [rtM] at h
    split at h
    · omega
    · exact ⟨by omega, fun j h1 h2 => by omega⟩
  | d + 1, i, e, h => by
    rw [rtM] at h
    split at h
    · omega
    · rename_i c
      obtain ⟨h1, h2⟩ := rtM_no d (i + 1) (by omega) h
      refine ⟨h1, fun j h3 h4 => ?_⟩
      by_cases e : j = i
      · subst e; simpa using c
      · exact h2 j (by omega) h4
theorem bFault_no {M : MZ} (h : bFault M = -9) : 6 ≤ mL M ∧ mL M ≤ 20 ∧ mL M % 2 = 0 ∧ ∀ j, j < mL M → ftM (mB M) j = false := by
  obtain ⟨⟨h1, h2⟩, h3⟩ := rtM_no _ _ (by omega) h
  refine ⟨h1, ?_, h2, fun j hj => h3 j (by omega) hj⟩
  refine Classical.byContradiction fun c => ?_
  have := h3 20 (by omega) (by omega)
  simp [ftM] at this
set_option maxRecDepth 10000 in
theorem m_field {h : fH} {M : MZ} (hM : Mdl h M) (hK : Mok M) {f : Int} (hf : I32 f) {Q : Option Value → fH → Prop} (hq : ∀ h', WrM h (yField M f) h' → Q (some (.int (iI (bField M f)))) h') : Call 122 [.ref 56, .int (iI f)] h Q := by
  obtain ⟨⟨o, eo, hO⟩, h57, h60, -, hS⟩ := id hM
  obtain ⟨X, h58⟩ := hS.1
  obtain ⟨Y, h59⟩ := hS.2.1
  have ho := id hO
  unfold Mob at ho
  have hL := hK.1
  refine ⟨by simp [vOK, entL, isL, mlT, kdT, clT, isO, ho], rfl, ?_⟩
  rw [show ent 122 [.ref 56, .int (iI f)] = [.ref 56, .int (iI f), jk] from rfl]
  simp (disch := omega) only [B122_0, b122_0, g_iconst, g_lconst, g_iadd, g_isub, g_imul, g_iand, g_ior, g_ishl, g_ishr, g_iushr, g_ladd, g_lsub, g_lmul, g_land, g_lor, g_lcmp, g_ineg, g_lshl, g_lshr, g_i2l, g_l2i, g_dupi, g_dupr, g_pop, g_dup2, g_mabs_0, g_mabs_1, g_mabs_2, g_mabs_3, g_mmax_0, g_mmax_1, g_mmax_2, g_mmax_3, g_mmin_0, g_mmin_1, g_mmin_2, g_mmin_3, g_goto, g_jsr, g_icmp_eq, g_icmp_ne, g_icmp_lt, g_icmp_ge, g_icmp_gt, g_icmp_le, g_if_eq, g_if_ne, g_if_lt, g_if_ge, g_if_gt, g_if_le, g_idiv, g_irem, g_ldiv, g_iload, g_lload, g_aload, g_istore, g_astore, g_lstore, g_iinc, g_getfield, g_putfield, g_iaload, g_baload, g_laload, g_aaload, g_iastore, g_bastore, g_lastore, g_arraylength, g_call0_0, g_call0_1, g_call0_2, g_call0_3, g_call0_4, g_call1_0, g_call1_1, g_call1_2, g_call1_3, g_call1_4, g_call2_0, g_call2_1, g_call2_2, g_call2_3, g_call2_4, g_call3_0, g_call3_1, g_call3_2, g_call3_3, g_call3_4, g_call4_0, g_call4_1, g_call4_2, g_call4_3, g_call4_4, g_call5_0, g_call5_1, g_call5_2, g_call5_3, g_call5_4, g_call6_0, g_call6_1, g_call6_2, g_call6_3, g_call6_4, g_ireturn, g_lreturn, g_return, g_zreturn, sto_0, sto_s, sto2_0, sto2_s, isL_i, isL_r, isL_l, isL_j, ldI_0, ldI_9, ldZ_2, ldL_1, ldQ_3, stI_0, stL_1, stZ_2, gF_o, pF_o, lenA_9, oB_some, vI_i, vJ_j, vR_r, Option.map_some, List.getElem?_cons_zero, List.getElem?_cons_succ, Nat.reduceDiv, Nat.reduceMod, Int.reduceToNat, true_and, and_true, false_and, reduceIte, List.set_cons_zero, List.set_cons_succ, Option.toList_some, Option.toList_none, List.cons_append, List.nil_append, List.length_cons, List.length_nil, Nat.reduceAdd, Nat.reduceLeDiff, Nat.reduceLT, Nat.reduceEqDiff, and_self, and_false, Bool.false_eq_true, m_isField hf, iI_f, i32_0, i32_1, b2i_0, b2i_n, iI_add, iI_sub, iI_mul, iI_neg, iI_lt, iI_le, iI_eq, iI_in, iI_cl, i_nn, eq_self, true_or, or_true, not_true_eq_false, not_false_eq_true, Int.reduceEq, Int.reduceLT, Int.reduceLE, Int.reduceNeg]
  refine ite_c (fun c1 => ?_) (fun c1 => ?_)
  · obtain ⟨p, hp, rfl⟩ := fB_t c1
    simp (disch := omega) only [B122_9, b122_9, g_iconst, g_lconst, g_iadd, g_isub, g_imul, g_iand, g_ior, g_ishl, g_ishr, g_iushr, g_ladd, g_lsub, g_lmul, g_land, g_lor, g_lcmp, g_ineg, g_lshl, g_lshr, g_i2l, g_l2i, g_dupi, g_dupr, g_pop, g_dup2, g_mabs_0, g_mabs_1, g_mabs_2, g_mabs_3, g_mmax_0, g_mmax_1, g_mmax_2, g_mmax_3, g_mmin_0, g_mmin_1, g_mmin_2, g_mmin_3, g_goto, g_jsr, g_icmp_eq, g_icmp_ne, g_icmp_lt, g_icmp_ge, g_icmp_gt, g_icmp_le, g_if_eq, g_if_ne, g_if_lt, g_if_ge, g_if_gt, g_if_le, g_idiv, g_irem, g_ldiv, g_iload, g_lload, g_aload, g_istore, g_astore, g_lstore, g_iinc, g_getfield, g_putfield, g_iaload, g_baload, g_laload, g_aaload, g_iastore, g_bastore, g_lastore, g_arraylength, g_call0_0, g_call0_1, g_call0_2, g_call0_3, g_call0_4, g_call1_0, g_call1_1, g_call1_2, g_call1_3, g_call1_4, g_call2_0, g_call2_1, g_call2_2, g_call2_3, g_call2_4, g_call3_0, g_call3_1, g_call3_2, g_call3_3, g_call3_4, g_call4_0, g_call4_1, g_call4_2, g_call4_3, g_call4_4, g_call5_0, g_call5_1, g_call5_2, g_call5_3, g_call5_4, g_call6_0, g_call6_1, g_call6_2, g_call6_3, g_call6_4, g_ireturn, g_lreturn, g_return, g_zreturn, sto_0, sto_s, sto2_0, sto2_s, isL_i, isL_r, isL_l, isL_j, ldI_0, ldI_9, ldZ_2, ldL_1, ldQ_3, stI_0, stL_1, stZ_2, gF_o, pF_o, lenA_9, oB_some, vI_i, vJ_j, vR_r, Option.map_some, List.getElem?_cons_zero, List.getElem?_cons_succ, Nat.reduceDiv, Nat.reduceMod, Int.reduceToNat, true_and, and_true, false_and, reduceIte, List.set_cons_zero, List.set_cons_succ, Option.toList_some, Option.toList_none, List.cons_append, List.nil_append, List.length_cons, List.length_nil, Nat.reduceAdd, Nat.reduceLeDiff, Nat.reduceLT, Nat.reduceEqDiff, and_self, and_false, Bool.false_eq_true, iI_f, i32_0, i32_1, b2i_0, b2i_n, iI_add, iI_sub, iI_mul, iI_neg, iI_lt, iI_le, iI_eq, iI_in, iI_cl, i_nn, eq_self, true_or, or_true, not_true_eq_false, not_false_eq_true, Int.reduceEq, Int.reduceLT, Int.reduceLE, Int.reduceNeg]
    refine m_readText hO h57 h58 h59 (by rw [eo]; exact hK.1) (by rw [eo]; exact hK.2.1) (fun h' o' X' Y' e1 e2 e3 e4 e5 e6 => ?_)
    have bd := rtM_bd (mB M) hL (mL M) 0 (by omega)
    rw [eo] at e1 e6 ⊢
    have w1 : WrM h M h' := hM.scr (e5.mono (fun k z => by simp only [rdS] at z; simp only [scS]; omega)) ⟨o', e1, e2⟩ (hS.rd e5 ⟨_, e3⟩ ⟨_, e4⟩)
    rw [bField, if_pos c1, yField, i_nn] at hq
    simp (disch := omega) only [g_iconst, g_lconst, g_iadd, g_isub, g_imul, g_iand, g_ior, g_ishl, g_ishr, g_iushr, g_ladd, g_lsub, g_lmul, g_land, g_lor, g_lcmp, g_ineg, g_lshl, g_lshr, g_i2l, g_l2i, g_dupi, g_dupr, g_pop, g_dup2, g_mabs_0, g_mabs_1, g_mabs_2, g_mabs_3, g_mmax_0, g_mmax_1, g_mmax_2, g_mmax_3, g_mmin_0, g_mmin_1, g_mmin_2, g_mmin_3, g_goto, g_jsr, g_icmp_eq, g_icmp_ne, g_icmp_lt, g_icmp_ge, g_icmp_gt, g_icmp_le, g_if_eq, g_if_ne, g_if_lt, g_if_ge, g_if_gt, g_if_le, g_idiv, g_irem, g_ldiv, g_iload, g_lload, g_aload, g_istore, g_astore, g_lstore, g_iinc, g_getfield, g_putfield, g_iaload, g_baload, g_laload, g_aaload, g_iastore, g_bastore, g_lastore, g_arraylength, g_call0_0, g_call0_1, g_call0_2, g_call0_3, g_call0_4, g_call1_0, g_call1_1, g_call1_2, g_call1_3, g_call1_4, g_call2_0, g_call2_1, g_call2_2, g_call2_3, g_call2_4, g_call3_0, g_call3_1, g_call3_2, g_call3_3, g_call3_4, g_call4_0, g_call4_1, g_call4_2, g_call4_3, g_call4_4, g_call5_0, g_call5_1, g_call5_2, g_call5_3, g_call5_4, g_call6_0, g_call6_1, g_call6_2, g_call6_3, g_call6_4, g_ireturn, g_lreturn, g_return, g_zreturn, sto_0, sto_s, sto2_0, sto2_s, isL_i, isL_r, isL_l, isL_j, ldI_0, ldI_9, ldZ_2, ldL_1, ldQ_3, stI_0, stL_1, stZ_2, gF_o, pF_o, lenA_9, oB_some, vI_i, vJ_j, vR_r, Option.map_some, List.getElem?_cons_zero, List.getElem?_cons_succ, Nat.reduceDiv, Nat.reduceMod, Int.reduceToNat, true_and, and_true, false_and, reduceIte, List.set_cons_zero, List.set_cons_succ, Option.toList_some, Option.toList_none, List.cons_append, List.nil_append, List.length_cons, List.length_nil, Nat.reduceAdd, Nat.reduceLeDiff, Nat.reduceLT, Nat.reduceEqDiff, and_self, and_false, Bool.false_eq_true, iI_f, i32_0, i32_1, b2i_0, b2i_n, iI_add, iI_sub, iI_mul, iI_neg, iI_lt, iI_le, iI_eq, iI_in, iI_cl, i_nn, eq_self, true_or, or_true, not_true_eq_false, not_false_eq_true, Int.reduceEq, Int.reduceLT, Int.reduceLE, Int.reduceNeg]
    refine ite_c (fun c2 => ?_) (fun c2 => ?_)
    · obtain ⟨e7, rfl, rfl⟩ := e6 c2
      change bFault M = -9 at c2
      rw [if_pos c2, if_pos ⟨c1, c2⟩] at hq
      obtain ⟨b1, b2, b3, b4⟩ := bFault_no (M := M) c2
      have g0 := w1.1.2.2.1
      have ho' := id e2
      have g3 := g0.2.2
      unfold Mob at ho'
      unfold Row at g3
      simp (disch := omega) only [B122_21, b122_21, g_iconst, g_lconst, g_iadd, g_isub, g_imul, g_iand, g_ior, g_ishl, g_ishr, g_iushr, g_ladd, g_lsub, g_lmul, g_land, g_lor, g_lcmp, g_ineg, g_lshl, g_lshr, g_i2l, g_l2i, g_dupi, g_dupr, g_pop, g_dup2, g_mabs_0, g_mabs_1, g_mabs_2, g_mabs_3, g_mmax_0, g_mmax_1, g_mmax_2, g_mmax_3, g_mmin_0, g_mmin_1, g_mmin_2, g_mmin_3, g_goto, g_jsr, g_icmp_eq, g_icmp_ne, g_icmp_lt, g_icmp_ge, g_icmp_gt, g_icmp_le, g_if_eq, g_if_ne, g_if_lt, g_if_ge, g_if_gt, g_if_le, g_idiv, g_irem, g_ldiv, g_iload, g_lload, g_aload, g_istore, g_astore, g_lstore, g_iinc, g_getfield, g_putfield, g_iaload, g_baload, g_laload, g_aaload, g_iastore, g_bastore, g_lastore, g_arraylength, g_call0_0, g_call0_1, g_call0_2, g_call0_3, g_call0_4, g_call1_0, g_call1_1, g_call1_2, g_call1_3, g_call1_4, g_call2_0, g_call2_1, g_call2_2, g_call2_3, g_call2_4, g_call3_0, g_call3_1, g_call3_2, g_call3_3, g_call3_4, g_call4_0, g_call4_1, g_call4_2, g_call4_3, g_call4_4, g_call5_0, g_call5_1, g_call5_2, g_call5_3, g_call5_4, g_call6_0, g_call6_1, g_call6_2, g_call6_3, g_call6_4, g_ireturn, g_lreturn, g_return, g_zreturn, sto_0, sto_s, sto2_0, sto2_s, isL_i, isL_r, isL_l, isL_j, ldI_0, ldI_9, ldZ_2, ldL_1, ldQ_3, stI_0, stL_1, stZ_2, gF_o, pF_o, lenA_9, oB_some, vI_i, vJ_j, vR_r, Option.map_some, List.getElem?_cons_zero, List.getElem?_cons_succ, Nat.reduceDiv, Nat.reduceMod, Int.reduceToNat, true_and, and_true, false_and, reduceIte, List.set_cons_zero, List.set_cons_succ, Option.toList_some, Option.toList_none, List.cons_append, List.nil_append, List.length_cons, List.length_nil, Nat.reduceAdd, Nat.reduceLeDiff, Nat.reduceLT, Nat.reduceEqDiff, and_self, and_false, Bool.false_eq_true, ho', g3, e7, upd_i, fg_st_s, fg_st_n, iI_f, i32_0, i32_1, b2i_0, b2i_n, iI_add, iI_sub, iI_mul, iI_neg, iI_lt, iI_le, iI_eq, iI_in, iI_cl, i_nn, eq_self, true_or, or_true, not_true_eq_false, not_false_eq_true, Int.reduceEq, Int.reduceLT, Int.reduceLE, Int.reduceNeg]
      rw [updM]
      have hF1 : Fr h' (f_st h' 62 (.inl (0, 4, .inl (fun j => iI ((updA (mM M) p (mL M / 2) j : Nat) : Int))))) flS := Fr.rf.st (by simp [flS])
      refine l_mfield (x := mX M) (y := mY M) (m := updA (mM M) p (mL M / 2)) hp (by omega) (e2.of hF1 (by simp [flS])) e7 (e3.of hF1 (by simp [flS])) (e4.of hF1 (by simp [flS])) (fun h2 r1 r2 => ?_) (mL M / 2) 0 _ (by omega) ⟨by rw [p10_0]; unfold Row; rw [fg_st_n (by omega)]; exact g0.1, by rw [p10_0]; unfold Row; rw [fg_st_n (by omega)]; exact g0.2.1, by unfold Row; rw [fg_st_s]⟩ Fr.rf
      have ex : p10 (mX M) p (fill (vX (mB M)) X (mL M / 2)) (mL M / 2) = p10 (mX M) p (vX (mB M)) (mL M / 2) := p10_c (fun k hk => fill_lt hk)
      have ey : p10 (mY M) p (fill (vY (mB M)) Y (mL M / 2)) (mL M / 2) = p10 (mY M) p (vY (mB M)) (mL M / 2) := p10_c (fun k hk => fill_lt hk)
      rw [ex, ey] at r1
      exact hq h2 (w1.tr (w1.1.fls (hF1.tr r2 (fun _ q => q) (fun _ q => q)) r1))
    · change ¬ bFault M = -9 at c2
      rw [if_neg c2, if_neg (fun q => c2 q.2)] at hq
      exact hq h' w1
  · rw [bField, if_neg c1, yField, if_neg (fun q => c1 q.1)] at hq
    exact hq h (WrM.rf hM)
/-- the corner at u, v of field f, or -9 -/
def cAM (M : MZ) (f : Nat) (u v : Int) : Int := cAtF (fw (mX M) f) (fw (mY M) f) u v 0 (mM M f)
theorem cAM_bd {M : MZ} (hK : Mok M) {f : Nat} (hf : f < 4) {x y : Int} : -9 ≤ cAM M f x y ∧ cAM M f x y ≤ 9 := cAt_bd _ _ (by have := (hK.2.2 f hf).1; omega)
theorem m_cAM {h : fH} {M : MZ} (hM : Mdl h M) (hK : Mok M) {f : Nat} (hf : f < 4) {u v : Int} (hd : dotB u v = true) (Q : Option Value → fH → Prop) : Call 124 [.ref 56, .int (iI f), .int (iI u), .int (iI v)] h Q ↔ Q (some (.int (iI (cAM M f u v)))) h := by
  simp only [dotB, decide_eq_true_eq] at hd
  obtain ⟨o, -, hF⟩ := hM.fld
  exact m_cornerAt hF hK.2.2 hf (by omega) (by omega) Q
def yMove (M : MZ) (f c u v : Int) : MZ := if cnM (mM M) f c = true ∧ dotB u v = true ∧ (cAM M f.toNat u v = -9 ∨ cAM M f.toNat u v = c) then mF M (updZ (mX M) (10 * f.toNat + c.toNat) u) (updZ (mY M) (10 * f.toNat + c.toNat) v) (mM M) else M
def bMove (M : MZ) (f c u v : Int) : Int := if cnM (mM M) f c = true then (if dotB u v = true then (if cAM M f.toNat u v = c then 0 else if cAM M f.toNat u v = -9 then 1 else -3) else -2) else -1
set_option maxRecDepth 10000 in
theorem m_move {h : fH} {M : MZ} (hM : Mdl h M) (hK : Mok M) {f c u v : Int} (hf : I32 f) (hc : I32 c) (hu : I32 u) (hv : I32 v) {Q : Option Value → fH → Prop} (hq : ∀ h', WrM h (yMove M f c u v) h' → Q (some (.int (iI (bMove M f c u v)))) h') : Call 125 [.ref 56, .int (iI f), .int (iI c), .int (iI u), .int (iI v)] h Q := by
  obtain ⟨o, eo, hF⟩ := hM.fld
  obtain ⟨ho, r1, r2, r3⟩ := id hF
  have hO := id ho
  unfold Mob at ho
  refine ⟨by simp [vOK, entL, isL, mlT, kdT, clT, isO, ho], rfl, ?_⟩
  rw [show ent 125 [.ref 56, .int (iI f), .int (iI c), .int (iI u), .int (iI v)] = [.ref 56, .int (iI f), .int (iI c), .int (iI u), .int (iI v), jk] from rfl]
  simp (disch := omega) only [B125_0, b125_0, g_iconst, g_lconst, g_iadd, g_isub, g_imul, g_iand, g_ior, g_ishl, g_ishr, g_iushr, g_ladd, g_lsub, g_lmul, g_land, g_lor, g_lcmp, g_ineg, g_lshl, g_lshr, g_i2l, g_l2i, g_dupi, g_dupr, g_pop, g_dup2, g_mabs_0, g_mabs_1, g_mabs_2, g_mabs_3, g_mmax_0, g_mmax_1, g_mmax_2, g_mmax_3, g_mmin_0, g_mmin_1, g_mmin_2, g_mmin_3, g_goto, g_jsr, g_icmp_eq, g_icmp_ne, g_icmp_lt, g_icmp_ge, g_icmp_gt, g_icmp_le, g_if_eq, g_if_ne, g_if_lt, g_if_ge, g_if_gt, g_if_le, g_idiv, g_irem, g_ldiv, g_iload, g_lload, g_aload, g_istore, g_astore, g_lstore, g_iinc, g_getfield, g_putfield, g_iaload, g_baload, g_laload, g_aaload, g_iastore, g_bastore, g_lastore, g_arraylength, g_call0_0, g_call0_1, g_call0_2, g_call0_3, g_call0_4, g_call1_0, g_call1_1, g_call1_2, g_call1_3, g_call1_4, g_call2_0, g_call2_1, g_call2_2, g_call2_3, g_call2_4, g_call3_0, g_call3_1, g_call3_2, g_call3_3, g_call3_4, g_call4_0, g_call4_1, g_call4_2, g_call4_3, g_call4_4, g_call5_0, g_call5_1, g_call5_2, g_call5_3, g_call5_4, g_call6_0, g_call6_1, g_call6_2, g_call6_3, g_call6_4, g_ireturn, g_lreturn, g_return, g_zreturn, sto_0, sto_s, sto2_0, sto2_s, isL_i, isL_r, isL_l, isL_j, ldI_0, ldI_9, ldZ_2, ldL_1, ldQ_3, stI_0, stL_1, stZ_2, gF_o, pF_o, lenA_9, oB_some, vI_i, vJ_j, vR_r, Option.map_some, List.getElem?_cons_zero, List.getElem?_cons_succ, Nat.reduceDiv, Nat.reduceMod, Int.reduceToNat, true_and, and_true, false_and, reduceIte, List.set_cons_zero, List.set_cons_succ, Option.toList_some, Option.toList_none, List.cons_append, List.nil_append, List.length_cons, List.length_nil, Nat.reduceAdd, Nat.reduceLeDiff, Nat.reduceLT, Nat.reduceEqDiff, and_self, and_false, Bool.false_eq_true, m_isCorner2 hF hK.2.2 hf hc, iI_f, i32_0, i32_1, b2i_0, b2i_n, iI_add, iI_sub, iI_mul, iI_neg, iI_lt, iI_le, iI_eq, iI_in, iI_cl, i_nn, eq_self, true_or, or_true, not_true_eq_false, not_false_eq_true, Int.reduceEq, Int.reduceLT, Int.reduceLE, Int.reduceNeg]
  refine ite_c (fun c1 => ?_) (fun c1 => ?_)
  · obtain ⟨p, r, hp, hr, rfl, rfl⟩ := cnM_t c1
    have mp := (hK.2.2 p hp).1
    rw [bMove, if_pos c1, yMove, i_nn, i_nn] at hq
    simp (disch := omega) only [B125_11, b125_11, g_iconst, g_lconst, g_iadd, g_isub, g_imul, g_iand, g_ior, g_ishl, g_ishr, g_iushr, g_ladd, g_lsub, g_lmul, g_land, g_lor, g_lcmp, g_ineg, g_lshl, g_lshr, g_i2l, g_l2i, g_dupi, g_dupr, g_pop, g_dup2, g_mabs_0, g_mabs_1, g_mabs_2, g_mabs_3, g_mmax_0, g_mmax_1, g_mmax_2, g_mmax_3, g_mmin_0, g_mmin_1, g_mmin_2, g_mmin_3, g_goto, g_jsr, g_icmp_eq, g_icmp_ne, g_icmp_lt, g_icmp_ge, g_icmp_gt, g_icmp_le, g_if_eq, g_if_ne, g_if_lt, g_if_ge, g_if_gt, g_if_le, g_idiv, g_irem, g_ldiv, g_iload, g_lload, g_aload, g_istore, g_astore, g_lstore, g_iinc, g_getfield, g_putfield, g_iaload, g_baload, g_laload, g_aaload, g_iastore, g_bastore, g_lastore, g_arraylength, g_call0_0, g_call0_1, g_call0_2, g_call0_3, g_call0_4, g_call1_0, g_call1_1, g_call1_2, g_call1_3, g_call1_4, g_call2_0, g_call2_1, g_call2_2, g_call2_3, g_call2_4, g_call3_0, g_call3_1, g_call3_2, g_call3_3, g_call3_4, g_call4_0, g_call4_1, g_call4_2, g_call4_3, g_call4_4, g_call5_0, g_call5_1, g_call5_2, g_call5_3, g_call5_4, g_call6_0, g_call6_1, g_call6_2, g_call6_3, g_call6_4, g_ireturn, g_lreturn, g_return, g_zreturn, sto_0, sto_s, sto2_0, sto2_s, isL_i, isL_r, isL_l, isL_j, ldI_0, ldI_9, ldZ_2, ldL_1, ldQ_3, stI_0, stL_1, stZ_2, gF_o, pF_o, lenA_9, oB_some, vI_i, vJ_j, vR_r, Option.map_some, List.getElem?_cons_zero, List.getElem?_cons_succ, Nat.reduceDiv, Nat.reduceMod, Int.reduceToNat, true_and, and_true, false_and, reduceIte, List.set_cons_zero, List.set_cons_succ, Option.toList_some, Option.toList_none, List.cons_append, List.nil_append, List.length_cons, List.length_nil, Nat.reduceAdd, Nat.reduceLeDiff, Nat.reduceLT, Nat.reduceEqDiff, and_self, and_false, Bool.false_eq_true, m_isDot hu hv, iI_f, i32_0, i32_1, b2i_0, b2i_n, iI_add, iI_sub, iI_mul, iI_neg, iI_lt, iI_le, iI_eq, iI_in, iI_cl, i_nn, eq_self, true_or, or_true, not_true_eq_false, not_false_eq_true, Int.reduceEq, Int.reduceLT, Int.reduceLE, Int.reduceNeg]
    refine ite_c (fun c2 => ?_) (fun c2 => ?_)
    · rw [if_pos c2] at hq
      have cb := cAM_bd hK hp (x := u) (y := v)
      have e : (10 * (p : Int) + (r : Int)).toNat = 10 * p + r := by omega
      have go : cAM M p u v = -9 ∨ cAM M p u v = r → Go 125 (blk 125 49) [.ref 56, .int (iI p), .int (iI r), .int (iI u), .int (iI v), .int (iI (cAM M p u v))] [] h Q := fun c3 => by
        rw [if_pos ⟨c1, c2, c3⟩] at hq
        have g1 := id r1
        have g2 := id r2
        unfold Row at g1 g2
        simp (disch := omega) only [B125_49, b125_49, B125_84, b125_84, B125_85, b125_85, g_iconst, g_lconst, g_iadd, g_isub, g_imul, g_iand, g_ior, g_ishl, g_ishr, g_iushr, g_ladd, g_lsub, g_lmul, g_land, g_lor, g_lcmp, g_ineg, g_lshl, g_lshr, g_i2l, g_l2i, g_dupi, g_dupr, g_pop, g_dup2, g_mabs_0, g_mabs_1, g_mabs_2, g_mabs_3, g_mmax_0, g_mmax_1, g_mmax_2, g_mmax_3, g_mmin_0, g_mmin_1, g_mmin_2, g_mmin_3, g_goto, g_jsr, g_icmp_eq, g_icmp_ne, g_icmp_lt, g_icmp_ge, g_icmp_gt, g_icmp_le, g_if_eq, g_if_ne, g_if_lt, g_if_ge, g_if_gt, g_if_le, g_idiv, g_irem, g_ldiv, g_iload, g_lload, g_aload, g_istore, g_astore, g_lstore, g_iinc, g_getfield, g_putfield, g_iaload, g_baload, g_laload, g_aaload, g_iastore, g_bastore, g_lastore, g_arraylength, g_call0_0, g_call0_1, g_call0_2, g_call0_3, g_call0_4, g_call1_0, g_call1_1, g_call1_2, g_call1_3, g_call1_4, g_call2_0, g_call2_1, g_call2_2, g_call2_3, g_call2_4, g_call3_0, g_call3_1, g_call3_2, g_call3_3, g_call3_4, g_call4_0, g_call4_1, g_call4_2, g_call4_3, g_call4_4, g_call5_0, g_call5_1, g_call5_2, g_call5_3, g_call5_4, g_call6_0, g_call6_1, g_call6_2, g_call6_3, g_call6_4, g_ireturn, g_lreturn, g_return, g_zreturn, sto_0, sto_s, sto2_0, sto2_s, isL_i, isL_r, isL_l, isL_j, ldI_0, ldI_9, ldZ_2, ldL_1, ldQ_3, stI_0, stL_1, stZ_2, gF_o, pF_o, lenA_9, oB_some, vI_i, vJ_j, vR_r, Option.map_some, List.getElem?_cons_zero, List.getElem?_cons_succ, Nat.reduceDiv, Nat.reduceMod, Int.reduceToNat, true_and, and_true, false_and, reduceIte, List.set_cons_zero, List.set_cons_succ, Option.toList_some, Option.toList_none, List.cons_append, List.nil_append, List.length_cons, List.length_nil, Nat.reduceAdd, Nat.reduceLeDiff, Nat.reduceLT, Nat.reduceEqDiff, and_self, and_false, Bool.false_eq_true, ho, g1, g2, e, upd_i, fg_st_s, fg_st_n, iI_f, i32_0, i32_1, b2i_0, b2i_n, iI_add, iI_sub, iI_mul, iI_neg, iI_lt, iI_le, iI_eq, iI_in, iI_cl, i_nn, eq_self, true_or, or_true, not_true_eq_false, not_false_eq_true, Int.reduceEq, Int.reduceLT, Int.reduceLE, Int.reduceNeg]
        have w := hq _ (hM.fls (x := updZ (mX M) (10 * p + r) u) (y := updZ (mY M) (10 * p + r) v) (m := mM M) ((Fr.rf.st (a := 60) (e := (.inl (0, 40, .inl (fun j => iI (updZ (mX M) (10 * p + r) u j))))) (by simp [flS])).st (a := 61) (e := (.inl (0, 40, .inl (fun j => iI (updZ (mY M) (10 * p + r) v j))))) (by simp [flS])) ⟨by unfold Row; rw [fg_st_n (by omega), fg_st_s], by unfold Row; rw [fg_st_s], by unfold Row; rw [fg_st_n (by omega), fg_st_n (by omega)]; exact r3⟩)
        refine ite_c (fun c4 => ?_) (fun c4 => ?_)
        · rw [if_neg c4, if_pos (by omega)] at w; exact w
        · rw [if_pos (by omega)] at w; exact w
      simp (disch := omega) only [B125_23, b125_23, g_iconst, g_lconst, g_iadd, g_isub, g_imul, g_iand, g_ior, g_ishl, g_ishr, g_iushr, g_ladd, g_lsub, g_lmul, g_land, g_lor, g_lcmp, g_ineg, g_lshl, g_lshr, g_i2l, g_l2i, g_dupi, g_dupr, g_pop, g_dup2, g_mabs_0, g_mabs_1, g_mabs_2, g_mabs_3, g_mmax_0, g_mmax_1, g_mmax_2, g_mmax_3, g_mmin_0, g_mmin_1, g_mmin_2, g_mmin_3, g_goto, g_jsr, g_icmp_eq, g_icmp_ne, g_icmp_lt, g_icmp_ge, g_icmp_gt, g_icmp_le, g_if_eq, g_if_ne, g_if_lt, g_if_ge, g_if_gt, g_if_le, g_idiv, g_irem, g_ldiv, g_iload, g_lload, g_aload, g_istore, g_astore, g_lstore, g_iinc, g_getfield, g_putfield, g_iaload, g_baload, g_laload, g_aaload, g_iastore, g_bastore, g_lastore, g_arraylength, g_call0_0, g_call0_1, g_call0_2, g_call0_3, g_call0_4, g_call1_0, g_call1_1, g_call1_2, g_call1_3, g_call1_4, g_call2_0, g_call2_1, g_call2_2, g_call2_3, g_call2_4, g_call3_0, g_call3_1, g_call3_2, g_call3_3, g_call3_4, g_call4_0, g_call4_1, g_call4_2, g_call4_3, g_call4_4, g_call5_0, g_call5_1, g_call5_2, g_call5_3, g_call5_4, g_call6_0, g_call6_1, g_call6_2, g_call6_3, g_call6_4, g_ireturn, g_lreturn, g_return, g_zreturn, sto_0, sto_s, sto2_0, sto2_s, isL_i, isL_r, isL_l, isL_j, ldI_0, ldI_9, ldZ_2, ldL_1, ldQ_3, stI_0, stL_1, stZ_2, gF_o, pF_o, lenA_9, oB_some, vI_i, vJ_j, vR_r, Option.map_some, List.getElem?_cons_zero, List.getElem?_cons_succ, Nat.reduceDiv, Nat.reduceMod, Int.reduceToNat, true_and, and_true, false_and, reduceIte, List.set_cons_zero, List.set_cons_succ, Option.toList_some, Option.toList_none, List.cons_append, List.nil_append, List.length_cons, List.length_nil, Nat.reduceAdd, Nat.reduceLeDiff, Nat.reduceLT, Nat.reduceEqDiff, and_self, and_false, Bool.false_eq_true, m_cAM hM hK hp c2, iI_f, i32_0, i32_1, b2i_0, b2i_n, iI_add, iI_sub, iI_mul, iI_neg, iI_lt, iI_le, iI_eq, iI_in, iI_cl, i_nn, eq_self, true_or, or_true, not_true_eq_false, not_false_eq_true, Int.reduceEq, Int.reduceLT, Int.reduceLE, Int.reduceNeg]
      refine ite_c (fun c3 => go (Or.inl c3)) (fun c3 => ite_c (fun c4 => go (Or.inr c4)) (fun c4 => ?_))
      rw [if_neg c4, if_neg c3, if_neg (fun q => by omega)] at hq
      exact hq h (WrM.rf hM)
    · rw [if_neg c2, if_neg (fun q => c2 q.2.1)] at hq
      exact hq h (WrM.rf hM)
  · rw [bMove, if_neg c1, yMove, if_neg (fun q => c1 q.1)] at hq
    exact hq h (WrM.rf hM)
