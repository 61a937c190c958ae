/-- Math.abs, min and max on Ints -/
theorem abs_i (a : Int) : (if 0 ≤ a then iI a else iI (0 - a)) = iI (a.natAbs : Int) := by
  split
  · congr 1; omega
  · congr 1; omega
theorem max_i (a b : Int) : (if a < b then iI b else iI a) = iI (max a b) := by
  split
  · congr 1; omega
  · congr 1; omega
theorem min_i (a b : Int) : (if b < a then iI b else iI a) = iI (min a b) := by
  split
  · congr 1; omega
  · congr 1; omega
def unl (X Y : Nat → Int) (n a b : Nat) : Int := (area X Y n - 2 * areaP X Y (min a b) (max a b)).natAbs
set_option maxRecDepth 10000 in
theorem c_unlikenessOfSides {h : fH} {o n : Nat} {X Y : Nat → Int} (hO : Out h o n X Y) (hn : n ≤ 10) (hR : Rg n X Y) {a b : Nat} (ha : a < n) (hb : b < n) (Q : Option Value → fH → Prop) :
    Call 36 [.ref o, .int (iI a), .int (iI b)] h Q ↔ Q (some (.int (iI (unl X Y n a b)))) h := by
  have h1 := hO.1
  have h2 := hO.2.1
  have h3 := hO.2.2
  have e1 := areaP_bd hR hn (p := min a b) (q := max a b) (by omega) (by omega) (by omega)
  have e2 := areaP_bd hR hn (p := 0) (q := n - 1) (by omega) (by omega) (by omega)
  have e3 : area X Y n = areaP X Y 0 (n - 1) := rfl
  have c1 := c_signedAreaOf hO hn hR (p := min a b) (q := max a b) (by omega) (by omega) (by omega)
  rw [show ((min a b : Nat) : Int) = min (a : Int) b by omega, show ((max a b : Nat) : Int) = max (a : Int) b by omega] at c1
  refine Call.iff ⟨by simp [vOK, entL, isL, mlT, kdT, clT, isO, h1], rfl, ?_⟩ Q
  rw [show ent 36 [.ref o, .int (iI a), .int (iI b)] = [.ref o, .int (iI a), .int (iI b), jk] from rfl]
  simp (disch := omega) only [B36_0, b36_0, g_iconst, g_lconst, g_iadd, g_isub, g_imul, g_iand, g_ior, g_ishl, g_ishr, g_iushr, g_ladd, g_lsub, g_lmul, g_land, g_lor, g_lcmp, g_ineg, g_lshl, g_lshr, g_i2l, g_l2i, g_dupi, g_dupr, g_pop, g_dup2, g_mabs_0, g_mabs_1, g_mabs_2, g_mabs_3, g_mmax_0, g_mmax_1, g_mmax_2, g_mmax_3, g_mmin_0, g_mmin_1, g_mmin_2, g_mmin_3, g_goto, g_jsr, g_icmp_eq, g_icmp_ne, g_icmp_lt, g_icmp_ge, g_icmp_gt, g_icmp_le, g_if_eq, g_if_ne, g_if_lt, g_if_ge, g_if_gt, g_if_le, g_idiv, g_irem, g_ldiv, g_iload, g_lload, g_aload, g_istore, g_astore, g_lstore, g_iinc, g_getfield, g_putfield, g_iaload, g_baload, g_laload, g_aaload, g_iastore, g_bastore, g_lastore, g_arraylength, g_call0_0, g_call0_1, g_call0_2, g_call0_3, g_call0_4, g_call1_0, g_call1_1, g_call1_2, g_call1_3, g_call1_4, g_call2_0, g_call2_1, g_call2_2, g_call2_3, g_call2_4, g_call3_0, g_call3_1, g_call3_2, g_call3_3, g_call3_4, g_call4_0, g_call4_1, g_call4_2, g_call4_3, g_call4_4, g_call5_0, g_call5_1, g_call5_2, g_call5_3, g_call5_4, g_call6_0, g_call6_1, g_call6_2, g_call6_3, g_call6_4, g_ireturn, g_lreturn, g_return, g_zreturn, sto_0, sto_s, sto2_0, sto2_s, isL_i, isL_r, isL_l, isL_j, ldI_0, ldI_9, ldZ_2, ldL_1, ldQ_3, stI_0, stL_1, stZ_2, gF_o, pF_o, lenA_9, oB_some, vI_i, vJ_j, vR_r, Option.map_some, List.getElem?_cons_zero, List.getElem?_cons_succ, Nat.reduceDiv, Nat.reduceMod, Int.reduceToNat, true_and, and_true, false_and, reduceIte, List.set_cons_zero, List.set_cons_succ, Option.toList_some, Option.toList_none, List.cons_append, List.nil_append, List.length_cons, List.length_nil, Nat.reduceAdd, Nat.reduceLeDiff, Nat.reduceLT, Nat.reduceEqDiff, and_self, and_false, Bool.false_eq_true, h1, h2, h3, max_i, min_i, abs_i, c1, c_signedArea hO hn hR, iI_f, i32_0, i32_1, b2i_0, b2i_n, iI_add, iI_sub, iI_mul, iI_neg, iI_lt, iI_le, iI_eq, iI_in, iI_cl, i_nn, eq_self, true_or, or_true, not_true_eq_false, not_false_eq_true, Int.reduceEq, Int.reduceLT, Int.reduceLE, Int.reduceNeg]
  rfl
set_option maxRecDepth 10000 in
theorem l_commonDivisor {h : fH} {p q : Nat} (hp : p ≤ 15) (hq : q ≤ 15) : ∀ d : Nat, d ≤ 15 →
    Go 110 (blk 110 3) [.int (iI p), .int (iI q), .int (iI d)] [] h (fun v h2 => v = some (.int (iI (gcdT p q d))) ∧ h2 = h) := by
  intro d
  induction d with
  | zero =>
    intro hd
    rw [B110_3, b110_3]
    simp (disch := omega) only [B110_22, b110_22, B110_28, b110_28, g_iconst, g_lconst, g_iadd, g_isub, g_imul, g_iand, g_ior, g_ishl, g_ishr, g_iushr, g_ladd, g_lsub, g_lmul, g_land, g_lor, g_lcmp, g_ineg, g_lshl, g_lshr, g_i2l, g_l2i, g_dupi, g_dupr, g_pop, g_dup2, g_mabs_0, g_mabs_1, g_mabs_2, g_mabs_3, g_mmax_0, g_mmax_1, g_mmax_2, g_mmax_3, g_mmin_0, g_mmin_1, g_mmin_2, g_mmin_3, g_goto, g_jsr, g_icmp_eq, g_icmp_ne, g_icmp_lt, g_icmp_ge, g_icmp_gt, g_icmp_le, g_if_eq, g_if_ne, g_if_lt, g_if_ge, g_if_gt, g_if_le, g_idiv, g_irem, g_ldiv, g_iload, g_lload, g_aload, g_istore, g_astore, g_lstore, g_iinc, g_getfield, g_putfield, g_iaload, g_baload, g_laload, g_aaload, g_iastore, g_bastore, g_lastore, g_arraylength, g_call0_0, g_call0_1, g_call0_2, g_call0_3, g_call0_4, g_call1_0, g_call1_1, g_call1_2, g_call1_3, g_call1_4, g_call2_0, g_call2_1, g_call2_2, g_call2_3, g_call2_4, g_call3_0, g_call3_1, g_call3_2, g_call3_3, g_call3_4, g_call4_0, g_call4_1, g_call4_2, g_call4_3, g_call4_4, g_call5_0, g_call5_1, g_call5_2, g_call5_3, g_call5_4, g_call6_0, g_call6_1, g_call6_2, g_call6_3, g_call6_4, g_ireturn, g_lreturn, g_return, g_zreturn, sto_0, sto_s, sto2_0, sto2_s, isL_i, isL_r, isL_l, isL_j, ldI_0, ldI_9, ldZ_2, ldL_1, ldQ_3, stI_0, stL_1, stZ_2, gF_o, pF_o, lenA_9, oB_some, vI_i, vJ_j, vR_r, Option.map_some, List.getElem?_cons_zero, List.getElem?_cons_succ, Nat.reduceDiv, Nat.reduceMod, Int.reduceToNat, true_and, and_true, false_and, reduceIte, List.set_cons_zero, List.set_cons_succ, Option.toList_some, Option.toList_none, List.cons_append, List.nil_append, List.length_cons, List.length_nil, Nat.reduceAdd, Nat.reduceLeDiff, Nat.reduceLT, Nat.reduceEqDiff, and_self, and_false, Bool.false_eq_true, iI_f, i32_0, i32_1, b2i_0, b2i_n, iI_add, iI_sub, iI_mul, iI_neg, iI_lt, iI_le, iI_eq, iI_in, iI_cl, i_nn, eq_self, true_or, or_true, not_true_eq_false, not_false_eq_true, Int.reduceEq, Int.reduceLT, Int.reduceLE, Int.reduceNeg]
    exact ite_t (by omega) rfl
  | succ d ih =>
    intro hd
    have w := ih (by omega)
    rw [B110_3, b110_3]
    by_cases h1 : d + 1 ≤ 1
    · simp (disch := omega) only [B110_22, b110_22, B110_28, b110_28, g_iconst, g_lconst, g_iadd, g_isub, g_imul, g_iand, g_ior, g_ishl, g_ishr, g_iushr, g_ladd, g_lsub, g_lmul, g_land, g_lor, g_lcmp, g_ineg, g_lshl, g_lshr, g_i2l, g_l2i, g_dupi, g_dupr, g_pop, g_dup2, g_mabs_0, g_mabs_1, g_mabs_2, g_mabs_3, g_mmax_0, g_mmax_1, g_mmax_2, g_mmax_3, g_mmin_0, g_mmin_1, g_mmin_2, g_mmin_3, g_goto, g_jsr, g_icmp_eq, g_icmp_ne, g_icmp_lt, g_icmp_ge, g_icmp_gt, g_icmp_le, g_if_eq, g_if_ne, g_if_lt, g_if_ge, g_if_gt, g_if_le, g_idiv, g_irem, g_ldiv, g_iload, g_lload, g_aload, g_istore, g_astore, g_lstore, g_iinc, g_getfield, g_putfield, g_iaload, g_baload, g_laload, g_aaload, g_iastore, g_bastore, g_lastore, g_arraylength, g_call0_0, g_call0_1, g_call0_2, g_call0_3, g_call0_4, g_call1_0, g_call1_1, g_call1_2, g_call1_3, g_call1_4, g_call2_0, g_call2_1, g_call2_2, g_call2_3, g_call2_4, g_call3_0, g_call3_1, g_call3_2, g_call3_3, g_call3_4, g_call4_0, g_call4_1, g_call4_2, g_call4_3, g_call4_4, g_call5_0, g_call5_1, g_call5_2, g_call5_3, g_call5_4, g_call6_0, g_call6_1, g_call6_2, g_call6_3, g_call6_4, g_ireturn, g_lreturn, g_return, g_zreturn, sto_0, sto_s, sto2_0, sto2_s, isL_i, isL_r, isL_l, isL_j, ldI_0, ldI_9, ldZ_2, ldL_1, ldQ_3, stI_0, stL_1, stZ_2, gF_o, pF_o, lenA_9, oB_some, vI_i, vJ_j, vR_r, Option.map_some, List.getElem?_cons_zero, List.getElem?_cons_succ, Nat.reduceDiv, Nat.reduceMod, Int.reduceToNat, true_and, and_true, false_and, reduceIte, List.set_cons_zero, List.set_cons_succ, Option.toList_some, Option.toList_none, List.cons_append, List.nil_append, List.length_cons, List.length_nil, Nat.reduceAdd, Nat.reduceLeDiff, Nat.reduceLT, Nat.reduceEqDiff, and_self, and_false, Bool.false_eq_true, iI_f, i32_0, i32_1, b2i_0, b2i_n, iI_add, iI_sub, iI_mul, iI_neg, iI_lt, iI_le, iI_eq, iI_in, iI_cl, i_nn, eq_self, true_or, or_true, not_true_eq_false, not_false_eq_true, Int.reduceEq, Int.reduceLT, Int.reduceLE, Int.reduceNeg]
      refine ite_t (by omega) ?_
      simp only [gcdT, if_pos h1]; rfl
    · have ep : (p : Int).tmod ((d + 1 : Nat) : Int) = ((p % (d + 1) : Nat) : Int) := rfl
      have eq : (q : Int).tmod ((d + 1 : Nat) : Int) = ((q % (d + 1) : Nat) : Int) := rfl
      have lp : p % (d + 1) < d + 1 := Nat.mod_lt _ (by omega)
      have lq : q % (d + 1) < d + 1 := Nat.mod_lt _ (by omega)
      have e1 : ((d + 1 : Nat) : Int) + -1 = d := by omega
      simp (disch := omega) only [B110_22, b110_22, B110_28, b110_28, g_iconst, g_lconst, g_iadd, g_isub, g_imul, g_iand, g_ior, g_ishl, g_ishr, g_iushr, g_ladd, g_lsub, g_lmul, g_land, g_lor, g_lcmp, g_ineg, g_lshl, g_lshr, g_i2l, g_l2i, g_dupi, g_dupr, g_pop, g_dup2, g_mabs_0, g_mabs_1, g_mabs_2, g_mabs_3, g_mmax_0, g_mmax_1, g_mmax_2, g_mmax_3, g_mmin_0, g_mmin_1, g_mmin_2, g_mmin_3, g_goto, g_jsr, g_icmp_eq, g_icmp_ne, g_icmp_lt, g_icmp_ge, g_icmp_gt, g_icmp_le, g_if_eq, g_if_ne, g_if_lt, g_if_ge, g_if_gt, g_if_le, g_idiv, g_irem, g_ldiv, g_iload, g_lload, g_aload, g_istore, g_astore, g_lstore, g_iinc, g_getfield, g_putfield, g_iaload, g_baload, g_laload, g_aaload, g_iastore, g_bastore, g_lastore, g_arraylength, g_call0_0, g_call0_1, g_call0_2, g_call0_3, g_call0_4, g_call1_0, g_call1_1, g_call1_2, g_call1_3, g_call1_4, g_call2_0, g_call2_1, g_call2_2, g_call2_3, g_call2_4, g_call3_0, g_call3_1, g_call3_2, g_call3_3, g_call3_4, g_call4_0, g_call4_1, g_call4_2, g_call4_3, g_call4_4, g_call5_0, g_call5_1, g_call5_2, g_call5_3, g_call5_4, g_call6_0, g_call6_1, g_call6_2, g_call6_3, g_call6_4, g_ireturn, g_lreturn, g_return, g_zreturn, sto_0, sto_s, sto2_0, sto2_s, isL_i, isL_r, isL_l, isL_j, ldI_0, ldI_9, ldZ_2, ldL_1, ldQ_3, stI_0, stL_1, stZ_2, gF_o, pF_o, lenA_9, oB_some, vI_i, vJ_j, vR_r, Option.map_some, List.getElem?_cons_zero, List.getElem?_cons_succ, Nat.reduceDiv, Nat.reduceMod, Int.reduceToNat, true_and, and_true, false_and, reduceIte, List.set_cons_zero, List.set_cons_succ, Option.toList_some, Option.toList_none, List.cons_append, List.nil_append, List.length_cons, List.length_nil, Nat.reduceAdd, Nat.reduceLeDiff, Nat.reduceLT, Nat.reduceEqDiff, and_self, and_false, Bool.false_eq_true, iI_rem, ep, eq, e1, iI_f, i32_0, i32_1, b2i_0, b2i_n, iI_add, iI_sub, iI_mul, iI_neg, iI_lt, iI_le, iI_eq, iI_in, iI_cl, i_nn, eq_self, true_or, or_true, not_true_eq_false, not_false_eq_true, Int.reduceEq, Int.reduceLT, Int.reduceLE, Int.reduceNeg]
      refine ite_f (by omega) ⟨by omega, ite_c (fun hc => ?_) (fun hc => ⟨by omega, ite_c (fun hc2 => ?_) (fun hc2 => ?_)⟩)⟩
      · have e : gcdT p q (d + 1) = gcdT p q d := by rw [gcdT, if_neg h1, if_neg (fun z => hc (by omega))]
        rw [e]; exact w
      · have e : gcdT p q (d + 1) = gcdT p q d := by rw [gcdT, if_neg h1, if_neg (fun z => hc2 (by omega))]
        rw [e]; exact w
      · have e : gcdT p q (d + 1) = d + 1 := by rw [gcdT, if_neg h1, if_pos ⟨by omega, by omega⟩]
        rw [e]
set_option maxRecDepth 10000 in
theorem c_commonDivisor {h : fH} {p q : Nat} (hp : p ≤ 15) (hq : q ≤ 15) (Q : Option Value → fH → Prop) : Call 110 [.int (iI p), .int (iI q)] h Q ↔ Q (some (.int (iI (gcdT p q 15)))) h := by
  refine Call.iff ⟨by simp [vOK, entL, isL, mlT, kdT, clT, isO], rfl, ?_⟩ Q
  rw [show ent 110 [.int (iI p), .int (iI q)] = [.int (iI p), .int (iI q), jk] from rfl]
  simp (disch := omega) only [B110_0, b110_0, g_iconst, g_lconst, g_iadd, g_isub, g_imul, g_iand, g_ior, g_ishl, g_ishr, g_iushr, g_ladd, g_lsub, g_lmul, g_land, g_lor, g_lcmp, g_ineg, g_lshl, g_lshr, g_i2l, g_l2i, g_dupi, g_dupr, g_pop, g_dup2, g_mabs_0, g_mabs_1, g_mabs_2, g_mabs_3, g_mmax_0, g_mmax_1, g_mmax_2, g_mmax_3, g_mmin_0, g_mmin_1, g_mmin_2, g_mmin_3, g_goto, g_jsr, g_icmp_eq, g_icmp_ne, g_icmp_lt, g_icmp_ge, g_icmp_gt, g_icmp_le, g_if_eq, g_if_ne, g_if_lt, g_if_ge, g_if_gt, g_if_le, g_idiv, g_irem, g_ldiv, g_iload, g_lload, g_aload, g_istore, g_astore, g_lstore, g_iinc, g_getfield, g_putfield, g_iaload, g_baload, g_laload, g_aaload, g_iastore, g_bastore, g_lastore, g_arraylength, g_call0_0, g_call0_1, g_call0_2, g_call0_3, g_call0_4, g_call1_0, g_call1_1, g_call1_2, g_call1_3, g_call1_4, g_call2_0, g_call2_1, g_call2_2, g_call2_3, g_call2_4, g_call3_0, g_call3_1, g_call3_2, g_call3_3, g_call3_4, g_call4_0, g_call4_1, g_call4_2, g_call4_3, g_call4_4, g_call5_0, g_call5_1, g_call5_2, g_call5_3, g_call5_4, g_call6_0, g_call6_1, g_call6_2, g_call6_3, g_call6_4, g_ireturn, g_lreturn, g_return, g_zreturn, sto_0, sto_s, sto2_0, sto2_s, isL_i, isL_r, isL_l, isL_j, ldI_0, ldI_9, ldZ_2, ldL_1, ldQ_3, stI_0, stL_1, stZ_2, gF_o, pF_o, lenA_9, oB_some, vI_i, vJ_j, vR_r, Option.map_some, List.getElem?_cons_zero, List.getElem?_cons_succ, Nat.reduceDiv, Nat.reduceMod, Int.reduceToNat, true_and, and_true, false_and, reduceIte, List.set_cons_zero, List.set_cons_succ, Option.toList_some, Option.toList_none, List.cons_append, List.nil_append, List.length_cons, List.length_nil, Nat.reduceAdd, Nat.reduceLeDiff, Nat.reduceLT, Nat.reduceEqDiff, and_self, and_false, Bool.false_eq_true, iI_f, i32_0, i32_1, b2i_0, b2i_n, iI_add, iI_sub, iI_mul, iI_neg, iI_lt, iI_le, iI_eq, iI_in, iI_cl, i_nn, eq_self, true_or, or_true, not_true_eq_false, not_false_eq_true, Int.reduceEq, Int.reduceLT, Int.reduceLE, Int.reduceNeg]
  exact l_commonDivisor hp hq 15 (by omega)
def fenT (X Y : Nat → Int) (n i : Nat) : Nat := gcdT (X i - X (nx n i)).natAbs (Y i - Y (nx n i)).natAbs 15
theorem gcdT_le (p q : Nat) : ∀ d, gcdT p q d ≤ d + 1
  | 0 => Nat.le_refl _
  | d + 1 => by
    have := gcdT_le p q d
    rw [gcdT]; (repeat' split) <;> omega
theorem fen_bd {n : Nat} {X Y : Nat → Int} : ∀ (d i s : Nat), itF (fun i s => s + fenT X Y n i) i d s ≤ s + 16 * d
  | 0, i, s => by simp [itF]
  | d + 1, i, s => by
    have h1 := fen_bd (n := n) (X := X) (Y := Y) d (i + 1) (s + fenT X Y n i)
    have h2 : fenT X Y n i ≤ 16 := gcdT_le _ _ 15
    rw [itF]; omega
set_option maxRecDepth 10000 in
theorem l_fenceDots {h : fH} {o n : Nat} {X Y : Nat → Int} (hO : Out h o n X Y) (hn : n ≤ 10) (hR : Rg n X Y) : ∀ (d i s : Nat) (z : Value), i + d = n →
    Go 37 (blk 37 4) [.ref o, .int (iI s), .int (iI i), z] [] h (fun v h2 => v = some (.int (iI ((itF (fun i s => s + fenT X Y n i) i d s : Nat) : Int))) ∧ h2 = h) := by
  have h1 := hO.1
  have h2 := hO.2.1
  have h3 := hO.2.2
  intro d
  induction d with
  | zero =>
    intro i s z hi
    rw [B37_4, b37_4]
    simp (disch := omega) only [B37_62, b37_62, g_iconst, g_lconst, g_iadd, g_isub, g_imul, g_iand, g_ior, g_ishl, g_ishr, g_iushr, g_ladd, g_lsub, g_lmul, g_land, g_lor, g_lcmp, g_ineg, g_lshl, g_lshr, g_i2l, g_l2i, g_dupi, g_dupr, g_pop, g_dup2, g_mabs_0, g_mabs_1, g_mabs_2, g_mabs_3, g_mmax_0, g_mmax_1, g_mmax_2, g_mmax_3, g_mmin_0, g_mmin_1, g_mmin_2, g_mmin_3, g_goto, g_jsr, g_icmp_eq, g_icmp_ne, g_icmp_lt, g_icmp_ge, g_icmp_gt, g_icmp_le, g_if_eq, g_if_ne, g_if_lt, g_if_ge, g_if_gt, g_if_le, g_idiv, g_irem, g_ldiv, g_iload, g_lload, g_aload, g_istore, g_astore, g_lstore, g_iinc, g_getfield, g_putfield, g_iaload, g_baload, g_laload, g_aaload, g_iastore, g_bastore, g_lastore, g_arraylength, g_call0_0, g_call0_1, g_call0_2, g_call0_3, g_call0_4, g_call1_0, g_call1_1, g_call1_2, g_call1_3, g_call1_4, g_call2_0, g_call2_1, g_call2_2, g_call2_3, g_call2_4, g_call3_0, g_call3_1, g_call3_2, g_call3_3, g_call3_4, g_call4_0, g_call4_1, g_call4_2, g_call4_3, g_call4_4, g_call5_0, g_call5_1, g_call5_2, g_call5_3, g_call5_4, g_call6_0, g_call6_1, g_call6_2, g_call6_3, g_call6_4, g_ireturn, g_lreturn, g_return, g_zreturn, sto_0, sto_s, sto2_0, sto2_s, isL_i, isL_r, isL_l, isL_j, ldI_0, ldI_9, ldZ_2, ldL_1, ldQ_3, stI_0, stL_1, stZ_2, gF_o, pF_o, lenA_9, oB_some, vI_i, vJ_j, vR_r, Option.map_some, List.getElem?_cons_zero, List.getElem?_cons_succ, Nat.reduceDiv, Nat.reduceMod, Int.reduceToNat, true_and, and_true, false_and, reduceIte, List.set_cons_zero, List.set_cons_succ, Option.toList_some, Option.toList_none, List.cons_append, List.nil_append, List.length_cons, List.length_nil, Nat.reduceAdd, Nat.reduceLeDiff, Nat.reduceLT, Nat.reduceEqDiff, and_self, and_false, Bool.false_eq_true, h1, h2, h3, iI_f, i32_0, i32_1, b2i_0, b2i_n, iI_add, iI_sub, iI_mul, iI_neg, iI_lt, iI_le, iI_eq, iI_in, iI_cl, i_nn, eq_self, true_or, or_true, not_true_eq_false, not_false_eq_true, Int.reduceEq, Int.reduceLT, Int.reduceLE, Int.reduceNeg]
    exact ite_t (by omega) rfl
  | succ d ih =>
    intro i s z hi
    have hin : i < n := by omega
    have p2 := nx_lt hin
    obtain ⟨a1, a2, a3, a4⟩ := hR i hin
    obtain ⟨b1, b2, b3, b4⟩ := hR _ p2
    rw [B37_4, b37_4]
    simp (disch := omega) only [B37_62, b37_62, g_iconst, g_lconst, g_iadd, g_isub, g_imul, g_iand, g_ior, g_ishl, g_ishr, g_iushr, g_ladd, g_lsub, g_lmul, g_land, g_lor, g_lcmp, g_ineg, g_lshl, g_lshr, g_i2l, g_l2i, g_dupi, g_dupr, g_pop, g_dup2, g_mabs_0, g_mabs_1, g_mabs_2, g_mabs_3, g_mmax_0, g_mmax_1, g_mmax_2, g_mmax_3, g_mmin_0, g_mmin_1, g_mmin_2, g_mmin_3, g_goto, g_jsr, g_icmp_eq, g_icmp_ne, g_icmp_lt, g_icmp_ge, g_icmp_gt, g_icmp_le, g_if_eq, g_if_ne, g_if_lt, g_if_ge, g_if_gt, g_if_le, g_idiv, g_irem, g_ldiv, g_iload, g_lload, g_aload, g_istore, g_astore, g_lstore, g_iinc, g_getfield, g_putfield, g_iaload, g_baload, g_laload, g_aaload, g_iastore, g_bastore, g_lastore, g_arraylength, g_call0_0, g_call0_1, g_call0_2, g_call0_3, g_call0_4, g_call1_0, g_call1_1, g_call1_2, g_call1_3, g_call1_4, g_call2_0, g_call2_1, g_call2_2, g_call2_3, g_call2_4, g_call3_0, g_call3_1, g_call3_2, g_call3_3, g_call3_4, g_call4_0, g_call4_1, g_call4_2, g_call4_3, g_call4_4, g_call5_0, g_call5_1, g_call5_2, g_call5_3, g_call5_4, g_call6_0, g_call6_1, g_call6_2, g_call6_3, g_call6_4, g_ireturn, g_lreturn, g_return, g_zreturn, sto_0, sto_s, sto2_0, sto2_s, isL_i, isL_r, isL_l, isL_j, ldI_0, ldI_9, ldZ_2, ldL_1, ldQ_3, stI_0, stL_1, stZ_2, gF_o, pF_o, lenA_9, oB_some, vI_i, vJ_j, vR_r, Option.map_some, List.getElem?_cons_zero, List.getElem?_cons_succ, Nat.reduceDiv, Nat.reduceMod, Int.reduceToNat, true_and, and_true, false_and, reduceIte, List.set_cons_zero, List.set_cons_succ, Option.toList_some, Option.toList_none, List.cons_append, List.nil_append, List.length_cons, List.length_nil, Nat.reduceAdd, Nat.reduceLeDiff, Nat.reduceLT, Nat.reduceEqDiff, and_self, and_false, Bool.false_eq_true, h1, h2, h3, c_next hO hn hR, abs_i, c_commonDivisor, iI_f, i32_0, i32_1, b2i_0, b2i_n, iI_add, iI_sub, iI_mul, iI_neg, iI_lt, iI_le, iI_eq, iI_in, iI_cl, i_nn, eq_self, true_or, or_true, not_true_eq_false, not_false_eq_true, Int.reduceEq, Int.reduceLT, Int.reduceLE, Int.reduceNeg]
    refine ite_f (by omega) ?_
    have w := ih (i + 1) (s + fenT X Y n i) (.int (iI (nx n i))) (by omega)
    simp only [itF]
    push_cast at w
    exact w
set_option maxRecDepth 10000 in
theorem c_fenceDots {h : fH} {o n : Nat} {X Y : Nat → Int} (hO : Out h o n X Y) (hn : n ≤ 10) (hR : Rg n X Y) (Q : Option Value → fH → Prop) :
    Call 37 [.ref o] h Q ↔ Q (some (.int (iI ((itF (fun i s => s + fenT X Y n i) 0 n 0 : Nat) : Int)))) h := by
  have h1 := hO.1
  have h2 := hO.2.1
  have h3 := hO.2.2
  refine Call.iff ⟨by simp [vOK, entL, isL, mlT, kdT, clT, isO, h1], rfl, ?_⟩ Q
  rw [show ent 37 [.ref o] = [.ref o, jk, jk, jk] from rfl]
  simp (disch := omega) only [B37_0, b37_0, g_iconst, g_lconst, g_iadd, g_isub, g_imul, g_iand, g_ior, g_ishl, g_ishr, g_iushr, g_ladd, g_lsub, g_lmul, g_land, g_lor, g_lcmp, g_ineg, g_lshl, g_lshr, g_i2l, g_l2i, g_dupi, g_dupr, g_pop, g_dup2, g_mabs_0, g_mabs_1, g_mabs_2, g_mabs_3, g_mmax_0, g_mmax_1, g_mmax_2, g_mmax_3, g_mmin_0, g_mmin_1, g_mmin_2, g_mmin_3, g_goto, g_jsr, g_icmp_eq, g_icmp_ne, g_icmp_lt, g_icmp_ge, g_icmp_gt, g_icmp_le, g_if_eq, g_if_ne, g_if_lt, g_if_ge, g_if_gt, g_if_le, g_idiv, g_irem, g_ldiv, g_iload, g_lload, g_aload, g_istore, g_astore, g_lstore, g_iinc, g_getfield, g_putfield, g_iaload, g_baload, g_laload, g_aaload, g_iastore, g_bastore, g_lastore, g_arraylength, g_call0_0, g_call0_1, g_call0_2, g_call0_3, g_call0_4, g_call1_0, g_call1_1, g_call1_2, g_call1_3, g_call1_4, g_call2_0, g_call2_1, g_call2_2, g_call2_3, g_call2_4, g_call3_0, g_call3_1, g_call3_2, g_call3_3, g_call3_4, g_call4_0, g_call4_1, g_call4_2, g_call4_3, g_call4_4, g_call5_0, g_call5_1, g_call5_2, g_call5_3, g_call5_4, g_call6_0, g_call6_1, g_call6_2, g_call6_3, g_call6_4, g_ireturn, g_lreturn, g_return, g_zreturn, sto_0, sto_s, sto2_0, sto2_s, isL_i, isL_r, isL_l, isL_j, ldI_0, ldI_9, ldZ_2, ldL_1, ldQ_3, stI_0, stL_1, stZ_2, gF_o, pF_o, lenA_9, oB_some, vI_i, vJ_j, vR_r, Option.map_some, List.getElem?_cons_zero, List.getElem?_cons_succ, Nat.reduceDiv, Nat.reduceMod, Int.reduceToNat, true_and, and_true, false_and, reduceIte, List.set_cons_zero, List.set_cons_succ, Option.toList_some, Option.toList_none, List.cons_append, List.nil_append, List.length_cons, List.length_nil, Nat.reduceAdd, Nat.reduceLeDiff, Nat.reduceLT, Nat.reduceEqDiff, and_self, and_false, Bool.false_eq_true, h1, h2, h3, iI_f, i32_0, i32_1, b2i_0, b2i_n, iI_add, iI_sub, iI_mul, iI_neg, iI_lt, iI_le, iI_eq, iI_in, iI_cl, i_nn, eq_self, true_or, or_true, not_true_eq_false, not_false_eq_true, Int.reduceEq, Int.reduceLT, Int.reduceLE, Int.reduceNeg]
  exact l_fenceDots hO hn hR n 0 0 jk (by omega)
def fenc (X Y : Nat → Int) (n : Nat) : Nat := itF (fun i s => s + fenT X Y n i) 0 n 0
set_option maxRecDepth 10000 in
theorem c_innerDots {h : fH} {o n : Nat} {X Y : Nat → Int} (hO : Out h o n X Y) (hn : n ≤ 10) (hR : Rg n X Y) (h0 : 0 < n) (Q : Option Value → fH → Prop) :
    Call 38 [.ref o] h Q ↔ Q (some (.int (iI ((((area X Y n).natAbs : Int) - fenc X Y n).tdiv 2 + 1)))) h := by
  have h1 := hO.1
  have h2 := hO.2.1
  have h3 := hO.2.2
  have e2 := areaP_bd hR hn (p := 0) (q := n - 1) (by omega) (by omega) (by omega)
  have e3 : area X Y n = areaP X Y 0 (n - 1) := rfl
  rw [← e3] at e2
  have e4 := fen_bd (n := n) (X := X) (Y := Y) n 0 0
  have e5 : itF (fun i s => s + fenT X Y n i) 0 n 0 = fenc X Y n := rfl
  rw [e5] at e4
  have c1 := c_fenceDots hO hn hR
  rw [e5] at c1
  refine Call.iff ⟨by simp [vOK, entL, isL, mlT, kdT, clT, isO, h1], rfl, ?_⟩ Q
  rw [show ent 38 [.ref o] = [.ref o] from rfl]
  simp (disch := omega) only [B38_0, b38_0, g_iconst, g_lconst, g_iadd, g_isub, g_imul, g_iand, g_ior, g_ishl, g_ishr, g_iushr, g_ladd, g_lsub, g_lmul, g_land, g_lor, g_lcmp, g_ineg, g_lshl, g_lshr, g_i2l, g_l2i, g_dupi, g_dupr, g_pop, g_dup2, g_mabs_0, g_mabs_1, g_mabs_2, g_mabs_3, g_mmax_0, g_mmax_1, g_mmax_2, g_mmax_3, g_mmin_0, g_mmin_1, g_mmin_2, g_mmin_3, g_goto, g_jsr, g_icmp_eq, g_icmp_ne, g_icmp_lt, g_icmp_ge, g_icmp_gt, g_icmp_le, g_if_eq, g_if_ne, g_if_lt, g_if_ge, g_if_gt, g_if_le, g_idiv, g_irem, g_ldiv, g_iload, g_lload, g_aload, g_istore, g_astore, g_lstore, g_iinc, g_getfield, g_putfield, g_iaload, g_baload, g_laload, g_aaload, g_iastore, g_bastore, g_lastore, g_arraylength, g_call0_0, g_call0_1, g_call0_2, g_call0_3, g_call0_4, g_call1_0, g_call1_1, g_call1_2, g_call1_3, g_call1_4, g_call2_0, g_call2_1, g_call2_2, g_call2_3, g_call2_4, g_call3_0, g_call3_1, g_call3_2, g_call3_3, g_call3_4, g_call4_0, g_call4_1, g_call4_2, g_call4_3, g_call4_4, g_call5_0, g_call5_1, g_call5_2, g_call5_3, g_call5_4, g_call6_0, g_call6_1, g_call6_2, g_call6_3, g_call6_4, g_ireturn, g_lreturn, g_return, g_zreturn, sto_0, sto_s, sto2_0, sto2_s, isL_i, isL_r, isL_l, isL_j, ldI_0, ldI_9, ldZ_2, ldL_1, ldQ_3, stI_0, stL_1, stZ_2, gF_o, pF_o, lenA_9, oB_some, vI_i, vJ_j, vR_r, Option.map_some, List.getElem?_cons_zero, List.getElem?_cons_succ, Nat.reduceDiv, Nat.reduceMod, Int.reduceToNat, true_and, and_true, false_and, reduceIte, List.set_cons_zero, List.set_cons_succ, Option.toList_some, Option.toList_none, List.cons_append, List.nil_append, List.length_cons, List.length_nil, Nat.reduceAdd, Nat.reduceLeDiff, Nat.reduceLT, Nat.reduceEqDiff, and_self, and_false, Bool.false_eq_true, h1, h2, h3, abs_i, iI_div, c1, c_signedArea hO hn hR, iI_f, i32_0, i32_1, b2i_0, b2i_n, iI_add, iI_sub, iI_mul, iI_neg, iI_lt, iI_le, iI_eq, iI_in, iI_cl, i_nn, eq_self, true_or, or_true, not_true_eq_false, not_false_eq_true, Int.reduceEq, Int.reduceLT, Int.reduceLE, Int.reduceNeg]
def bnd (X Y : Nat → Int) (n i : Nat) : Int := if sd X Y (pv n i) i (nx n i) = 0 then 1 else if (0 < sd X Y (pv n i) i (nx n i) ↔ 0 < area X Y n) then 0 else 2
set_option maxRecDepth 10000 in
theorem c_bendAt {h : fH} {o n : Nat} {X Y : Nat → Int} (hO : Out h o n X Y) (hn : n ≤ 10) (hR : Rg n X Y) {i : Nat} (hi : i < n) (Q : Option Value → fH → Prop) :
    Call 39 [.ref o, .int (iI i)] h Q ↔ Q (some (.int (iI (bnd X Y n i)))) h := by
  have h1 := hO.1
  have h2 := hO.2.1
  have h3 := hO.2.2
  have p1 := pv_lt hi
  have p2 := nx_lt hi
  have e1 := sd_bd hR p1 hi p2
  have e2 := areaP_bd hR hn (p := 0) (q := n - 1) (by omega) (by omega) (by omega)
  have e3 : area X Y n = areaP X Y 0 (n - 1) := rfl
  rw [← e3] at e2
  refine Call.iff ⟨by simp [vOK, entL, isL, mlT, kdT, clT, isO, h1], rfl, ?_⟩ Q
  rw [show ent 39 [.ref o, .int (iI i)] = [.ref o, .int (iI i), jk] from rfl]
  simp (disch := omega) only [B39_0, b39_0, B39_22, b39_22, B39_30, b39_30, B39_31, b39_31, B39_42, b39_42, B39_43, b39_43, B39_50, b39_50, B39_51, b39_51, g_iconst, g_lconst, g_iadd, g_isub, g_imul, g_iand, g_ior, g_ishl, g_ishr, g_iushr, g_ladd, g_lsub, g_lmul, g_land, g_lor, g_lcmp, g_ineg, g_lshl, g_lshr, g_i2l, g_l2i, g_dupi, g_dupr, g_pop, g_dup2, g_mabs_0, g_mabs_1, g_mabs_2, g_mabs_3, g_mmax_0, g_mmax_1, g_mmax_2, g_mmax_3, g_mmin_0, g_mmin_1, g_mmin_2, g_mmin_3, g_goto, g_jsr, g_icmp_eq, g_icmp_ne, g_icmp_lt, g_icmp_ge, g_icmp_gt, g_icmp_le, g_if_eq, g_if_ne, g_if_lt, g_if_ge, g_if_gt, g_if_le, g_idiv, g_irem, g_ldiv, g_iload, g_lload, g_aload, g_istore, g_astore, g_lstore, g_iinc, g_getfield, g_putfield, g_iaload, g_baload, g_laload, g_aaload, g_iastore, g_bastore, g_lastore, g_arraylength, g_call0_0, g_call0_1, g_call0_2, g_call0_3, g_call0_4, g_call1_0, g_call1_1, g_call1_2, g_call1_3, g_call1_4, g_call2_0, g_call2_1, g_call2_2, g_call2_3, g_call2_4, g_call3_0, g_call3_1, g_call3_2, g_call3_3, g_call3_4, g_call4_0, g_call4_1, g_call4_2, g_call4_3, g_call4_4, g_call5_0, g_call5_1, g_call5_2, g_call5_3, g_call5_4, g_call6_0, g_call6_1, g_call6_2, g_call6_3, g_call6_4, g_ireturn, g_lreturn, g_return, g_zreturn, sto_0, sto_s, sto2_0, sto2_s, isL_i, isL_r, isL_l, isL_j, ldI_0, ldI_9, ldZ_2, ldL_1, ldQ_3, stI_0, stL_1, stZ_2, gF_o, pF_o, lenA_9, oB_some, vI_i, vJ_j, vR_r, Option.map_some, List.getElem?_cons_zero, List.getElem?_cons_succ, Nat.reduceDiv, Nat.reduceMod, Int.reduceToNat, true_and, and_true, false_and, reduceIte, List.set_cons_zero, List.set_cons_succ, Option.toList_some, Option.toList_none, List.cons_append, List.nil_append, List.length_cons, List.length_nil, Nat.reduceAdd, Nat.reduceLeDiff, Nat.reduceLT, Nat.reduceEqDiff, and_self, and_false, Bool.false_eq_true, h1, h2, h3, c_next hO hn hR, c_previous hO hn hR, c_sideOf hO hn hR, c_signedArea hO hn hR, iI_f, i32_0, i32_1, b2i_0, b2i_n, iI_add, iI_sub, iI_mul, iI_neg, iI_lt, iI_le, iI_eq, iI_in, iI_cl, i_nn, eq_self, true_or, or_true, not_true_eq_false, not_false_eq_true, Int.reduceEq, Int.reduceLT, Int.reduceLE, Int.reduceNeg]
  unfold bnd
  (repeat' split) <;> first | rfl | (exfalso; omega)
set_option maxRecDepth 10000 in
theorem c_longBy {h : fH} {o n : Nat} {X Y : Nat → Int} (hO : Out h o n X Y) (hn : n ≤ 10) (hR : Rg n X Y) {a b : Nat} (ha : a < n) (hb : b < n) (Q : Option Value → fH → Prop) :
    Call 51 [.ref o, .int (iI a), .int (iI b)] h Q ↔ Q (some (.int (iI ((X a - X b) * (X a - X b) + (Y a - Y b) * (Y a - Y b))))) h := by
  have h1 := hO.1
  have h2 := hO.2.1
  have h3 := hO.2.2
  refine Call.iff ⟨by simp [vOK, entL, isL, mlT, kdT, clT, isO, h1], rfl, ?_⟩ Q
  rw [show ent 51 [.ref o, .int (iI a), .int (iI b)] = [.ref o, .int (iI a), .int (iI b), jk, jk] from rfl]
  simp (disch := omega) only [B51_0, b51_0, g_iconst, g_lconst, g_iadd, g_isub, g_imul, g_iand, g_ior, g_ishl, g_ishr, g_iushr, g_ladd, g_lsub, g_lmul, g_land, g_lor, g_lcmp, g_ineg, g_lshl, g_lshr, g_i2l, g_l2i, g_dupi, g_dupr, g_pop, g_dup2, g_mabs_0, g_mabs_1, g_mabs_2, g_mabs_3, g_mmax_0, g_mmax_1, g_mmax_2, g_mmax_3, g_mmin_0, g_mmin_1, g_mmin_2, g_mmin_3, g_goto, g_jsr, g_icmp_eq, g_icmp_ne, g_icmp_lt, g_icmp_ge, g_icmp_gt, g_icmp_le, g_if_eq, g_if_ne, g_if_lt, g_if_ge, g_if_gt, g_if_le, g_idiv, g_irem, g_ldiv, g_iload, g_lload, g_aload, g_istore, g_astore, g_lstore, g_iinc, g_getfield, g_putfield, g_iaload, g_baload, g_laload, g_aaload, g_iastore, g_bastore, g_lastore, g_arraylength, g_call0_0, g_call0_1, g_call0_2, g_call0_3, g_call0_4, g_call1_0, g_call1_1, g_call1_2, g_call1_3, g_call1_4, g_call2_0, g_call2_1, g_call2_2, g_call2_3, g_call2_4, g_call3_0, g_call3_1, g_call3_2, g_call3_3, g_call3_4, g_call4_0, g_call4_1, g_call4_2, g_call4_3, g_call4_4, g_call5_0, g_call5_1, g_call5_2, g_call5_3, g_call5_4, g_call6_0, g_call6_1, g_call6_2, g_call6_3, g_call6_4, g_ireturn, g_lreturn, g_return, g_zreturn, sto_0, sto_s, sto2_0, sto2_s, isL_i, isL_r, isL_l, isL_j, ldI_0, ldI_9, ldZ_2, ldL_1, ldQ_3, stI_0, stL_1, stZ_2, gF_o, pF_o, lenA_9, oB_some, vI_i, vJ_j, vR_r, Option.map_some, List.getElem?_cons_zero, List.getElem?_cons_succ, Nat.reduceDiv, Nat.reduceMod, Int.reduceToNat, true_and, and_true, false_and, reduceIte, List.set_cons_zero, List.set_cons_succ, Option.toList_some, Option.toList_none, List.cons_append, List.nil_append, List.length_cons, List.length_nil, Nat.reduceAdd, Nat.reduceLeDiff, Nat.reduceLT, Nat.reduceEqDiff, and_self, and_false, Bool.false_eq_true, h1, h2, h3, iI_f, i32_0, i32_1, b2i_0, b2i_n, iI_add, iI_sub, iI_mul, iI_neg, iI_lt, iI_le, iI_eq, iI_in, iI_cl, i_nn, eq_self, true_or, or_true, not_true_eq_false, not_false_eq_true, Int.reduceEq, Int.reduceLT, Int.reduceLE, Int.reduceNeg]
set_option maxRecDepth 10000 in
theorem l_cornersThat {h : fH} {o n : Nat} {X Y : Nat → Int} (hO : Out h o n X Y) (hn : n ≤ 10) (hR : Rg n X Y) {k : Int} (hk : 0 ≤ k ∧ k ≤ 2) : ∀ (d i : Nat) (s : Nat), i + d = n →
    Go 40 (blk 40 4) [.ref o, .int (iI k), .int (iI s), .int (iI i)] [] h (fun v h2 => v = some (.int (iI ((itF (fun i s => if bnd X Y n i = k then s + 1 else s) i d s : Nat) : Int))) ∧ h2 = h) := by
  have h1 := hO.1
  have h2 := hO.2.1
  have h3 := hO.2.2
  intro d
  induction d with
  | zero =>
    intro i s hi
    rw [B40_4, b40_4]
    simp (disch := omega) only [B40_24, b40_24, B40_30, b40_30, g_iconst, g_lconst, g_iadd, g_isub, g_imul, g_iand, g_ior, g_ishl, g_ishr, g_iushr, g_ladd, g_lsub, g_lmul, g_land, g_lor, g_lcmp, g_ineg, g_lshl, g_lshr, g_i2l, g_l2i, g_dupi, g_dupr, g_pop, g_dup2, g_mabs_0, g_mabs_1, g_mabs_2, g_mabs_3, g_mmax_0, g_mmax_1, g_mmax_2, g_mmax_3, g_mmin_0, g_mmin_1, g_mmin_2, g_mmin_3, g_goto, g_jsr, g_icmp_eq, g_icmp_ne, g_icmp_lt, g_icmp_ge, g_icmp_gt, g_icmp_le, g_if_eq, g_if_ne, g_if_lt, g_if_ge, g_if_gt, g_if_le, g_idiv, g_irem, g_ldiv, g_iload, g_lload, g_aload, g_istore, g_astore, g_lstore, g_iinc, g_getfield, g_putfield, g_iaload, g_baload, g_laload, g_aaload, g_iastore, g_bastore, g_lastore, g_arraylength, g_call0_0, g_call0_1, g_call0_2, g_call0_3, g_call0_4, g_call1_0, g_call1_1, g_call1_2, g_call1_3, g_call1_4, g_call2_0, g_call2_1, g_call2_2, g_call2_3, g_call2_4, g_call3_0, g_call3_1, g_call3_2, g_call3_3, g_call3_4, g_call4_0, g_call4_1, g_call4_2, g_call4_3, g_call4_4, g_call5_0, g_call5_1, g_call5_2, g_call5_3, g_call5_4, g_call6_0, g_call6_1, g_call6_2, g_call6_3, g_call6_4, g_ireturn, g_lreturn, g_return, g_zreturn, sto_0, sto_s, sto2_0, sto2_s, isL_i, isL_r, isL_l, isL_j, ldI_0, ldI_9, ldZ_2, ldL_1, ldQ_3, stI_0, stL_1, stZ_2, gF_o, pF_o, lenA_9, oB_some, vI_i, vJ_j, vR_r, Option.map_some, List.getElem?_cons_zero, List.getElem?_cons_succ, Nat.reduceDiv, Nat.reduceMod, Int.reduceToNat, true_and, and_true, false_and, reduceIte, List.set_cons_zero, List.set_cons_succ, Option.toList_some, Option.toList_none, List.cons_append, List.nil_append, List.length_cons, List.length_nil, Nat.reduceAdd, Nat.reduceLeDiff, Nat.reduceLT, Nat.reduceEqDiff, and_self, and_false, Bool.false_eq_true, h1, h2, h3, iI_f, i32_0, i32_1, b2i_0, b2i_n, iI_add, iI_sub, iI_mul, iI_neg, iI_lt, iI_le, iI_eq, iI_in, iI_cl, i_nn, eq_self, true_or, or_true, not_true_eq_false, not_false_eq_true, Int.reduceEq, Int.reduceLT, Int.reduceLE, Int.reduceNeg]
    exact ite_t (by omega) rfl
  | succ d ih =>
    intro i s hi
    have b1 : 0 ≤ bnd X Y n i ∧ bnd X Y n i ≤ 2 := by unfold bnd; (repeat' split) <;> omega
    rw [B40_4, b40_4]
    simp (disch := omega) only [B40_24, b40_24, B40_30, b40_30, g_iconst, g_lconst, g_iadd, g_isub, g_imul, g_iand, g_ior, g_ishl, g_ishr, g_iushr, g_ladd, g_lsub, g_lmul, g_land, g_lor, g_lcmp, g_ineg, g_lshl, g_lshr, g_i2l, g_l2i, g_dupi, g_dupr, g_pop, g_dup2, g_mabs_0, g_mabs_1, g_mabs_2, g_mabs_3, g_mmax_0, g_mmax_1, g_mmax_2, g_mmax_3, g_mmin_0, g_mmin_1, g_mmin_2, g_mmin_3, g_goto, g_jsr, g_icmp_eq, g_icmp_ne, g_icmp_lt, g_icmp_ge, g_icmp_gt, g_icmp_le, g_if_eq, g_if_ne, g_if_lt, g_if_ge, g_if_gt, g_if_le, g_idiv, g_irem, g_ldiv, g_iload, g_lload, g_aload, g_istore, g_astore, g_lstore, g_iinc, g_getfield, g_putfield, g_iaload, g_baload, g_laload, g_aaload, g_iastore, g_bastore, g_lastore, g_arraylength, g_call0_0, g_call0_1, g_call0_2, g_call0_3, g_call0_4, g_call1_0, g_call1_1, g_call1_2, g_call1_3, g_call1_4, g_call2_0, g_call2_1, g_call2_2, g_call2_3, g_call2_4, g_call3_0, g_call3_1, g_call3_2, g_call3_3, g_call3_4, g_call4_0, g_call4_1, g_call4_2, g_call4_3, g_call4_4, g_call5_0, g_call5_1, g_call5_2, g_call5_3, g_call5_4, g_call6_0, g_call6_1, g_call6_2, g_call6_3, g_call6_4, g_ireturn, g_lreturn, g_return, g_zreturn, sto_0, sto_s, sto2_0, sto2_s, isL_i, isL_r, isL_l, isL_j, ldI_0, ldI_9, ldZ_2, ldL_1, ldQ_3, stI_0, stL_1, stZ_2, gF_o, pF_o, lenA_9, oB_some, vI_i, vJ_j, vR_r, Option.map_some, List.getElem?_cons_zero, List.getElem?_cons_succ, Nat.reduceDiv, Nat.reduceMod, Int.reduceToNat, true_and, and_true, false_and, reduceIte, List.set_cons_zero, List.set_cons_succ, Option.toList_some, Option.toList_none, List.cons_append, List.nil_append, List.length_cons, List.length_nil, Nat.reduceAdd, Nat.reduceLeDiff, Nat.reduceLT, Nat.reduceEqDiff, and_self, and_false, Bool.false_eq_true, h1, h2, h3, c_bendAt hO hn hR, iI_f, i32_0, i32_1, b2i_0, b2i_n, iI_add, iI_sub, iI_mul, iI_neg, iI_lt, iI_le, iI_eq, iI_in, iI_cl, i_nn, eq_self, true_or, or_true, not_true_eq_false, not_false_eq_true, Int.reduceEq, Int.reduceLT, Int.reduceLE, Int.reduceNeg]
    refine ite_f (by omega) (ite_c (fun hc => ?_) (fun hc => ?_))
    · have w := ih (i + 1) s (by omega)
      simp only [itF, if_neg hc]
      push_cast at w; exact w
    · have hc : bnd X Y n i = k := Classical.byContradiction hc
      have w := ih (i + 1) (s + 1) (by omega)
      simp only [itF, if_pos hc]
      push_cast at w; exact w
set_option maxRecDepth 10000 in
theorem c_cornersThat {h : fH} {o n : Nat} {X Y : Nat → Int} (hO : Out h o n X Y) (hn : n ≤ 10) (hR : Rg n X Y) {k : Int} (hk : 0 ≤ k ∧ k ≤ 2) (Q : Option Value → fH → Prop) :
    Call 40 [.ref o, .int (iI k)] h Q ↔ Q (some (.int (iI ((itF (fun i s => if bnd X Y n i = k then s + 1 else s) 0 n 0 : Nat) : Int)))) h := by
  have h1 := hO.1
  have h2 := hO.2.1
  have h3 := hO.2.2
  refine Call.iff ⟨by simp [vOK, entL, isL, mlT, kdT, clT, isO, h1], rfl, ?_⟩ Q
  rw [show ent 40 [.ref o, .int (iI k)] = [.ref o, .int (iI k), jk, jk] from rfl]
  simp (disch := omega) only [B40_0, b40_0, g_iconst, g_lconst, g_iadd, g_isub, g_imul, g_iand, g_ior, g_ishl, g_ishr, g_iushr, g_ladd, g_lsub, g_lmul, g_land, g_lor, g_lcmp, g_ineg, g_lshl, g_lshr, g_i2l, g_l2i, g_dupi, g_dupr, g_pop, g_dup2, g_mabs_0, g_mabs_1, g_mabs_2, g_mabs_3, g_mmax_0, g_mmax_1, g_mmax_2, g_mmax_3, g_mmin_0, g_mmin_1, g_mmin_2, g_mmin_3, g_goto, g_jsr, g_icmp_eq, g_icmp_ne, g_icmp_lt, g_icmp_ge, g_icmp_gt, g_icmp_le, g_if_eq, g_if_ne, g_if_lt, g_if_ge, g_if_gt, g_if_le, g_idiv, g_irem, g_ldiv, g_iload, g_lload, g_aload, g_istore, g_astore, g_lstore, g_iinc, g_getfield, g_putfield, g_iaload, g_baload, g_laload, g_aaload, g_iastore, g_bastore, g_lastore, g_arraylength, g_call0_0, g_call0_1, g_call0_2, g_call0_3, g_call0_4, g_call1_0, g_call1_1, g_call1_2, g_call1_3, g_call1_4, g_call2_0, g_call2_1, g_call2_2, g_call2_3, g_call2_4, g_call3_0, g_call3_1, g_call3_2, g_call3_3, g_call3_4, g_call4_0, g_call4_1, g_call4_2, g_call4_3, g_call4_4, g_call5_0, g_call5_1, g_call5_2, g_call5_3, g_call5_4, g_call6_0, g_call6_1, g_call6_2, g_call6_3, g_call6_4, g_ireturn, g_lreturn, g_return, g_zreturn, sto_0, sto_s, sto2_0, sto2_s, isL_i, isL_r, isL_l, isL_j, ldI_0, ldI_9, ldZ_2, ldL_1, ldQ_3, stI_0, stL_1, stZ_2, gF_o, pF_o, lenA_9, oB_some, vI_i, vJ_j, vR_r, Option.map_some, List.getElem?_cons_zero, List.getElem?_cons_succ, Nat.reduceDiv, Nat.reduceMod, Int.reduceToNat, true_and, and_true, false_and, reduceIte, List.set_cons_zero, List.set_cons_succ, Option.toList_some, Option.toList_none, List.cons_append, List.nil_append, List.length_cons, List.length_nil, Nat.reduceAdd, Nat.reduceLeDiff, Nat.reduceLT, Nat.reduceEqDiff, and_self, and_false, Bool.false_eq_true, h1, h2, h3, iI_f, i32_0, i32_1, b2i_0, b2i_n, iI_add, iI_sub, iI_mul, iI_neg, iI_lt, iI_le, iI_eq, iI_in, iI_cl, i_nn, eq_self, true_or, or_true, not_true_eq_false, not_false_eq_true, Int.reduceEq, Int.reduceLT, Int.reduceLE, Int.reduceNeg]
  exact l_cornersThat hO hn hR hk n 0 0 (by omega)
/-- width by a slant: the least and the greatest so far -/
def wdS (X Y : Nat → Int) (a b : Int) (i : Nat) (s : Int × Int) : Int × Int := (min s.1 (a * X i + b * Y i), max s.2 (a * X i + b * Y i))
def wid (X Y : Nat → Int) (n : Nat) (a b : Int) : Int := (itF (wdS X Y a b) 1 (n - 1) (a * X 0 + b * Y 0, a * X 0 + b * Y 0)).2 - (itF (wdS X Y a b) 1 (n - 1) (a * X 0 + b * Y 0, a * X 0 + b * Y 0)).1
theorem far_bd {n : Nat} {X Y : Nat → Int} (h : Rg n X Y) {i : Nat} (hi : i < n) {a b : Int} (ha : -9 ≤ a ∧ a ≤ 9) (hb : -9 ≤ b ∧ b ≤ 9) : -270 ≤ a * X i + b * Y i ∧ a * X i + b * Y i ≤ 270 := by
  obtain ⟨a1, a2, a3, a4⟩ := h i hi
  have h1 := mul_bd (a := a) (b := X i) (M := 9) (N := 15) (by omega) (by omega) (by omega) (by omega) (by omega) (by omega)
  have h2 := mul_bd (a := b) (b := Y i) (M := 9) (N := 15) (by omega) (by omega) (by omega) (by omega) (by omega) (by omega)
  omega
set_option maxRecDepth 10000 in
theorem l_widthBy {h : fH} {o n : Nat} {X Y : Nat → Int} (hO : Out h o n X Y) (hn : n ≤ 10) (hR : Rg n X Y) {a b : Int} (ha : -9 ≤ a ∧ a ≤ 9) (hb : -9 ≤ b ∧ b ≤ 9) : ∀ (d i : Nat) (s t : Int) (z : Value), i + d = n → -270 ≤ s ∧ s ≤ 270 → -270 ≤ t ∧ t ≤ 270 →
    Go 41 (blk 41 24) [.ref o, .int (iI a), .int (iI b), .int (iI s), .int (iI t), .int (iI i), z] [] h (fun v h2 => v = some (.int (iI ((itF (wdS X Y a b) i d (s, t)).2 - (itF (wdS X Y a b) i d (s, t)).1))) ∧ h2 = h) := by
  have h1 := hO.1
  have h2 := hO.2.1
  have h3 := hO.2.2
  intro d
  induction d with
  | zero =>
    intro i s t z hi hs ht
    rw [B41_24, b41_24]
    simp (disch := omega) only [B41_76, b41_76, g_iconst, g_lconst, g_iadd, g_isub, g_imul, g_iand, g_ior, g_ishl, g_ishr, g_iushr, g_ladd, g_lsub, g_lmul, g_land, g_lor, g_lcmp, g_ineg, g_lshl, g_lshr, g_i2l, g_l2i, g_dupi, g_dupr, g_pop, g_dup2, g_mabs_0, g_mabs_1, g_mabs_2, g_mabs_3, g_mmax_0, g_mmax_1, g_mmax_2, g_mmax_3, g_mmin_0, g_mmin_1, g_mmin_2, g_mmin_3, g_goto, g_jsr, g_icmp_eq, g_icmp_ne, g_icmp_lt, g_icmp_ge, g_icmp_gt, g_icmp_le, g_if_eq, g_if_ne, g_if_lt, g_if_ge, g_if_gt, g_if_le, g_idiv, g_irem, g_ldiv, g_iload, g_lload, g_aload, g_istore, g_astore, g_lstore, g_iinc, g_getfield, g_putfield, g_iaload, g_baload, g_laload, g_aaload, g_iastore, g_bastore, g_lastore, g_arraylength, g_call0_0, g_call0_1, g_call0_2, g_call0_3, g_call0_4, g_call1_0, g_call1_1, g_call1_2, g_call1_3, g_call1_4, g_call2_0, g_call2_1, g_call2_2, g_call2_3, g_call2_4, g_call3_0, g_call3_1, g_call3_2, g_call3_3, g_call3_4, g_call4_0, g_call4_1, g_call4_2, g_call4_3, g_call4_4, g_call5_0, g_call5_1, g_call5_2, g_call5_3, g_call5_4, g_call6_0, g_call6_1, g_call6_2, g_call6_3, g_call6_4, g_ireturn, g_lreturn, g_return, g_zreturn, sto_0, sto_s, sto2_0, sto2_s, isL_i, isL_r, isL_l, isL_j, ldI_0, ldI_9, ldZ_2, ldL_1, ldQ_3, stI_0, stL_1, stZ_2, gF_o, pF_o, lenA_9, oB_some, vI_i, vJ_j, vR_r, Option.map_some, List.getElem?_cons_zero, List.getElem?_cons_succ, Nat.reduceDiv, Nat.reduceMod, Int.reduceToNat, true_and, and_true, false_and, reduceIte, List.set_cons_zero, List.set_cons_succ, Option.toList_some, Option.toList_none, List.cons_append, List.nil_append, List.length_cons, List.length_nil, Nat.reduceAdd, Nat.reduceLeDiff, Nat.reduceLT, Nat.reduceEqDiff, and_self, and_false, Bool.false_eq_true, h1, h2, h3, iI_f, i32_0, i32_1, b2i_0, b2i_n, iI_add, iI_sub, iI_mul, iI_neg, iI_lt, iI_le, iI_eq, iI_in, iI_cl, i_nn, eq_self, true_or, or_true, not_true_eq_false, not_false_eq_true, Int.reduceEq, Int.reduceLT, Int.reduceLE, Int.reduceNeg]
    exact ite_t (by omega) rfl
  | succ d ih =>
    intro i s t z hi hs ht
    have f := far_bd hR (show i < n by omega) ha hb
    rw [B41_24, b41_24]
    simp (disch := omega) only [B41_76, b41_76, g_iconst, g_lconst, g_iadd, g_isub, g_imul, g_iand, g_ior, g_ishl, g_ishr, g_iushr, g_ladd, g_lsub, g_lmul, g_land, g_lor, g_lcmp, g_ineg, g_lshl, g_lshr, g_i2l, g_l2i, g_dupi, g_dupr, g_pop, g_dup2, g_mabs_0, g_mabs_1, g_mabs_2, g_mabs_3, g_mmax_0, g_mmax_1, g_mmax_2, g_mmax_3, g_mmin_0, g_mmin_1, g_mmin_2, g_mmin_3, g_goto, g_jsr, g_icmp_eq, g_icmp_ne, g_icmp_lt, g_icmp_ge, g_icmp_gt, g_icmp_le, g_if_eq, g_if_ne, g_if_lt, g_if_ge, g_if_gt, g_if_le, g_idiv, g_irem, g_ldiv, g_iload, g_lload, g_aload, g_istore, g_astore, g_lstore, g_iinc, g_getfield, g_putfield, g_iaload, g_baload, g_laload, g_aaload, g_iastore, g_bastore, g_lastore, g_arraylength, g_call0_0, g_call0_1, g_call0_2, g_call0_3, g_call0_4, g_call1_0, g_call1_1, g_call1_2, g_call1_3, g_call1_4, g_call2_0, g_call2_1, g_call2_2, g_call2_3, g_call2_4, g_call3_0, g_call3_1, g_call3_2, g_call3_3, g_call3_4, g_call4_0, g_call4_1, g_call4_2, g_call4_3, g_call4_4, g_call5_0, g_call5_1, g_call5_2, g_call5_3, g_call5_4, g_call6_0, g_call6_1, g_call6_2, g_call6_3, g_call6_4, g_ireturn, g_lreturn, g_return, g_zreturn, sto_0, sto_s, sto2_0, sto2_s, isL_i, isL_r, isL_l, isL_j, ldI_0, ldI_9, ldZ_2, ldL_1, ldQ_3, stI_0, stL_1, stZ_2, gF_o, pF_o, lenA_9, oB_some, vI_i, vJ_j, vR_r, Option.map_some, List.getElem?_cons_zero, List.getElem?_cons_succ, Nat.reduceDiv, Nat.reduceMod, Int.reduceToNat, true_and, and_true, false_and, reduceIte, List.set_cons_zero, List.set_cons_succ, Option.toList_some, Option.toList_none, List.cons_append, List.nil_append, List.length_cons, List.length_nil, Nat.reduceAdd, Nat.reduceLeDiff, Nat.reduceLT, Nat.reduceEqDiff, and_self, and_false, Bool.false_eq_true, h1, h2, h3, max_i, min_i, iI_f, i32_0, i32_1, b2i_0, b2i_n, iI_add, iI_sub, iI_mul, iI_neg, iI_lt, iI_le, iI_eq, iI_in, iI_cl, i_nn, eq_self, true_or, or_true, not_true_eq_false, not_false_eq_true, Int.reduceEq, Int.reduceLT, Int.reduceLE, Int.reduceNeg]
    refine ite_f (by omega) ?_
    have w := ih (i + 1) (min s (a * X i + b * Y i)) (max t (a * X i + b * Y i)) (.int (iI (a * X i + b * Y i))) (by omega) (by omega) (by omega)
    simp only [itF, wdS]
    push_cast at w
    exact w
set_option maxRecDepth 10000 in
theorem c_widthBy {h : fH} {o n : Nat} {X Y : Nat → Int} (hO : Out h o n X Y) (hn : n ≤ 10) (hR : Rg n X Y) (h0 : 0 < n) {a b : Int} (ha : -9 ≤ a ∧ a ≤ 9) (hb : -9 ≤ b ∧ b ≤ 9) (Q : Option Value → fH → Prop) :
    Call 41 [.ref o, .int (iI a), .int (iI b)] h Q ↔ Q (some (.int (iI (wid X Y n a b)))) h := by
  have h1 := hO.1
  have h2 := hO.2.1
  have h3 := hO.2.2
  have f := far_bd hR h0 ha hb
  refine Call.iff ⟨by simp [vOK, entL, isL, mlT, kdT, clT, isO, h1], rfl, ?_⟩ Q
  rw [show ent 41 [.ref o, .int (iI a), .int (iI b)] = [.ref o, .int (iI a), .int (iI b), jk, jk, jk, jk] from rfl]
  simp (disch := omega) only [B41_0, b41_0, g_iconst, g_lconst, g_iadd, g_isub, g_imul, g_iand, g_ior, g_ishl, g_ishr, g_iushr, g_ladd, g_lsub, g_lmul, g_land, g_lor, g_lcmp, g_ineg, g_lshl, g_lshr, g_i2l, g_l2i, g_dupi, g_dupr, g_pop, g_dup2, g_mabs_0, g_mabs_1, g_mabs_2, g_mabs_3, g_mmax_0, g_mmax_1, g_mmax_2, g_mmax_3, g_mmin_0, g_mmin_1, g_mmin_2, g_mmin_3, g_goto, g_jsr, g_icmp_eq, g_icmp_ne, g_icmp_lt, g_icmp_ge, g_icmp_gt, g_icmp_le, g_if_eq, g_if_ne, g_if_lt, g_if_ge, g_if_gt, g_if_le, g_idiv, g_irem, g_ldiv, g_iload, g_lload, g_aload, g_istore, g_astore, g_lstore, g_iinc, g_getfield, g_putfield, g_iaload, g_baload, g_laload, g_aaload, g_iastore, g_bastore, g_lastore, g_arraylength, g_call0_0, g_call0_1, g_call0_2, g_call0_3, g_call0_4, g_call1_0, g_call1_1, g_call1_2, g_call1_3, g_call1_4, g_call2_0, g_call2_1, g_call2_2, g_call2_3, g_call2_4, g_call3_0, g_call3_1, g_call3_2, g_call3_3, g_call3_4, g_call4_0, g_call4_1, g_call4_2, g_call4_3, g_call4_4, g_call5_0, g_call5_1, g_call5_2, g_call5_3, g_call5_4, g_call6_0, g_call6_1, g_call6_2, g_call6_3, g_call6_4, g_ireturn, g_lreturn, g_return, g_zreturn, sto_0, sto_s, sto2_0, sto2_s, isL_i, isL_r, isL_l, isL_j, ldI_0, ldI_9, ldZ_2, ldL_1, ldQ_3, stI_0, stL_1, stZ_2, gF_o, pF_o, lenA_9, oB_some, vI_i, vJ_j, vR_r, Option.map_some, List.getElem?_cons_zero, List.getElem?_cons_succ, Nat.reduceDiv, Nat.reduceMod, Int.reduceToNat, true_and, and_true, false_and, reduceIte, List.set_cons_zero, List.set_cons_succ, Option.toList_some, Option.toList_none, List.cons_append, List.nil_append, List.length_cons, List.length_nil, Nat.reduceAdd, Nat.reduceLeDiff, Nat.reduceLT, Nat.reduceEqDiff, and_self, and_false, Bool.false_eq_true, h1, h2, h3, iI_f, i32_0, i32_1, b2i_0, b2i_n, iI_add, iI_sub, iI_mul, iI_neg, iI_lt, iI_le, iI_eq, iI_in, iI_cl, i_nn, eq_self, true_or, or_true, not_true_eq_false, not_false_eq_true, Int.reduceEq, Int.reduceLT, Int.reduceLE, Int.reduceNeg]
  exact l_widthBy hO hn hR ha hb (n - 1) 1 _ _ jk (by omega) f f
