/-! The law as a whole. -/
theorem and31 (x : Int32) : ∃ k : Nat, k < 32 ∧ x &&& iI 31 = iI (k : Int) := by
  have h := pk_and x (m := iI 31) 5 (by decide)
  have hl := Nat.mod_lt x.toBitVec.toNat (show 0 < 2 ^ 5 by decide)
  refine ⟨x.toBitVec.toNat % 2 ^ 5, hl, ?_⟩
  rw [h, iI_of (nI _), nI_toInt (by omega)]
theorem I32_of (x : Int32) : I32 x.toInt := ⟨Int32.le_toInt x, Int32.toInt_lt x⟩
set_option maxRecDepth 10000 in
set_option maxHeartbeats 2000000 in
theorem l_law {L : Nat} {w : Nat → Int} (hL : L ≤ 320) (hw : ∀ j, I32 (w j)) : ∀ (d i : Nat) (h : fH) (Z : CZ) (M : MZ), L < i + 5 * (d + 1) → i ≤ L + 5 → Cls h Z → Mdl h M → Inv Z M → f_get h SL = .inl (9, L, .inl (fun j => iI (w j))) → h.1 = 77 → h.2.1 ≤ 30000 →
    Go 184 (blk 184 18) [.ref SL, .ref 0, .ref 56, .int (iI i)] [] h (fun v h => v = some (.int 1) ∧ h.1 ≤ 600000 ∧ h.2.1 ≤ 7302250) := by
  have out : ∀ (i : Nat) (h : fH), L < i + 5 → i ≤ L + 5 → f_get h SL = .inl (9, L, .inl (fun j => iI (w j))) → h.1 = 77 → h.2.1 ≤ 30000 → Go 184 (blk 184 18) [.ref SL, .ref 0, .ref 56, .int (iI i)] [] h (fun v h => v = some (.int 1) ∧ h.1 ≤ 600000 ∧ h.2.1 ≤ 7302250) := by
    intro i h h1 h2 hS h3 h4
    rw [B184_18, b184_18]
    simp (disch := omega) only [B184_1242, b184_1242, g_iconst, g_lconst, g_iadd, g_isub, g_imul, g_iand, g_ior, g_ishl, g_ishr, g_iushr, g_ladd, g_lsub, g_lmul, g_land, g_lor, g_lcmp, g_ineg, g_lshl, g_lshr, g_i2l, g_l2i, g_dupi, g_dupr, g_pop, g_dup2, g_mabs_0, g_mabs_1, g_mabs_2, g_mabs_3, g_mmax_0, g_mmax_1, g_mmax_2, g_mmax_3, g_mmin_0, g_mmin_1, g_mmin_2, g_mmin_3, g_goto, g_jsr, g_icmp_eq, g_icmp_ne, g_icmp_lt, g_icmp_ge, g_icmp_gt, g_icmp_le, g_if_eq, g_if_ne, g_if_lt, g_if_ge, g_if_gt, g_if_le, g_idiv, g_irem, g_ldiv, g_iload, g_lload, g_aload, g_istore, g_astore, g_lstore, g_iinc, g_getfield, g_putfield, g_iaload, g_baload, g_laload, g_aaload, g_iastore, g_bastore, g_lastore, g_arraylength, g_call0_0, g_call0_1, g_call0_2, g_call0_3, g_call0_4, g_call1_0, g_call1_1, g_call1_2, g_call1_3, g_call1_4, g_call2_0, g_call2_1, g_call2_2, g_call2_3, g_call2_4, g_call3_0, g_call3_1, g_call3_2, g_call3_3, g_call3_4, g_call4_0, g_call4_1, g_call4_2, g_call4_3, g_call4_4, g_call5_0, g_call5_1, g_call5_2, g_call5_3, g_call5_4, g_call6_0, g_call6_1, g_call6_2, g_call6_3, g_call6_4, g_ireturn, g_lreturn, g_return, g_zreturn, sto_0, sto_s, sto2_0, sto2_s, isL_i, isL_r, isL_l, isL_j, ldI_0, ldI_9, ldZ_2, ldL_1, ldQ_3, stI_0, stL_1, stZ_2, gF_o, pF_o, lenA_9, oB_some, vI_i, vJ_j, vR_r, Option.map_some, List.getElem?_cons_zero, List.getElem?_cons_succ, Nat.reduceDiv, Nat.reduceMod, Int.reduceToNat, true_and, and_true, false_and, reduceIte, List.set_cons_zero, List.set_cons_succ, Option.toList_some, Option.toList_none, List.cons_append, List.nil_append, List.length_cons, List.length_nil, Nat.reduceAdd, Nat.reduceLeDiff, Nat.reduceLT, Nat.reduceEqDiff, and_self, and_false, Bool.false_eq_true, hS, iI_nat, iI_f, i32_0, i32_1, b2i_0, b2i_n, iI_add, iI_sub, iI_mul, iI_neg, iI_lt, iI_le, iI_eq, iI_in, iI_cl, i_nn, eq_self, true_or, or_true, not_true_eq_false, not_false_eq_true, Int.reduceEq, Int.reduceLT, Int.reduceLE, Int.reduceNeg]
    refine ite_t (by omega) ?_
    exact ⟨by omega, by omega⟩
  intro d
  induction d with
  | zero =>
    intro i h Z M hd hi hC hM hI hS h1 h2
    exact out i h (by omega) hi hS h1 h2
  | succ d ih =>
    intro i h Z M hd hi hC hM hI hS h1 h2
    by_cases c : L < i + 5
    · exact out i h c hi hS h1 h2
    · have fin : ∀ h' Z' M', Cls h' Z' → Mdl h' M' → Inv Z' M' → Fr h h' (fun k => k < 77) → Go 184 (blk 184 1236) [.ref SL, .ref 0, .ref 56, .int (iI i)] [] h' (fun v h => v = some (.int 1) ∧ h.1 ≤ 600000 ∧ h.2.1 ≤ 7302250) := by
        intro h' Z' M' hC' hM' hI' hF
        have g := ih (i + 5) h' Z' M' (by omega) (by omega) hC' hM' hI' ((hF.2.2 SL (by unfold SL; omega)).trans hS) (hF.1.trans h1) (by rw [hF.2.1]; exact h2)
        rw [B184_1236, b184_1236]
        simp (disch := omega) only [g_iconst, g_lconst, g_iadd, g_isub, g_imul, g_iand, g_ior, g_ishl, g_ishr, g_iushr, g_ladd, g_lsub, g_lmul, g_land, g_lor, g_lcmp, g_ineg, g_lshl, g_lshr, g_i2l, g_l2i, g_dupi, g_dupr, g_pop, g_dup2, g_mabs_0, g_mabs_1, g_mabs_2, g_mabs_3, g_mmax_0, g_mmax_1, g_mmax_2, g_mmax_3, g_mmin_0, g_mmin_1, g_mmin_2, g_mmin_3, g_goto, g_jsr, g_icmp_eq, g_icmp_ne, g_icmp_lt, g_icmp_ge, g_icmp_gt, g_icmp_le, g_if_eq, g_if_ne, g_if_lt, g_if_ge, g_if_gt, g_if_le, g_idiv, g_irem, g_ldiv, g_iload, g_lload, g_aload, g_istore, g_astore, g_lstore, g_iinc, g_getfield, g_putfield, g_iaload, g_baload, g_laload, g_aaload, g_iastore, g_bastore, g_lastore, g_arraylength, g_call0_0, g_call0_1, g_call0_2, g_call0_3, g_call0_4, g_call1_0, g_call1_1, g_call1_2, g_call1_3, g_call1_4, g_call2_0, g_call2_1, g_call2_2, g_call2_3, g_call2_4, g_call3_0, g_call3_1, g_call3_2, g_call3_3, g_call3_4, g_call4_0, g_call4_1, g_call4_2, g_call4_3, g_call4_4, g_call5_0, g_call5_1, g_call5_2, g_call5_3, g_call5_4, g_call6_0, g_call6_1, g_call6_2, g_call6_3, g_call6_4, g_ireturn, g_lreturn, g_return, g_zreturn, sto_0, sto_s, sto2_0, sto2_s, isL_i, isL_r, isL_l, isL_j, ldI_0, ldI_9, ldZ_2, ldL_1, ldQ_3, stI_0, stL_1, stZ_2, gF_o, pF_o, lenA_9, oB_some, vI_i, vJ_j, vR_r, Option.map_some, List.getElem?_cons_zero, List.getElem?_cons_succ, Nat.reduceDiv, Nat.reduceMod, Int.reduceToNat, true_and, and_true, false_and, reduceIte, List.set_cons_zero, List.set_cons_succ, Option.toList_some, Option.toList_none, List.cons_append, List.nil_append, List.length_cons, List.length_nil, Nat.reduceAdd, Nat.reduceLeDiff, Nat.reduceLT, Nat.reduceEqDiff, and_self, and_false, Bool.false_eq_true, iI_f, i32_0, i32_1, b2i_0, b2i_n, iI_add, iI_sub, iI_mul, iI_neg, iI_lt, iI_le, iI_eq, iI_in, iI_cl, i_nn, eq_self, true_or, or_true, not_true_eq_false, not_false_eq_true, Int.reduceEq, Int.reduceLT, Int.reduceLE, Int.reduceNeg]
        push_cast at g
        exact g
      obtain ⟨k, hk, ek⟩ := and31 (iI (w i))
      rw [B184_18, b184_18]
      simp (disch := omega) only [g_iconst, g_lconst, g_iadd, g_isub, g_imul, g_iand, g_ior, g_ishl, g_ishr, g_iushr, g_ladd, g_lsub, g_lmul, g_land, g_lor, g_lcmp, g_ineg, g_lshl, g_lshr, g_i2l, g_l2i, g_dupi, g_dupr, g_pop, g_dup2, g_mabs_0, g_mabs_1, g_mabs_2, g_mabs_3, g_mmax_0, g_mmax_1, g_mmax_2, g_mmax_3, g_mmin_0, g_mmin_1, g_mmin_2, g_mmin_3, g_goto, g_jsr, g_icmp_eq, g_icmp_ne, g_icmp_lt, g_icmp_ge, g_icmp_gt, g_icmp_le, g_if_eq, g_if_ne, g_if_lt, g_if_ge, g_if_gt, g_if_le, g_idiv, g_irem, g_ldiv, g_iload, g_lload, g_aload, g_istore, g_astore, g_lstore, g_iinc, g_getfield, g_putfield, g_iaload, g_baload, g_laload, g_aaload, g_iastore, g_bastore, g_lastore, g_arraylength, g_call0_0, g_call0_1, g_call0_2, g_call0_3, g_call0_4, g_call1_0, g_call1_1, g_call1_2, g_call1_3, g_call1_4, g_call2_0, g_call2_1, g_call2_2, g_call2_3, g_call2_4, g_call3_0, g_call3_1, g_call3_2, g_call3_3, g_call3_4, g_call4_0, g_call4_1, g_call4_2, g_call4_3, g_call4_4, g_call5_0, g_call5_1, g_call5_2, g_call5_3, g_call5_4, g_call6_0, g_call6_1, g_call6_2, g_call6_3, g_call6_4, g_ireturn, g_lreturn, g_return, g_zreturn, sto_0, sto_s, sto2_0, sto2_s, isL_i, isL_r, isL_l, isL_j, ldI_0, ldI_9, ldZ_2, ldL_1, ldQ_3, stI_0, stL_1, stZ_2, gF_o, pF_o, lenA_9, oB_some, vI_i, vJ_j, vR_r, Option.map_some, List.getElem?_cons_zero, List.getElem?_cons_succ, Nat.reduceDiv, Nat.reduceMod, Int.reduceToNat, true_and, and_true, false_and, reduceIte, List.set_cons_zero, List.set_cons_succ, Option.toList_some, Option.toList_none, List.cons_append, List.nil_append, List.length_cons, List.length_nil, Nat.reduceAdd, Nat.reduceLeDiff, Nat.reduceLT, Nat.reduceEqDiff, and_self, and_false, Bool.false_eq_true, hS, iI_nat, ek, g_switch, iI_toInt, iI_f, i32_0, i32_1, b2i_0, b2i_n, iI_add, iI_sub, iI_mul, iI_neg, iI_lt, iI_le, iI_eq, iI_in, iI_cl, i_nn, eq_self, true_or, or_true, not_true_eq_false, not_false_eq_true, Int.reduceEq, Int.reduceLT, Int.reduceLE, Int.reduceNeg]
      refine ite_f (by omega) ?_
      have hk32 : k = 0 ∨ k = 1 ∨ k = 2 ∨ k = 3 ∨ k = 4 ∨ k = 5 ∨ k = 6 ∨ k = 7 ∨ k = 8 ∨ k = 9 ∨ k = 10 ∨ k = 11 ∨ k = 12 ∨ k = 13 ∨ k = 14 ∨ k = 15 ∨ k = 16 ∨ k = 17 ∨ k = 18 ∨ k = 19 ∨ k = 20 ∨ k = 21 ∨ k = 22 ∨ k = 23 ∨ k = 24 ∨ k = 25 ∨ k = 26 ∨ k = 27 ∨ k = 28 ∨ k = 29 ∨ k = 30 ∨ k = 31 := by omega
      rcases hk32 with rfl | rfl | rfl | rfl | rfl | rfl | rfl | rfl | rfl | rfl | rfl | rfl | rfl | rfl | rfl | rfl | rfl | rfl | rfl | rfl | rfl | rfl | rfl | rfl | rfl | rfl | rfl | rfl | rfl | rfl | rfl | rfl
      · change Go _ (blk 184 172) _ _ _ _
        exact lw_write hC hM hI hS hL (by omega) hw fin
      · change Go _ (blk 184 235) _ _ _ _
        exact lw_wipe hC hM hI hS hL (by omega) hw fin
      · change Go _ (blk 184 248) _ _ _ _
        exact lw_fault hC hM hI hS hL (by omega) hw fin
      · change Go _ (blk 184 261) _ _ _ _
        exact lw_field hC hM hI hS hL (by omega) hw fin
      · change Go _ (blk 184 284) _ _ _ _
        exact lw_corner hC hM hI hS hL (by omega) hw fin
      · change Go _ (blk 184 327) _ _ _ _
        exact lw_move hC hM hI hS hL (by omega) hw fin
      · change Go _ (blk 184 380) _ _ _ _
        exact lw_put hC hM hI hS hL (by omega) hw fin
      · change Go _ (blk 184 433) _ _ _ _
        exact lw_take hC hM hI hS hL (by omega) hw fin
      · change Go _ (blk 184 466) _ _ _ _
        exact lw_turn hC hM hI hS hL (by omega) hw fin
      · change Go _ (blk 184 499) _ _ _ _
        exact lw_shift hC hM hI hS hL (by omega) hw fin
      · change Go _ (blk 184 542) _ _ _ _
        exact lw_sound hC hM hI hS hL (by omega) hw fin
      · change Go _ (blk 184 565) _ _ _ _
        exact lw_about hC hM hI hS hL (by omega) hw fin
      · change Go _ (blk 184 598) _ _ _ _
        exact lw_where hC hM hI hS hL (by omega) hw fin
      · change Go _ (blk 184 641) _ _ _ _
        exact lw_how hC hM hI hS hL (by omega) hw fin
      · change Go _ (blk 184 674) _ _ _ _
        exact lw_wide hC hM hI hS hL (by omega) hw fin
      · change Go _ (blk 184 717) _ _ _ _
        exact lw_narrow hC hM hI hS hL (by omega) hw fin
      · change Go _ (blk 184 750) _ _ _ _
        exact lw_grown hC hM hI hS hL (by omega) hw fin
      · change Go _ (blk 184 784) _ _ _ _
        exact lw_hull hC hM hI hS hL (by omega) hw fin
      · change Go _ (blk 184 817) _ _ _ _
        exact lw_sees hC hM hI hS hL (by omega) hw fin
      · change Go _ (blk 184 860) _ _ _ _
        exact lw_strip hC hM hI hS hL (by omega) hw fin
      · change Go _ (blk 184 903) _ _ _ _
        exact lw_least hC hM hI hS hL (by omega) hw fin
      · change Go _ (blk 184 936) _ _ _ _
        exact lw_fair hC hM hI hS hL (by omega) hw fin
      · change Go _ (blk 184 959) _ _ _ _
        exact lw_sides hC hM hI hS hL (by omega) hw fin
      · change Go _ (blk 184 1002) _ _ _ _
        exact lw_guards hC hM hI hS hL (by omega) hw fin
      · change Go _ (blk 184 1025) _ _ _ _
        exact lw_hops hC hM hI hS hL (by omega) hw fin
      · change Go _ (blk 184 1068) _ _ _ _
        exact lw_alike hC hM hI hS hL (by omega) hw fin
      · change Go _ (blk 184 1101) _ _ _ _
        exact lw_mirrored hC hM hI hS hL (by omega) hw fin
      · change Go _ (blk 184 1134) _ _ _ _
        exact lw_common hC hM hI hS hL (by omega) hw fin
      · change Go _ (blk 184 1167) _ _ _ _
        exact lw_keep hC hM hI hS hL (by omega) hw fin
      · change Go _ (blk 184 1190) _ _ _ _
        exact lw_again hC hM hI hS hL (by omega) hw fin
      · change Go _ (blk 184 1213) _ _ _ _
        exact lw_count hC hM hI hS hL (by omega) hw fin
      · change Go _ (blk 184 1236) _ _ _ _
        exact fin h Z M hC hM hI Fr.rf
set_option maxRecDepth 10000 in
theorem law_go {L : Nat} (hL : L ≤ 320) (xs : Nat → Int32) : LawGo L xs := by
  unfold LawGo
  have hS0 : f_get (h0 L xs) 1000000 = .inl (9, L, .inl xs) := rfl
  rw [B184_0, b184_0]
  simp (disch := omega) only [g_iconst, g_lconst, g_iadd, g_isub, g_imul, g_iand, g_ior, g_ishl, g_ishr, g_iushr, g_ladd, g_lsub, g_lmul, g_land, g_lor, g_lcmp, g_ineg, g_lshl, g_lshr, g_i2l, g_l2i, g_dupi, g_dupr, g_pop, g_dup2, g_mabs_0, g_mabs_1, g_mabs_2, g_mabs_3, g_mmax_0, g_mmax_1, g_mmax_2, g_mmax_3, g_mmin_0, g_mmin_1, g_mmin_2, g_mmin_3, g_goto, g_jsr, g_icmp_eq, g_icmp_ne, g_icmp_lt, g_icmp_ge, g_icmp_gt, g_icmp_le, g_if_eq, g_if_ne, g_if_lt, g_if_ge, g_if_gt, g_if_le, g_idiv, g_irem, g_ldiv, g_iload, g_lload, g_aload, g_istore, g_astore, g_lstore, g_iinc, g_getfield, g_putfield, g_iaload, g_baload, g_laload, g_aaload, g_iastore, g_bastore, g_lastore, g_arraylength, g_call0_0, g_call0_1, g_call0_2, g_call0_3, g_call0_4, g_call1_0, g_call1_1, g_call1_2, g_call1_3, g_call1_4, g_call2_0, g_call2_1, g_call2_2, g_call2_3, g_call2_4, g_call3_0, g_call3_1, g_call3_2, g_call3_3, g_call3_4, g_call4_0, g_call4_1, g_call4_2, g_call4_3, g_call4_4, g_call5_0, g_call5_1, g_call5_2, g_call5_3, g_call5_4, g_call6_0, g_call6_1, g_call6_2, g_call6_3, g_call6_4, g_ireturn, g_lreturn, g_return, g_zreturn, sto_0, sto_s, sto2_0, sto2_s, isL_i, isL_r, isL_l, isL_j, ldI_0, ldI_9, ldZ_2, ldL_1, ldQ_3, stI_0, stL_1, stZ_2, gF_o, pF_o, lenA_9, oB_some, vI_i, vJ_j, vR_r, Option.map_some, List.getElem?_cons_zero, List.getElem?_cons_succ, Nat.reduceDiv, Nat.reduceMod, Int.reduceToNat, true_and, and_true, false_and, reduceIte, List.set_cons_zero, List.set_cons_succ, Option.toList_some, Option.toList_none, List.cons_append, List.nil_append, List.length_cons, List.length_nil, Nat.reduceAdd, Nat.reduceLeDiff, Nat.reduceLT, Nat.reduceEqDiff, and_self, and_false, Bool.false_eq_true, g_new5, iI_f, i32_0, i32_1, b2i_0, b2i_n, iI_add, iI_sub, iI_mul, iI_neg, iI_lt, iI_le, iI_eq, iI_in, iI_cl, i_nn, eq_self, true_or, or_true, not_true_eq_false, not_false_eq_true, Int.reduceEq, Int.reduceLT, Int.reduceLE, Int.reduceNeg]
  refine d_init (S := .inl (9, L, .inl xs)) rfl (by rw [fn_2]; show 0 + 8 ≤ 20; omega) rfl (by rw [fg_new_n (by show 1000000 ≠ 0; omega)]; exact hS0) (fun h1 a1 a2 a3 a4 => ?_)
  simp (disch := omega) only [g_iconst, g_lconst, g_iadd, g_isub, g_imul, g_iand, g_ior, g_ishl, g_ishr, g_iushr, g_ladd, g_lsub, g_lmul, g_land, g_lor, g_lcmp, g_ineg, g_lshl, g_lshr, g_i2l, g_l2i, g_dupi, g_dupr, g_pop, g_dup2, g_mabs_0, g_mabs_1, g_mabs_2, g_mabs_3, g_mmax_0, g_mmax_1, g_mmax_2, g_mmax_3, g_mmin_0, g_mmin_1, g_mmin_2, g_mmin_3, g_goto, g_jsr, g_icmp_eq, g_icmp_ne, g_icmp_lt, g_icmp_ge, g_icmp_gt, g_icmp_le, g_if_eq, g_if_ne, g_if_lt, g_if_ge, g_if_gt, g_if_le, g_idiv, g_irem, g_ldiv, g_iload, g_lload, g_aload, g_istore, g_astore, g_lstore, g_iinc, g_getfield, g_putfield, g_iaload, g_baload, g_laload, g_aaload, g_iastore, g_bastore, g_lastore, g_arraylength, g_call0_0, g_call0_1, g_call0_2, g_call0_3, g_call0_4, g_call1_0, g_call1_1, g_call1_2, g_call1_3, g_call1_4, g_call2_0, g_call2_1, g_call2_2, g_call2_3, g_call2_4, g_call3_0, g_call3_1, g_call3_2, g_call3_3, g_call3_4, g_call4_0, g_call4_1, g_call4_2, g_call4_3, g_call4_4, g_call5_0, g_call5_1, g_call5_2, g_call5_3, g_call5_4, g_call6_0, g_call6_1, g_call6_2, g_call6_3, g_call6_4, g_ireturn, g_lreturn, g_return, g_zreturn, sto_0, sto_s, sto2_0, sto2_s, isL_i, isL_r, isL_l, isL_j, ldI_0, ldI_9, ldZ_2, ldL_1, ldQ_3, stI_0, stL_1, stZ_2, gF_o, pF_o, lenA_9, oB_some, vI_i, vJ_j, vR_r, Option.map_some, List.getElem?_cons_zero, List.getElem?_cons_succ, Nat.reduceDiv, Nat.reduceMod, Int.reduceToNat, true_and, and_true, false_and, reduceIte, List.set_cons_zero, List.set_cons_succ, Option.toList_some, Option.toList_none, List.cons_append, List.nil_append, List.length_cons, List.length_nil, Nat.reduceAdd, Nat.reduceLeDiff, Nat.reduceLT, Nat.reduceEqDiff, and_self, and_false, Bool.false_eq_true, g_new6, isL, jk, a1, iI_f, i32_0, i32_1, b2i_0, b2i_n, iI_add, iI_sub, iI_mul, iI_neg, iI_lt, iI_le, iI_eq, iI_in, iI_cl, i_nn, eq_self, true_or, or_true, not_true_eq_false, not_false_eq_true, Int.reduceEq, Int.reduceLT, Int.reduceLE, Int.reduceNeg]
  refine m_init (by rw [fn_1, a1]) (by rw [fn_2]; omega) (by rw [fg_new_s a1.symm]; rfl) (fun h2 b1 b2 b3 b4 => ?_)
  have hC2 : Cls h2 Z0 := a3.ex (fun k hk => by rw [b4 k (by omega), fg_new_n (by omega)])
  have hS2 : f_get h2 SL = .inl (9, L, .inl (fun j => iI (xs j).toInt)) := by
    show f_get h2 1000000 = _
    rw [b4 1000000 (by omega), fg_new_n (by omega), a4]
    congr 4
    funext j
    exact iI_of (xs j)
  simp (disch := omega) only [g_iconst, g_lconst, g_iadd, g_isub, g_imul, g_iand, g_ior, g_ishl, g_ishr, g_iushr, g_ladd, g_lsub, g_lmul, g_land, g_lor, g_lcmp, g_ineg, g_lshl, g_lshr, g_i2l, g_l2i, g_dupi, g_dupr, g_pop, g_dup2, g_mabs_0, g_mabs_1, g_mabs_2, g_mabs_3, g_mmax_0, g_mmax_1, g_mmax_2, g_mmax_3, g_mmin_0, g_mmin_1, g_mmin_2, g_mmin_3, g_goto, g_jsr, g_icmp_eq, g_icmp_ne, g_icmp_lt, g_icmp_ge, g_icmp_gt, g_icmp_le, g_if_eq, g_if_ne, g_if_lt, g_if_ge, g_if_gt, g_if_le, g_idiv, g_irem, g_ldiv, g_iload, g_lload, g_aload, g_istore, g_astore, g_lstore, g_iinc, g_getfield, g_putfield, g_iaload, g_baload, g_laload, g_aaload, g_iastore, g_bastore, g_lastore, g_arraylength, g_call0_0, g_call0_1, g_call0_2, g_call0_3, g_call0_4, g_call1_0, g_call1_1, g_call1_2, g_call1_3, g_call1_4, g_call2_0, g_call2_1, g_call2_2, g_call2_3, g_call2_4, g_call3_0, g_call3_1, g_call3_2, g_call3_3, g_call3_4, g_call4_0, g_call4_1, g_call4_2, g_call4_3, g_call4_4, g_call5_0, g_call5_1, g_call5_2, g_call5_3, g_call5_4, g_call6_0, g_call6_1, g_call6_2, g_call6_3, g_call6_4, g_ireturn, g_lreturn, g_return, g_zreturn, sto_0, sto_s, sto2_0, sto2_s, isL_i, isL_r, isL_l, isL_j, ldI_0, ldI_9, ldZ_2, ldL_1, ldQ_3, stI_0, stL_1, stZ_2, gF_o, pF_o, lenA_9, oB_some, vI_i, vJ_j, vR_r, Option.map_some, List.getElem?_cons_zero, List.getElem?_cons_succ, Nat.reduceDiv, Nat.reduceMod, Int.reduceToNat, true_and, and_true, false_and, reduceIte, List.set_cons_zero, List.set_cons_succ, Option.toList_some, Option.toList_none, List.cons_append, List.nil_append, List.length_cons, List.length_nil, Nat.reduceAdd, Nat.reduceLeDiff, Nat.reduceLT, Nat.reduceEqDiff, and_self, and_false, Bool.false_eq_true, isL, iI_f, i32_0, i32_1, b2i_0, b2i_n, iI_add, iI_sub, iI_mul, iI_neg, iI_lt, iI_le, iI_eq, iI_in, iI_cl, i_nn, eq_self, true_or, or_true, not_true_eq_false, not_false_eq_true, Int.reduceEq, Int.reduceLT, Int.reduceLE, Int.reduceNeg]
  exact l_law hL (fun j => I32_of (xs j)) 64 0 h2 Z0 M0 (by omega) (by omega) hC2 b3 Inv0 hS2 b1 b2
