/-! The constructor of the reference. -/
theorem fk192 : fk 192 = 1 := rfl
theorem fk194 : fk 194 = 1 := rfl
theorem fk195 : fk 195 = 1 := rfl
theorem fk197 : fk 197 = 1 := rfl
theorem fk198 : fk 198 = 1 := rfl
theorem fk199 : fk 199 = 1 := rfl
theorem fk200 : fk 200 = 1 := rfl
theorem fk201 : fk 201 = 1 := rfl
theorem fk202 : fk 202 = 1 := rfl
theorem fk203 : fk 203 = 1 := rfl
theorem fk205 : fk 205 = 1 := rfl
theorem fk206 : fk 206 = 1 := rfl
theorem fk207 : fk 207 = 1 := rfl
theorem fk208 : fk 208 = 1 := rfl
theorem fk209 : fk 209 = 1 := rfl
theorem fk210 : fk 210 = 1 := rfl
theorem fk216 : fk 216 = 1 := rfl
theorem fk217 : fk 217 = 1 := rfl
theorem fk218 : fk 218 = 1 := rfl
theorem fk219 : fk 219 = 1 := rfl
/-- the reference at its start -/
def M0 : MZ := (0, fun _ => 0, fun _ => 0, fun _ => 0, fun _ => 0, fun _ => false, fun _ => 0, fun _ => 0, fun _ => 0)
theorem M0_ok : Mok M0 := ⟨Nat.zero_le _, fun j hj => absurd hj (Nat.not_lt_zero j), fun f hf => ⟨Nat.zero_le _, fun i hi => absurd hi (Nat.not_lt_zero i)⟩⟩
set_option maxRecDepth 20000 in
set_option maxHeartbeats 4000000 in
theorem m_init {h : fH} (hl : h.1 = 57) (h2 : h.2.1 ≤ 20000) (h0 : f_get h 56 = .inr (6, [.null, .int 0, .null, .null, .int 0, .null, .null, .null, .null, .null, .null, .null, .int 0, .null, .null, .null, .null, .null, .null, .int 0, .int 0, .int 0, .int 0, .int 0, .null, .null, .null, .null])) {Q : Option Value → fH → Prop} (hq : ∀ h', h'.1 = 77 → h'.2.1 ≤ 30000 → Mdl h' M0 → (∀ k, k < 56 ∨ 77 ≤ k → f_get h' k = f_get h k) → Q none h') : Call 111 [.ref 56] h Q := by
  refine ⟨by simp [vOK, entL, isL, mlT, kdT, clT, isO, h0], rfl, ?_⟩
  rw [show ent 111 [.ref 56] = [.ref 56] from rfl]
  simp (maxSteps := 4000000) (disch := omega) only [B111_0, b111_0, g_iconst, g_lconst, g_iadd, g_isub, g_imul, g_iand, g_ior, g_ishl, g_ishr, g_iushr, g_ladd, g_lsub, g_lmul, g_land, g_lor, g_lcmp, g_ineg, g_lshl, g_lshr, g_i2l, g_l2i, g_dupi, g_dupr, g_pop, g_dup2, g_mabs_0, g_mabs_1, g_mabs_2, g_mabs_3, g_mmax_0, g_mmax_1, g_mmax_2, g_mmax_3, g_mmin_0, g_mmin_1, g_mmin_2, g_mmin_3, g_goto, g_jsr, g_icmp_eq, g_icmp_ne, g_icmp_lt, g_icmp_ge, g_icmp_gt, g_icmp_le, g_if_eq, g_if_ne, g_if_lt, g_if_ge, g_if_gt, g_if_le, g_idiv, g_irem, g_ldiv, g_iload, g_lload, g_aload, g_istore, g_astore, g_lstore, g_iinc, g_getfield, g_putfield, g_iaload, g_baload, g_laload, g_aaload, g_iastore, g_bastore, g_lastore, g_arraylength, g_call0_0, g_call0_1, g_call0_2, g_call0_3, g_call0_4, g_call1_0, g_call1_1, g_call1_2, g_call1_3, g_call1_4, g_call2_0, g_call2_1, g_call2_2, g_call2_3, g_call2_4, g_call3_0, g_call3_1, g_call3_2, g_call3_3, g_call3_4, g_call4_0, g_call4_1, g_call4_2, g_call4_3, g_call4_4, g_call5_0, g_call5_1, g_call5_2, g_call5_3, g_call5_4, g_call6_0, g_call6_1, g_call6_2, g_call6_3, g_call6_4, g_ireturn, g_lreturn, g_return, g_zreturn, sto_0, sto_s, sto2_0, sto2_s, isL_i, isL_r, isL_l, isL_j, ldI_0, ldI_9, ldZ_2, ldL_1, ldQ_3, stI_0, stL_1, stZ_2, gF_o, pF_o, lenA_9, oB_some, vI_i, vJ_j, vR_r, Option.map_some, List.getElem?_cons_zero, List.getElem?_cons_succ, Nat.reduceDiv, Nat.reduceMod, Int.reduceToNat, true_and, and_true, false_and, reduceIte, List.set_cons_zero, List.set_cons_succ, Option.toList_some, Option.toList_none, List.cons_append, List.nil_append, List.length_cons, List.length_nil, Nat.reduceAdd, Nat.reduceLeDiff, Nat.reduceLT, Nat.reduceEqDiff, and_self, and_false, Bool.false_eq_true, g_mon, g_newI, g_newZ, hl, h0, fn_1, fs_1, fg_new, fg_st_s, fk192, fk194, fk195, fk197, fk198, fk199, fk200, fk201, fk202, fk203, fk205, fk206, fk207, fk208, fk209, fk210, fk216, fk217, fk218, fk219, fk193, fit_r, fit_i, iI_f, i32_0, i32_1, b2i_0, b2i_n, iI_add, iI_sub, iI_mul, iI_neg, iI_lt, iI_le, iI_eq, iI_in, iI_cl, i_nn, eq_self, true_or, or_true, not_true_eq_false, not_false_eq_true, Int.reduceEq, Int.reduceLT, Int.reduceLE, Int.reduceNeg]
  refine hq _ ?_ ?_ ?_ ?_
  · simp only [fn_1, fs_1, hl]
  · simp only [fn_2, fs_2]; omega
  · refine ⟨⟨(0, 0, 0, 0, 0, 0, 0, 0), rfl, ?_⟩, ?_, ⟨?_, ?_, ?_⟩, ⟨?_, ?_, ?_, ?_⟩, ⟨fun _ => 0, ?_⟩, ⟨fun _ => 0, ?_⟩, ⟨fun _ => 0, ?_⟩, ⟨fun _ => 0, ?_⟩, ⟨fun _ => 0, ?_⟩, ⟨fun _ => 0, ?_⟩, ⟨fun _ => false, ?_⟩, ⟨fun _ => false, ?_⟩, ⟨fun _ => 0, ?_⟩, ⟨fun _ => 0, ?_⟩, ⟨fun _ => 0, ?_⟩, ⟨fun _ => 0, ?_⟩⟩
    all_goals first | unfold Mob | unfold Row | unfold Bol
    all_goals simp only [fg_st, fg_new, fs_1, fn_1, hl, Nat.reduceEqDiff, Nat.reduceAdd, reduceIte]
    all_goals rfl
  · intro k hk
    simp only [fg_st, fg_new, fs_1, fn_1, hl, Nat.reduceAdd]
    repeat rw [if_neg (by omega)]
