/-! The reference: hull. -/
/-- the first corner so far, and whether all are in one line -/
def h1S (X Y : Nat → Int) (n i : Nat) (s : Nat × Bool) : Nat × Bool := (stS X Y i s.1, s.2 && (decide (n < 2) || decide (sd X Y 0 1 i = 0)))
set_option maxRecDepth 10000 in
set_option maxHeartbeats 1000000 in
theorem l_mhull1 {h : fH} {o : MO} {x y : Nat → Int} {m : Nat → Nat} (hF : Fld h o x y m) (hK : Fok x y m) {f g : Nat} (hg : g < 4) {T : Nat × Bool} {z6 z7 z8 : Value} {Q : Option Value → fH → Prop} (hq : ∀ z5, isL z5 = false → Go 150 (blk 150 148) [.ref 56, .int (iI f), .int (iI g), .int (iI ((10 * g + T.1 : Nat) : Int)), .int (iI (b2i T.2)), z5, z6, z7, z8] [] h Q) : ∀ (d i : Nat) (s : Nat × Bool), i + d = m g → (i < m g → s.1 < m g) → T = itF (h1S (fw x g) (fw y g) (m g)) i d s →
    Go 150 (blk 150 30) [.ref 56, .int (iI f), .int (iI g), .int (iI ((10 * g + s.1 : Nat) : Int)), .int (iI (b2i s.2)), .int (iI ((10 * g + i : Nat) : Int)), z6, z7, z8] [] h Q := by
  obtain ⟨ho, h1, h2, h3⟩ := id hF; unfold Mob at ho; unfold Row at h1 h2 h3
  have mp := (hK g hg).1
  intro d
  induction d with
  | zero =>
    intro i s hi hs eT
    rw [itF] at eT
    subst eT
    rw [B150_30, b150_30]
    simp (disch := omega) only [g_iconst, g_lconst, g_iadd, g_isub, g_imul, g_iand, g_ior, g_ishl, g_ishr, g_iushr, g_ladd, g_lsub, g_lmul, g_land, g_lor, g_lcmp, g_ineg, g_lshl, g_lshr, g_i2l, g_l2i, g_dupi, g_dupr, g_pop, g_dup2, g_mabs_0, g_mabs_1, g_mabs_2, g_mabs_3, g_mmax_0, g_mmax_1, g_mmax_2, g_mmax_3, g_mmin_0, g_mmin_1, g_mmin_2, g_mmin_3, g_goto, g_jsr, g_icmp_eq, g_icmp_ne, g_icmp_lt, g_icmp_ge, g_icmp_gt, g_icmp_le, g_if_eq, g_if_ne, g_if_lt, g_if_ge, g_if_gt, g_if_le, g_idiv, g_irem, g_ldiv, g_iload, g_lload, g_aload, g_istore, g_astore, g_lstore, g_iinc, g_getfield, g_putfield, g_iaload, g_baload, g_laload, g_aaload, g_iastore, g_bastore, g_lastore, g_arraylength, g_call0_0, g_call0_1, g_call0_2, g_call0_3, g_call0_4, g_call1_0, g_call1_1, g_call1_2, g_call1_3, g_call1_4, g_call2_0, g_call2_1, g_call2_2, g_call2_3, g_call2_4, g_call3_0, g_call3_1, g_call3_2, g_call3_3, g_call3_4, g_call4_0, g_call4_1, g_call4_2, g_call4_3, g_call4_4, g_call5_0, g_call5_1, g_call5_2, g_call5_3, g_call5_4, g_call6_0, g_call6_1, g_call6_2, g_call6_3, g_call6_4, g_ireturn, g_lreturn, g_return, g_zreturn, sto_0, sto_s, sto2_0, sto2_s, isL_i, isL_r, isL_l, isL_j, ldI_0, ldI_9, ldZ_2, ldL_1, ldQ_3, stI_0, stL_1, stZ_2, gF_o, pF_o, lenA_9, oB_some, vI_i, vJ_j, vR_r, Option.map_some, List.getElem?_cons_zero, List.getElem?_cons_succ, Nat.reduceDiv, Nat.reduceMod, Int.reduceToNat, true_and, and_true, false_and, reduceIte, List.set_cons_zero, List.set_cons_succ, Option.toList_some, Option.toList_none, List.cons_append, List.nil_append, List.length_cons, List.length_nil, Nat.reduceAdd, Nat.reduceLeDiff, Nat.reduceLT, Nat.reduceEqDiff, and_self, and_false, Bool.false_eq_true, ho, h3, iI_f, i32_0, i32_1, b2i_0, b2i_n, iI_add, iI_sub, iI_mul, iI_neg, iI_lt, iI_le, iI_eq, iI_in, iI_cl, i_nn, eq_self, true_or, or_true, not_true_eq_false, not_false_eq_true, Int.reduceEq, Int.reduceLT, Int.reduceLE, Int.reduceNeg]
    exact ite_t (by omega) (hq _ rfl)
  | succ d ih =>
    intro i s hi hs eT
    have hin : i < m g := by omega
    have hsn := hs hin
    have q1 := (hK g hg).2 i hin
    have q2 := (hK g hg).2 s.1 hsn
    have p1 := (hK.at (Pl.of hg hin mp)).1
    have p2 := (hK.at (Pl.of hg hsn mp)).1
    rw [itF] at eT
    have sl : stS (fw x g) (fw y g) i s.1 < m g := by unfold stS; split <;> omega
    have fin : ∀ (b : Bool), b = (s.2 && (decide (m g < 2) || decide (sd (fw x g) (fw y g) 0 1 i = 0))) → Go 150 (blk 150 140) [.ref 56, .int (iI f), .int (iI g), .int (iI ((10 * g + stS (fw x g) (fw y g) i s.1 : Nat) : Int)), .int (iI (b2i s.2)), .int (iI ((10 * g + i : Nat) : Int)), z6, z7, z8] [.int (iI (b2i b))] h Q := by
      intro b eb
      have w := ih (i + 1) (stS (fw x g) (fw y g) i s.1, b) (by omega) (fun _ => sl) (by rw [eT]; unfold h1S; rw [eb])
      rw [B150_140, b150_140]
      simp (disch := omega) only [g_iconst, g_lconst, g_iadd, g_isub, g_imul, g_iand, g_ior, g_ishl, g_ishr, g_iushr, g_ladd, g_lsub, g_lmul, g_land, g_lor, g_lcmp, g_ineg, g_lshl, g_lshr, g_i2l, g_l2i, g_dupi, g_dupr, g_pop, g_dup2, g_mabs_0, g_mabs_1, g_mabs_2, g_mabs_3, g_mmax_0, g_mmax_1, g_mmax_2, g_mmax_3, g_mmin_0, g_mmin_1, g_mmin_2, g_mmin_3, g_goto, g_jsr, g_icmp_eq, g_icmp_ne, g_icmp_lt, g_icmp_ge, g_icmp_gt, g_icmp_le, g_if_eq, g_if_ne, g_if_lt, g_if_ge, g_if_gt, g_if_le, g_idiv, g_irem, g_ldiv, g_iload, g_lload, g_aload, g_istore, g_astore, g_lstore, g_iinc, g_getfield, g_putfield, g_iaload, g_baload, g_laload, g_aaload, g_iastore, g_bastore, g_lastore, g_arraylength, g_call0_0, g_call0_1, g_call0_2, g_call0_3, g_call0_4, g_call1_0, g_call1_1, g_call1_2, g_call1_3, g_call1_4, g_call2_0, g_call2_1, g_call2_2, g_call2_3, g_call2_4, g_call3_0, g_call3_1, g_call3_2, g_call3_3, g_call3_4, g_call4_0, g_call4_1, g_call4_2, g_call4_3, g_call4_4, g_call5_0, g_call5_1, g_call5_2, g_call5_3, g_call5_4, g_call6_0, g_call6_1, g_call6_2, g_call6_3, g_call6_4, g_ireturn, g_lreturn, g_return, g_zreturn, sto_0, sto_s, sto2_0, sto2_s, isL_i, isL_r, isL_l, isL_j, ldI_0, ldI_9, ldZ_2, ldL_1, ldQ_3, stI_0, stL_1, stZ_2, gF_o, pF_o, lenA_9, oB_some, vI_i, vJ_j, vR_r, Option.map_some, List.getElem?_cons_zero, List.getElem?_cons_succ, Nat.reduceDiv, Nat.reduceMod, Int.reduceToNat, true_and, and_true, false_and, reduceIte, List.set_cons_zero, List.set_cons_succ, Option.toList_some, Option.toList_none, List.cons_append, List.nil_append, List.length_cons, List.length_nil, Nat.reduceAdd, Nat.reduceLeDiff, Nat.reduceLT, Nat.reduceEqDiff, and_self, and_false, Bool.false_eq_true, iI_f, i32_0, i32_1, b2i_0, b2i_n, iI_add, iI_sub, iI_mul, iI_neg, iI_lt, iI_le, iI_eq, iI_in, iI_cl, i_nn, eq_self, true_or, or_true, not_true_eq_false, not_false_eq_true, Int.reduceEq, Int.reduceLT, Int.reduceLE, Int.reduceNeg]
      rw [show ((10 * g + (i + 1) : Nat) : Int) = ((10 * g + i : Nat) : Int) + 1 by omega] at w
      exact w
    have f1 := fin true
    have f0 := fin false
    rw [show b2i true = 1 from rfl] at f1
    rw [show b2i false = 0 from rfl] at f0
    have k100 : Go 150 (blk 150 100) [.ref 56, .int (iI f), .int (iI g), .int (iI ((10 * g + s.1 : Nat) : Int)), .int (iI (b2i s.2)), .int (iI ((10 * g + i : Nat) : Int)), z6, z7, z8] [.int (iI ((10 * g + stS (fw x g) (fw y g) i s.1 : Nat) : Int))] h Q := by
      rw [B150_100, b150_100]
      by_cases c0 : m g < 2
      · simp (disch := omega) only [B150_135, b150_135, B150_139, b150_139, g_iconst, g_lconst, g_iadd, g_isub, g_imul, g_iand, g_ior, g_ishl, g_ishr, g_iushr, g_ladd, g_lsub, g_lmul, g_land, g_lor, g_lcmp, g_ineg, g_lshl, g_lshr, g_i2l, g_l2i, g_dupi, g_dupr, g_pop, g_dup2, g_mabs_0, g_mabs_1, g_mabs_2, g_mabs_3, g_mmax_0, g_mmax_1, g_mmax_2, g_mmax_3, g_mmin_0, g_mmin_1, g_mmin_2, g_mmin_3, g_goto, g_jsr, g_icmp_eq, g_icmp_ne, g_icmp_lt, g_icmp_ge, g_icmp_gt, g_icmp_le, g_if_eq, g_if_ne, g_if_lt, g_if_ge, g_if_gt, g_if_le, g_idiv, g_irem, g_ldiv, g_iload, g_lload, g_aload, g_istore, g_astore, g_lstore, g_iinc, g_getfield, g_putfield, g_iaload, g_baload, g_laload, g_aaload, g_iastore, g_bastore, g_lastore, g_arraylength, g_call0_0, g_call0_1, g_call0_2, g_call0_3, g_call0_4, g_call1_0, g_call1_1, g_call1_2, g_call1_3, g_call1_4, g_call2_0, g_call2_1, g_call2_2, g_call2_3, g_call2_4, g_call3_0, g_call3_1, g_call3_2, g_call3_3, g_call3_4, g_call4_0, g_call4_1, g_call4_2, g_call4_3, g_call4_4, g_call5_0, g_call5_1, g_call5_2, g_call5_3, g_call5_4, g_call6_0, g_call6_1, g_call6_2, g_call6_3, g_call6_4, g_ireturn, g_lreturn, g_return, g_zreturn, sto_0, sto_s, sto2_0, sto2_s, isL_i, isL_r, isL_l, isL_j, ldI_0, ldI_9, ldZ_2, ldL_1, ldQ_3, stI_0, stL_1, stZ_2, gF_o, pF_o, lenA_9, oB_some, vI_i, vJ_j, vR_r, Option.map_some, List.getElem?_cons_zero, List.getElem?_cons_succ, Nat.reduceDiv, Nat.reduceMod, Int.reduceToNat, true_and, and_true, false_and, reduceIte, List.set_cons_zero, List.set_cons_succ, Option.toList_some, Option.toList_none, List.cons_append, List.nil_append, List.length_cons, List.length_nil, Nat.reduceAdd, Nat.reduceLeDiff, Nat.reduceLT, Nat.reduceEqDiff, and_self, and_false, Bool.false_eq_true, ho, h3, iI_f, i32_0, i32_1, b2i_0, b2i_n, iI_add, iI_sub, iI_mul, iI_neg, iI_lt, iI_le, iI_eq, iI_in, iI_cl, i_nn, eq_self, true_or, or_true, not_true_eq_false, not_false_eq_true, Int.reduceEq, Int.reduceLT, Int.reduceLE, Int.reduceNeg]
        refine ite_c (fun c1 => ?_) (fun c1 => ?_)
        · exact f0 (by rw [c1]; rfl)
        · rw [b2i_n] at c1
          exact ite_t (by omega) (f1 (by rw [c1, decide_eq_true c0]; rfl))
      · have cs := m_side hF hK (Pl.of hg (show 0 < m g by omega) mp) (Pl.of hg (show 1 < m g by omega) mp) (Pl.of hg hin mp)
        have sb := fok_sd hK (Pl.of hg (show 0 < m g by omega) mp) (Pl.of hg (show 1 < m g by omega) mp) (Pl.of hg hin mp)
        have e5 : sd x y (10 * g + 0) (10 * g + 1) (10 * g + i) = sd (fw x g) (fw y g) 0 1 i := rfl
        rw [e5] at cs sb
        rw [show ((10 * g + 0 : Nat) : Int) = 10 * (g : Int) by omega, show ((10 * g + 1 : Nat) : Int) = 10 * (g : Int) + 1 by omega] at cs
        simp (disch := omega) only [B150_135, b150_135, B150_139, b150_139, g_iconst, g_lconst, g_iadd, g_isub, g_imul, g_iand, g_ior, g_ishl, g_ishr, g_iushr, g_ladd, g_lsub, g_lmul, g_land, g_lor, g_lcmp, g_ineg, g_lshl, g_lshr, g_i2l, g_l2i, g_dupi, g_dupr, g_pop, g_dup2, g_mabs_0, g_mabs_1, g_mabs_2, g_mabs_3, g_mmax_0, g_mmax_1, g_mmax_2, g_mmax_3, g_mmin_0, g_mmin_1, g_mmin_2, g_mmin_3, g_goto, g_jsr, g_icmp_eq, g_icmp_ne, g_icmp_lt, g_icmp_ge, g_icmp_gt, g_icmp_le, g_if_eq, g_if_ne, g_if_lt, g_if_ge, g_if_gt, g_if_le, g_idiv, g_irem, g_ldiv, g_iload, g_lload, g_aload, g_istore, g_astore, g_lstore, g_iinc, g_getfield, g_putfield, g_iaload, g_baload, g_laload, g_aaload, g_iastore, g_bastore, g_lastore, g_arraylength, g_call0_0, g_call0_1, g_call0_2, g_call0_3, g_call0_4, g_call1_0, g_call1_1, g_call1_2, g_call1_3, g_call1_4, g_call2_0, g_call2_1, g_call2_2, g_call2_3, g_call2_4, g_call3_0, g_call3_1, g_call3_2, g_call3_3, g_call3_4, g_call4_0, g_call4_1, g_call4_2, g_call4_3, g_call4_4, g_call5_0, g_call5_1, g_call5_2, g_call5_3, g_call5_4, g_call6_0, g_call6_1, g_call6_2, g_call6_3, g_call6_4, g_ireturn, g_lreturn, g_return, g_zreturn, sto_0, sto_s, sto2_0, sto2_s, isL_i, isL_r, isL_l, isL_j, ldI_0, ldI_9, ldZ_2, ldL_1, ldQ_3, stI_0, stL_1, stZ_2, gF_o, pF_o, lenA_9, oB_some, vI_i, vJ_j, vR_r, Option.map_some, List.getElem?_cons_zero, List.getElem?_cons_succ, Nat.reduceDiv, Nat.reduceMod, Int.reduceToNat, true_and, and_true, false_and, reduceIte, List.set_cons_zero, List.set_cons_succ, Option.toList_some, Option.toList_none, List.cons_append, List.nil_append, List.length_cons, List.length_nil, Nat.reduceAdd, Nat.reduceLeDiff, Nat.reduceLT, Nat.reduceEqDiff, and_self, and_false, Bool.false_eq_true, ho, h3, cs, iI_f, i32_0, i32_1, b2i_0, b2i_n, iI_add, iI_sub, iI_mul, iI_neg, iI_lt, iI_le, iI_eq, iI_in, iI_cl, i_nn, eq_self, true_or, or_true, not_true_eq_false, not_false_eq_true, Int.reduceEq, Int.reduceLT, Int.reduceLE, Int.reduceNeg]
        refine ite_c (fun c1 => ?_) (fun c1 => ite_f (by omega) (ite_c (fun c2 => ?_) (fun c2 => ?_)))
        · exact f0 (by rw [c1]; rfl)
        · exact f0 (by rw [decide_eq_false c0, decide_eq_false c2]; simp)
        · rw [b2i_n] at c1
          exact f1 (by rw [c1, decide_eq_true (Classical.byContradiction c2)]; simp)
    rw [B150_30, b150_30]
    simp (disch := omega) only [B150_94, b150_94, B150_99, b150_99, g_iconst, g_lconst, g_iadd, g_isub, g_imul, g_iand, g_ior, g_ishl, g_ishr, g_iushr, g_ladd, g_lsub, g_lmul, g_land, g_lor, g_lcmp, g_ineg, g_lshl, g_lshr, g_i2l, g_l2i, g_dupi, g_dupr, g_pop, g_dup2, g_mabs_0, g_mabs_1, g_mabs_2, g_mabs_3, g_mmax_0, g_mmax_1, g_mmax_2, g_mmax_3, g_mmin_0, g_mmin_1, g_mmin_2, g_mmin_3, g_goto, g_jsr, g_icmp_eq, g_icmp_ne, g_icmp_lt, g_icmp_ge, g_icmp_gt, g_icmp_le, g_if_eq, g_if_ne, g_if_lt, g_if_ge, g_if_gt, g_if_le, g_idiv, g_irem, g_ldiv, g_iload, g_lload, g_aload, g_istore, g_astore, g_lstore, g_iinc, g_getfield, g_putfield, g_iaload, g_baload, g_laload, g_aaload, g_iastore, g_bastore, g_lastore, g_arraylength, g_call0_0, g_call0_1, g_call0_2, g_call0_3, g_call0_4, g_call1_0, g_call1_1, g_call1_2, g_call1_3, g_call1_4, g_call2_0, g_call2_1, g_call2_2, g_call2_3, g_call2_4, g_call3_0, g_call3_1, g_call3_2, g_call3_3, g_call3_4, g_call4_0, g_call4_1, g_call4_2, g_call4_3, g_call4_4, g_call5_0, g_call5_1, g_call5_2, g_call5_3, g_call5_4, g_call6_0, g_call6_1, g_call6_2, g_call6_3, g_call6_4, g_ireturn, g_lreturn, g_return, g_zreturn, sto_0, sto_s, sto2_0, sto2_s, isL_i, isL_r, isL_l, isL_j, ldI_0, ldI_9, ldZ_2, ldL_1, ldQ_3, stI_0, stL_1, stZ_2, gF_o, pF_o, lenA_9, oB_some, vI_i, vJ_j, vR_r, Option.map_some, List.getElem?_cons_zero, List.getElem?_cons_succ, Nat.reduceDiv, Nat.reduceMod, Int.reduceToNat, true_and, and_true, false_and, reduceIte, List.set_cons_zero, List.set_cons_succ, Option.toList_some, Option.toList_none, List.cons_append, List.nil_append, List.length_cons, List.length_nil, Nat.reduceAdd, Nat.reduceLeDiff, Nat.reduceLT, Nat.reduceEqDiff, and_self, and_false, Bool.false_eq_true, ho, h1, h2, h3, iI_f, i32_0, i32_1, b2i_0, b2i_n, iI_add, iI_sub, iI_mul, iI_neg, iI_lt, iI_le, iI_eq, iI_in, iI_cl, i_nn, eq_self, true_or, or_true, not_true_eq_false, not_false_eq_true, Int.reduceEq, Int.reduceLT, Int.reduceLE, Int.reduceNeg]
    refine ite_f (by omega) (ite_c (fun c1 => ?_) (fun c1 => ite_c (fun c2 => ?_) (fun c2 => ite_c (fun c3 => ?_) (fun c3 => ?_))))
    · have e : stS (fw x g) (fw y g) i s.1 = i := by unfold stS; rw [if_pos (c := fw x g i < fw x g s.1 ∨ (fw x g i = fw x g s.1 ∧ fw y g i < fw y g s.1)) (Or.inl c1)]
      rw [e] at k100; exact k100
    · have e : stS (fw x g) (fw y g) i s.1 = s.1 := by unfold stS; rw [if_neg (fun q => q.elim c1 (fun q => c2 q.1))]
      rw [e] at k100; exact k100
    · have e : stS (fw x g) (fw y g) i s.1 = s.1 := by unfold stS; rw [if_neg (fun q => q.elim c1 (fun q => absurd q.2 (Int.not_lt.mpr c3)))]
      rw [e] at k100; exact k100
    · have e : stS (fw x g) (fw y g) i s.1 = i := by unfold stS; rw [if_pos (c := fw x g i < fw x g s.1 ∨ (fw x g i = fw x g s.1 ∧ fw y g i < fw y g s.1)) (Or.inr ⟨Classical.byContradiction c2, Int.not_le.mp c3⟩)]
      rw [e] at k100; exact k100
def huS : Nat → Prop := fun k => k = 63 ∨ k = 64
set_option maxRecDepth 10000 in
theorem l_mhull2 {h0 : fH} {M : MZ} (hM : Mdl h0 M) (hK : Mok M) {f g st N : Nat} (hg : g < 4) (h2n : 2 ≤ mM M g) (hst : st < mM M g) (hN : 1 ≤ N) (hN2 : N ≤ 10) (hNe : itr (nxH (fw (mX M) g) (fw (mY M) g) (mM M g)) N st = st) (hNk : ∀ k, 0 < k → k < N → itr (nxH (fw (mX M) g) (fw (mY M) g) (mM M g)) k st ≠ st) {H0 K0 : Nat → Int} {z4 z8 : Value} (l4 : isL z4 = false) {Q : Option Value → fH → Prop} (hq : ∀ h' z6 z7, Row h' 63 10 (fill (fun j => fw (mX M) g (itr (nxH (fw (mX M) g) (fw (mY M) g) (mM M g)) j st)) H0 N) → Row h' 64 10 (fill (fun j => fw (mY M) g (itr (nxH (fw (mX M) g) (fw (mY M) g) (mM M g)) j st)) K0 N) → Fr h0 h' huS → isL z7 = false → Go 150 (blk 150 226) [.ref 56, .int (iI f), .int (iI g), .int (iI ((10 * g + st : Nat) : Int)), z4, .int (iI N), z6, z7, z8] [] h' Q) : ∀ (d k : Nat) (h : fH) (b : Bool), k + d = N → b = decide (k < N) → Row h 63 10 (fill (fun j => fw (mX M) g (itr (nxH (fw (mX M) g) (fw (mY M) g) (mM M g)) j st)) H0 k) → Row h 64 10 (fill (fun j => fw (mY M) g (itr (nxH (fw (mX M) g) (fw (mY M) g) (mM M g)) j st)) K0 k) → Fr h0 h huS →
    Go 150 (blk 150 165) [.ref 56, .int (iI f), .int (iI g), .int (iI ((10 * g + st : Nat) : Int)), z4, .int (iI k), .int (iI ((10 * g + itr (nxH (fw (mX M) g) (fw (mY M) g) (mM M g)) k st : Nat) : Int)), .int (iI (b2i b)), z8] [] h Q := by
  obtain ⟨o, eo, hF0⟩ := hM.fld
  have mp := (hK.2.2 g hg).1
  have lt : ∀ k, itr (nxH (fw (mX M) g) (fw (mY M) g) (mM M g)) k st < mM M g := fun k => by
    cases k with
    | zero => exact hst
    | succ k => exact nxH_lt h2n
  intro d
  induction d with
  | zero =>
    intro k h b hk eb h63 h64 hF
    obtain rfl : k = N := by omega
    rw [decide_eq_false (by omega)] at eb
    subst eb
    rw [B150_165, b150_165]
    simp (disch := omega) only [g_iconst, g_lconst, g_iadd, g_isub, g_imul, g_iand, g_ior, g_ishl, g_ishr, g_iushr, g_ladd, g_lsub, g_lmul, g_land, g_lor, g_lcmp, g_ineg, g_lshl, g_lshr, g_i2l, g_l2i, g_dupi, g_dupr, g_pop, g_dup2, g_mabs_0, g_mabs_1, g_mabs_2, g_mabs_3, g_mmax_0, g_mmax_1, g_mmax_2, g_mmax_3, g_mmin_0, g_mmin_1, g_mmin_2, g_mmin_3, g_goto, g_jsr, g_icmp_eq, g_icmp_ne, g_icmp_lt, g_icmp_ge, g_icmp_gt, g_icmp_le, g_if_eq, g_if_ne, g_if_lt, g_if_ge, g_if_gt, g_if_le, g_idiv, g_irem, g_ldiv, g_iload, g_lload, g_aload, g_istore, g_astore, g_lstore, g_iinc, g_getfield, g_putfield, g_iaload, g_baload, g_laload, g_aaload, g_iastore, g_bastore, g_lastore, g_arraylength, g_call0_0, g_call0_1, g_call0_2, g_call0_3, g_call0_4, g_call1_0, g_call1_1, g_call1_2, g_call1_3, g_call1_4, g_call2_0, g_call2_1, g_call2_2, g_call2_3, g_call2_4, g_call3_0, g_call3_1, g_call3_2, g_call3_3, g_call3_4, g_call4_0, g_call4_1, g_call4_2, g_call4_3, g_call4_4, g_call5_0, g_call5_1, g_call5_2, g_call5_3, g_call5_4, g_call6_0, g_call6_1, g_call6_2, g_call6_3, g_call6_4, g_ireturn, g_lreturn, g_return, g_zreturn, sto_0, sto_s, sto2_0, sto2_s, isL_i, isL_r, isL_l, isL_j, ldI_0, ldI_9, ldZ_2, ldL_1, ldQ_3, stI_0, stL_1, stZ_2, gF_o, pF_o, lenA_9, oB_some, vI_i, vJ_j, vR_r, Option.map_some, List.getElem?_cons_zero, List.getElem?_cons_succ, Nat.reduceDiv, Nat.reduceMod, Int.reduceToNat, true_and, and_true, false_and, reduceIte, List.set_cons_zero, List.set_cons_succ, Option.toList_some, Option.toList_none, List.cons_append, List.nil_append, List.length_cons, List.length_nil, Nat.reduceAdd, Nat.reduceLeDiff, Nat.reduceLT, Nat.reduceEqDiff, and_self, and_false, Bool.false_eq_true, show b2i false = 0 from rfl, iI_f, i32_0, i32_1, b2i_0, b2i_n, iI_add, iI_sub, iI_mul, iI_neg, iI_lt, iI_le, iI_eq, iI_in, iI_cl, i_nn, eq_self, true_or, or_true, not_true_eq_false, not_false_eq_true, Int.reduceEq, Int.reduceLT, Int.reduceLE, Int.reduceNeg]
    exact hq h _ _ h63 h64 hF rfl
  | succ d ih =>
    intro k h b hk eb h63 h64 hF
    have hFl : Fld h o (mX M) (mY M) (mM M) := ⟨hF0.1.of hF (by simp [huS]), hF0.2.1.of hF (by simp [huS]), hF0.2.2.1.of hF (by simp [huS]), hF0.2.2.2.of hF (by simp [huS])⟩
    obtain ⟨ho, r1, r2, r3⟩ := id hFl
    have g63 := id h63
    have g64 := id h64
    unfold Mob at ho
    unfold Row at r1 r2 g63 g64
    rw [decide_eq_true (by omega)] at eb
    subst eb
    have lk := lt k
    have lk1 := lt (k + 1)
    have pk := (hK.2.2.at (Pl.of hg lk mp)).1
    have ex := fill_s (fun j => fw (mX M) g (itr (nxH (fw (mX M) g) (fw (mY M) g) (mM M g)) j st)) H0 k
    have ey := fill_s (fun j => fw (mY M) g (itr (nxH (fw (mX M) g) (fw (mY M) g) (mM M g)) j st)) K0 k
    have ex2 : fw (mX M) g (itr (nxH (fw (mX M) g) (fw (mY M) g) (mM M g)) k st) = mX M (10 * g + itr (nxH (fw (mX M) g) (fw (mY M) g) (mM M g)) k st) := rfl
    have ey2 : fw (mY M) g (itr (nxH (fw (mX M) g) (fw (mY M) g) (mM M g)) k st) = mY M (10 * g + itr (nxH (fw (mX M) g) (fw (mY M) g) (mM M g)) k st) := rfl
    rw [ex2] at ex
    rw [ey2] at ey
    let h1 := f_st (f_st h 63 (.inl (0, 10, .inl (fun j => iI (fill (fun j => fw (mX M) g (itr (nxH (fw (mX M) g) (fw (mY M) g) (mM M g)) j st)) H0 (k + 1) j))))) 64 (.inl (0, 10, .inl (fun j => iI (fill (fun j => fw (mY M) g (itr (nxH (fw (mX M) g) (fw (mY M) g) (mM M g)) j st)) K0 (k + 1) j))))
    have F1 : Fr h h1 huS := (Fr.rf.st (a := 63) (by simp [huS])).st (a := 64) (by simp [huS])
    have hFl1 : Fld h1 o (mX M) (mY M) (mM M) := ⟨hFl.1.of F1 (by simp [huS]), hFl.2.1.of F1 (by simp [huS]), hFl.2.2.1.of F1 (by simp [huS]), hFl.2.2.2.of F1 (by simp [huS])⟩
    have cn := m_nextHull hFl1 hK.2.2 hg lk h2n
    rw [show nxH (fw (mX M) g) (fw (mY M) g) (mM M g) (itr (nxH (fw (mX M) g) (fw (mY M) g) (mM M g)) k st) = itr (nxH (fw (mX M) g) (fw (mY M) g) (mM M g)) (k + 1) st from rfl] at cn
    have w := ih (k + 1) h1 (decide (k + 1 < N)) (by omega) rfl (by unfold Row; rw [fg_st_n (by omega), fg_st_s]) (by unfold Row; rw [fg_st_s]) (hF.tr F1 (fun _ q => q) (fun _ q => q))
    rw [show ((k + 1 : Nat) : Int) = (k : Int) + 1 by omega] at w
    rw [B150_165, b150_165]
    simp (disch := omega) only [g_iconst, g_lconst, g_iadd, g_isub, g_imul, g_iand, g_ior, g_ishl, g_ishr, g_iushr, g_ladd, g_lsub, g_lmul, g_land, g_lor, g_lcmp, g_ineg, g_lshl, g_lshr, g_i2l, g_l2i, g_dupi, g_dupr, g_pop, g_dup2, g_mabs_0, g_mabs_1, g_mabs_2, g_mabs_3, g_mmax_0, g_mmax_1, g_mmax_2, g_mmax_3, g_mmin_0, g_mmin_1, g_mmin_2, g_mmin_3, g_goto, g_jsr, g_icmp_eq, g_icmp_ne, g_icmp_lt, g_icmp_ge, g_icmp_gt, g_icmp_le, g_if_eq, g_if_ne, g_if_lt, g_if_ge, g_if_gt, g_if_le, g_idiv, g_irem, g_ldiv, g_iload, g_lload, g_aload, g_istore, g_astore, g_lstore, g_iinc, g_getfield, g_putfield, g_iaload, g_baload, g_laload, g_aaload, g_iastore, g_bastore, g_lastore, g_arraylength, g_call0_0, g_call0_1, g_call0_2, g_call0_3, g_call0_4, g_call1_0, g_call1_1, g_call1_2, g_call1_3, g_call1_4, g_call2_0, g_call2_1, g_call2_2, g_call2_3, g_call2_4, g_call3_0, g_call3_1, g_call3_2, g_call3_3, g_call3_4, g_call4_0, g_call4_1, g_call4_2, g_call4_3, g_call4_4, g_call5_0, g_call5_1, g_call5_2, g_call5_3, g_call5_4, g_call6_0, g_call6_1, g_call6_2, g_call6_3, g_call6_4, g_ireturn, g_lreturn, g_return, g_zreturn, sto_0, sto_s, sto2_0, sto2_s, isL_i, isL_r, isL_l, isL_j, ldI_0, ldI_9, ldZ_2, ldL_1, ldQ_3, stI_0, stL_1, stZ_2, gF_o, pF_o, lenA_9, oB_some, vI_i, vJ_j, vR_r, Option.map_some, List.getElem?_cons_zero, List.getElem?_cons_succ, Nat.reduceDiv, Nat.reduceMod, Int.reduceToNat, true_and, and_true, false_and, reduceIte, List.set_cons_zero, List.set_cons_succ, Option.toList_some, Option.toList_none, List.cons_append, List.nil_append, List.length_cons, List.length_nil, Nat.reduceAdd, Nat.reduceLeDiff, Nat.reduceLT, Nat.reduceEqDiff, and_self, and_false, Bool.false_eq_true, ho, r1, r2, g63, g64, upd_i, ex, ey, fg_st_s, fg_st_n, l4, show b2i true = 1 from rfl, iI_f, i32_0, i32_1, b2i_0, b2i_n, iI_add, iI_sub, iI_mul, iI_neg, iI_lt, iI_le, iI_eq, iI_in, iI_cl, i_nn, eq_self, true_or, or_true, not_true_eq_false, not_false_eq_true, Int.reduceEq, Int.reduceLT, Int.reduceLE, Int.reduceNeg]
    rw [cn]
    simp (disch := omega) only [B150_220, b150_220, B150_221, b150_221, g_iconst, g_lconst, g_iadd, g_isub, g_imul, g_iand, g_ior, g_ishl, g_ishr, g_iushr, g_ladd, g_lsub, g_lmul, g_land, g_lor, g_lcmp, g_ineg, g_lshl, g_lshr, g_i2l, g_l2i, g_dupi, g_dupr, g_pop, g_dup2, g_mabs_0, g_mabs_1, g_mabs_2, g_mabs_3, g_mmax_0, g_mmax_1, g_mmax_2, g_mmax_3, g_mmin_0, g_mmin_1, g_mmin_2, g_mmin_3, g_goto, g_jsr, g_icmp_eq, g_icmp_ne, g_icmp_lt, g_icmp_ge, g_icmp_gt, g_icmp_le, g_if_eq, g_if_ne, g_if_lt, g_if_ge, g_if_gt, g_if_le, g_idiv, g_irem, g_ldiv, g_iload, g_lload, g_aload, g_istore, g_astore, g_lstore, g_iinc, g_getfield, g_putfield, g_iaload, g_baload, g_laload, g_aaload, g_iastore, g_bastore, g_lastore, g_arraylength, g_call0_0, g_call0_1, g_call0_2, g_call0_3, g_call0_4, g_call1_0, g_call1_1, g_call1_2, g_call1_3, g_call1_4, g_call2_0, g_call2_1, g_call2_2, g_call2_3, g_call2_4, g_call3_0, g_call3_1, g_call3_2, g_call3_3, g_call3_4, g_call4_0, g_call4_1, g_call4_2, g_call4_3, g_call4_4, g_call5_0, g_call5_1, g_call5_2, g_call5_3, g_call5_4, g_call6_0, g_call6_1, g_call6_2, g_call6_3, g_call6_4, g_ireturn, g_lreturn, g_return, g_zreturn, sto_0, sto_s, sto2_0, sto2_s, isL_i, isL_r, isL_l, isL_j, ldI_0, ldI_9, ldZ_2, ldL_1, ldQ_3, stI_0, stL_1, stZ_2, gF_o, pF_o, lenA_9, oB_some, vI_i, vJ_j, vR_r, Option.map_some, List.getElem?_cons_zero, List.getElem?_cons_succ, Nat.reduceDiv, Nat.reduceMod, Int.reduceToNat, true_and, and_true, false_and, reduceIte, List.set_cons_zero, List.set_cons_succ, Option.toList_some, Option.toList_none, List.cons_append, List.nil_append, List.length_cons, List.length_nil, Nat.reduceAdd, Nat.reduceLeDiff, Nat.reduceLT, Nat.reduceEqDiff, and_self, and_false, Bool.false_eq_true, iI_f, i32_0, i32_1, b2i_0, b2i_n, iI_add, iI_sub, iI_mul, iI_neg, iI_lt, iI_le, iI_eq, iI_in, iI_cl, i_nn, eq_self, true_or, or_true, not_true_eq_false, not_false_eq_true, Int.reduceEq, Int.reduceLT, Int.reduceLE, Int.reduceNeg]
    by_cases e : k + 1 < N
    · have ne := hNk (k + 1) (by omega) e
      rw [decide_eq_true e] at w
      exact ite_f (by omega) w
    · have e2 : k + 1 = N := by omega
      have ee : itr (nxH (fw (mX M) g) (fw (mY M) g) (mM M g)) (k + 1) st = st := by rw [e2]; exact hNe
      rw [decide_eq_false e] at w
      exact ite_t (by omega) w
set_option maxRecDepth 10000 in
theorem l_mhull3 {h0 : fH} {o : MO} {x y X Y : Nat → Int} {m : Nat → Nat} {f n : Nat} (hf : f < 4) (hn : n ≤ 10) (hO : Mob h0 o) (h63 : Row h0 63 10 X) (h64 : Row h0 64 10 Y) {z2 z3 z4 z6 z7 : Value} (l7 : isL z7 = false) {Q : Option Value → fH → Prop} (hq : ∀ h', Flr h' (p10 x f X n) (p10 y f Y n) m → Fr h0 h' flS → Q (some (.int (iI n))) h') : ∀ (d k : Nat) (h : fH), k + d = n → Flr h (p10 x f X k) (p10 y f Y k) m → Fr h0 h flS →
    Go 150 (blk 150 237) [.ref 56, .int (iI f), z2, z3, z4, .int (iI n), z6, z7, .int (iI k)] [] h Q := by
  intro d
  induction d with
  | zero =>
    intro k h hk hR hF
    obtain rfl : k = n := by omega
    rw [B150_237, b150_237]
    simp (disch := omega) only [B150_288, b150_288, g_iconst, g_lconst, g_iadd, g_isub, g_imul, g_iand, g_ior, g_ishl, g_ishr, g_iushr, g_ladd, g_lsub, g_lmul, g_land, g_lor, g_lcmp, g_ineg, g_lshl, g_lshr, g_i2l, g_l2i, g_dupi, g_dupr, g_pop, g_dup2, g_mabs_0, g_mabs_1, g_mabs_2, g_mabs_3, g_mmax_0, g_mmax_1, g_mmax_2, g_mmax_3, g_mmin_0, g_mmin_1, g_mmin_2, g_mmin_3, g_goto, g_jsr, g_icmp_eq, g_icmp_ne, g_icmp_lt, g_icmp_ge, g_icmp_gt, g_icmp_le, g_if_eq, g_if_ne, g_if_lt, g_if_ge, g_if_gt, g_if_le, g_idiv, g_irem, g_ldiv, g_iload, g_lload, g_aload, g_istore, g_astore, g_lstore, g_iinc, g_getfield, g_putfield, g_iaload, g_baload, g_laload, g_aaload, g_iastore, g_bastore, g_lastore, g_arraylength, g_call0_0, g_call0_1, g_call0_2, g_call0_3, g_call0_4, g_call1_0, g_call1_1, g_call1_2, g_call1_3, g_call1_4, g_call2_0, g_call2_1, g_call2_2, g_call2_3, g_call2_4, g_call3_0, g_call3_1, g_call3_2, g_call3_3, g_call3_4, g_call4_0, g_call4_1, g_call4_2, g_call4_3, g_call4_4, g_call5_0, g_call5_1, g_call5_2, g_call5_3, g_call5_4, g_call6_0, g_call6_1, g_call6_2, g_call6_3, g_call6_4, g_ireturn, g_lreturn, g_return, g_zreturn, sto_0, sto_s, sto2_0, sto2_s, isL_i, isL_r, isL_l, isL_j, ldI_0, ldI_9, ldZ_2, ldL_1, ldQ_3, stI_0, stL_1, stZ_2, gF_o, pF_o, lenA_9, oB_some, vI_i, vJ_j, vR_r, Option.map_some, List.getElem?_cons_zero, List.getElem?_cons_succ, Nat.reduceDiv, Nat.reduceMod, Int.reduceToNat, true_and, and_true, false_and, reduceIte, List.set_cons_zero, List.set_cons_succ, Option.toList_some, Option.toList_none, List.cons_append, List.nil_append, List.length_cons, List.length_nil, Nat.reduceAdd, Nat.reduceLeDiff, Nat.reduceLT, Nat.reduceEqDiff, and_self, and_false, Bool.false_eq_true, iI_f, i32_0, i32_1, b2i_0, b2i_n, iI_add, iI_sub, iI_mul, iI_neg, iI_lt, iI_le, iI_eq, iI_in, iI_cl, i_nn, eq_self, true_or, or_true, not_true_eq_false, not_false_eq_true, Int.reduceEq, Int.reduceLT, Int.reduceLE, Int.reduceNeg]
    exact ite_t (by omega) (hq h hR hF)
  | succ d ih =>
    intro k h hk hR hF
    have ho := hO.of hF (by simp [flS])
    have g63 := h63.of hF (by simp [flS])
    have g64 := h64.of hF (by simp [flS])
    obtain ⟨r1, r2, r3⟩ := id hR
    unfold Mob at ho
    unfold Row at g63 g64 r1 r2
    have e : (10 * (f : Int) + (k : Int)).toNat = 10 * f + k := by omega
    rw [B150_237, b150_237]
    simp (disch := omega) only [g_iconst, g_lconst, g_iadd, g_isub, g_imul, g_iand, g_ior, g_ishl, g_ishr, g_iushr, g_ladd, g_lsub, g_lmul, g_land, g_lor, g_lcmp, g_ineg, g_lshl, g_lshr, g_i2l, g_l2i, g_dupi, g_dupr, g_pop, g_dup2, g_mabs_0, g_mabs_1, g_mabs_2, g_mabs_3, g_mmax_0, g_mmax_1, g_mmax_2, g_mmax_3, g_mmin_0, g_mmin_1, g_mmin_2, g_mmin_3, g_goto, g_jsr, g_icmp_eq, g_icmp_ne, g_icmp_lt, g_icmp_ge, g_icmp_gt, g_icmp_le, g_if_eq, g_if_ne, g_if_lt, g_if_ge, g_if_gt, g_if_le, g_idiv, g_irem, g_ldiv, g_iload, g_lload, g_aload, g_istore, g_astore, g_lstore, g_iinc, g_getfield, g_putfield, g_iaload, g_baload, g_laload, g_aaload, g_iastore, g_bastore, g_lastore, g_arraylength, g_call0_0, g_call0_1, g_call0_2, g_call0_3, g_call0_4, g_call1_0, g_call1_1, g_call1_2, g_call1_3, g_call1_4, g_call2_0, g_call2_1, g_call2_2, g_call2_3, g_call2_4, g_call3_0, g_call3_1, g_call3_2, g_call3_3, g_call3_4, g_call4_0, g_call4_1, g_call4_2, g_call4_3, g_call4_4, g_call5_0, g_call5_1, g_call5_2, g_call5_3, g_call5_4, g_call6_0, g_call6_1, g_call6_2, g_call6_3, g_call6_4, g_ireturn, g_lreturn, g_return, g_zreturn, sto_0, sto_s, sto2_0, sto2_s, isL_i, isL_r, isL_l, isL_j, ldI_0, ldI_9, ldZ_2, ldL_1, ldQ_3, stI_0, stL_1, stZ_2, gF_o, pF_o, lenA_9, oB_some, vI_i, vJ_j, vR_r, Option.map_some, List.getElem?_cons_zero, List.getElem?_cons_succ, Nat.reduceDiv, Nat.reduceMod, Int.reduceToNat, true_and, and_true, false_and, reduceIte, List.set_cons_zero, List.set_cons_succ, Option.toList_some, Option.toList_none, List.cons_append, List.nil_append, List.length_cons, List.length_nil, Nat.reduceAdd, Nat.reduceLeDiff, Nat.reduceLT, Nat.reduceEqDiff, and_self, and_false, Bool.false_eq_true, ho, g63, g64, r1, r2, e, l7, upd_i, fg_st_s, fg_st_n, iI_f, i32_0, i32_1, b2i_0, b2i_n, iI_add, iI_sub, iI_mul, iI_neg, iI_lt, iI_le, iI_eq, iI_in, iI_cl, i_nn, eq_self, true_or, or_true, not_true_eq_false, not_false_eq_true, Int.reduceEq, Int.reduceLT, Int.reduceLE, Int.reduceNeg]
    refine ite_f (by omega) ?_
    rw [p10_s, p10_s]
    have w := ih (k + 1) (f_st (f_st h 60 (.inl (0, 40, .inl (fun j => iI (p10 x f X (k + 1) j))))) 61 (.inl (0, 40, .inl (fun j => iI (p10 y f Y (k + 1) j))))) (by omega) ⟨by unfold Row; rw [fg_st_n (by omega), fg_st_s], by unfold Row; rw [fg_st_s], by unfold Row; rw [fg_st_n (by omega), fg_st_n (by omega)]; exact r3⟩ ((hF.st (a := 60) (by simp [flS])).st (a := 61) (by simp [flS]))
    push_cast at w
    exact w
/-- where the hull begins, and whether all corners are in one line -/
def hu1 (X Y : Nat → Int) (n : Nat) : Nat × Bool := itF (h1S X Y n) 0 n (0, true)
/-- the hull's corners by their number -/
def huC (X Y : Nat → Int) (n k : Nat) : Nat := itr (nxH X Y n) k (hu1 X Y n).1
def yHull (M : MZ) (f g : Int) (N : Nat) : MZ := if fB f = true ∧ fB g = true ∧ (hu1 (fw (mX M) g.toNat) (fw (mY M) g.toNat) (mM M g.toNat)).2 = false then mF M (p10 (mX M) f.toNat (fun j => fw (mX M) g.toNat (huC (fw (mX M) g.toNat) (fw (mY M) g.toNat) (mM M g.toNat) j)) N) (p10 (mY M) f.toNat (fun j => fw (mY M) g.toNat (huC (fw (mX M) g.toNat) (fw (mY M) g.toNat) (mM M g.toNat) j)) N) (updA (mM M) f.toNat N) else M
def bHull (M : MZ) (f g : Int) (N : Nat) : Int := if fB f = true ∧ fB g = true then (if (hu1 (fw (mX M) g.toNat) (fw (mY M) g.toNat) (mM M g.toNat)).2 = false then (N : Int) else -3) else -1
/-- the hull comes back to its first corner with its N-th step -/
def hNo (X Y : Nat → Int) (n N : Nat) : Prop := 1 ≤ N ∧ N ≤ 10 ∧ huC X Y n N = (hu1 X Y n).1 ∧ ∀ k, 0 < k → k < N → huC X Y n k ≠ (hu1 X Y n).1
theorem hu1_lt {X Y : Nat → Int} {n N : Nat} : ∀ (d i : Nat) (s : Nat × Bool), s.1 < n → i + d ≤ n → (itF (h1S X Y N) i d s).1 < n
  | 0, i, s, hs, _ => hs
  | d + 1, i, s, hs, h => by
    rw [itF]
    refine hu1_lt d (i + 1) _ ?_ (by omega)
    unfold h1S stS
    dsimp only
    split <;> omega
theorem hu1_2 {X Y : Nat → Int} {n : Nat} (h : n < 2) : ∀ (d i : Nat) (s : Nat × Bool), (itF (h1S X Y n) i d s).2 = s.2
  | 0, i, s => rfl
  | d + 1, i, s => by
    rw [itF, hu1_2 h d (i + 1)]
    unfold h1S
    rw [decide_eq_true h]
    simp
set_option maxRecDepth 10000 in
theorem m_hull {h : fH} {M : MZ} (hM : Mdl h M) (hK : Mok M) {f g : Int} (hf : I32 f) (hg : I32 g) {N : Nat} (hN : ∀ r : Nat, r < 4 → g = (r : Int) → (hu1 (fw (mX M) r) (fw (mY M) r) (mM M r)).2 = false → hNo (fw (mX M) r) (fw (mY M) r) (mM M r) N) {Q : Option Value → fH → Prop} (hq : ∀ h', WrM h (yHull M f g N) h' → Q (some (.int (iI (bHull M f g N)))) h') : Call 150 [.ref 56, .int (iI f), .int (iI g)] h Q := by
  obtain ⟨o, eo, hF⟩ := hM.fld
  obtain ⟨ho, r1, r2, r3⟩ := id hF
  unfold Mob at ho
  refine ⟨by simp [vOK, entL, isL, mlT, kdT, clT, isO, ho], rfl, ?_⟩
  rw [show ent 150 [.ref 56, .int (iI f), .int (iI g)] = [.ref 56, .int (iI f), .int (iI g), jk, jk, jk, jk, jk, jk] from rfl]
  have no : ¬ (fB f = true ∧ fB g = true) → Q (some (.int (iI (-1)))) h := fun q => by
    rw [bHull, if_neg q, yHull, if_neg (fun q2 => q ⟨q2.1, q2.2.1⟩)] at hq; exact hq h (WrM.rf hM)
  simp (disch := omega) only [B150_0, b150_0, B150_14, b150_14, g_iconst, g_lconst, g_iadd, g_isub, g_imul, g_iand, g_ior, g_ishl, g_ishr, g_iushr, g_ladd, g_lsub, g_lmul, g_land, g_lor, g_lcmp, g_ineg, g_lshl, g_lshr, g_i2l, g_l2i, g_dupi, g_dupr, g_pop, g_dup2, g_mabs_0, g_mabs_1, g_mabs_2, g_mabs_3, g_mmax_0, g_mmax_1, g_mmax_2, g_mmax_3, g_mmin_0, g_mmin_1, g_mmin_2, g_mmin_3, g_goto, g_jsr, g_icmp_eq, g_icmp_ne, g_icmp_lt, g_icmp_ge, g_icmp_gt, g_icmp_le, g_if_eq, g_if_ne, g_if_lt, g_if_ge, g_if_gt, g_if_le, g_idiv, g_irem, g_ldiv, g_iload, g_lload, g_aload, g_istore, g_astore, g_lstore, g_iinc, g_getfield, g_putfield, g_iaload, g_baload, g_laload, g_aaload, g_iastore, g_bastore, g_lastore, g_arraylength, g_call0_0, g_call0_1, g_call0_2, g_call0_3, g_call0_4, g_call1_0, g_call1_1, g_call1_2, g_call1_3, g_call1_4, g_call2_0, g_call2_1, g_call2_2, g_call2_3, g_call2_4, g_call3_0, g_call3_1, g_call3_2, g_call3_3, g_call3_4, g_call4_0, g_call4_1, g_call4_2, g_call4_3, g_call4_4, g_call5_0, g_call5_1, g_call5_2, g_call5_3, g_call5_4, g_call6_0, g_call6_1, g_call6_2, g_call6_3, g_call6_4, g_ireturn, g_lreturn, g_return, g_zreturn, sto_0, sto_s, sto2_0, sto2_s, isL_i, isL_r, isL_l, isL_j, ldI_0, ldI_9, ldZ_2, ldL_1, ldQ_3, stI_0, stL_1, stZ_2, gF_o, pF_o, lenA_9, oB_some, vI_i, vJ_j, vR_r, Option.map_some, List.getElem?_cons_zero, List.getElem?_cons_succ, Nat.reduceDiv, Nat.reduceMod, Int.reduceToNat, true_and, and_true, false_and, reduceIte, List.set_cons_zero, List.set_cons_succ, Option.toList_some, Option.toList_none, List.cons_append, List.nil_append, List.length_cons, List.length_nil, Nat.reduceAdd, Nat.reduceLeDiff, Nat.reduceLT, Nat.reduceEqDiff, and_self, and_false, Bool.false_eq_true, m_isField hf, m_isField hg, iI_f, i32_0, i32_1, b2i_0, b2i_n, iI_add, iI_sub, iI_mul, iI_neg, iI_lt, iI_le, iI_eq, iI_in, iI_cl, i_nn, eq_self, true_or, or_true, not_true_eq_false, not_false_eq_true, Int.reduceEq, Int.reduceLT, Int.reduceLE, Int.reduceNeg]
  refine ite_c (fun c1 => ?_) (fun c1 => ite_c (fun c2 => ?_) (fun c2 => ?_))
  · exact no (fun q => by rw [c1] at q; cases q.1)
  · rw [b2i_n] at c1
    rw [bHull, if_pos ⟨c1, c2⟩, yHull] at hq
    obtain ⟨p, hp, rfl⟩ := fB_t c1
    obtain ⟨r, hr, rfl⟩ := fB_t c2
    rw [i_nn, i_nn] at hq
    have mp := (hK.2.2 r hr).1
    simp (disch := omega) only [B150_16, b150_16, g_iconst, g_lconst, g_iadd, g_isub, g_imul, g_iand, g_ior, g_ishl, g_ishr, g_iushr, g_ladd, g_lsub, g_lmul, g_land, g_lor, g_lcmp, g_ineg, g_lshl, g_lshr, g_i2l, g_l2i, g_dupi, g_dupr, g_pop, g_dup2, g_mabs_0, g_mabs_1, g_mabs_2, g_mabs_3, g_mmax_0, g_mmax_1, g_mmax_2, g_mmax_3, g_mmin_0, g_mmin_1, g_mmin_2, g_mmin_3, g_goto, g_jsr, g_icmp_eq, g_icmp_ne, g_icmp_lt, g_icmp_ge, g_icmp_gt, g_icmp_le, g_if_eq, g_if_ne, g_if_lt, g_if_ge, g_if_gt, g_if_le, g_idiv, g_irem, g_ldiv, g_iload, g_lload, g_aload, g_istore, g_astore, g_lstore, g_iinc, g_getfield, g_putfield, g_iaload, g_baload, g_laload, g_aaload, g_iastore, g_bastore, g_lastore, g_arraylength, g_call0_0, g_call0_1, g_call0_2, g_call0_3, g_call0_4, g_call1_0, g_call1_1, g_call1_2, g_call1_3, g_call1_4, g_call2_0, g_call2_1, g_call2_2, g_call2_3, g_call2_4, g_call3_0, g_call3_1, g_call3_2, g_call3_3, g_call3_4, g_call4_0, g_call4_1, g_call4_2, g_call4_3, g_call4_4, g_call5_0, g_call5_1, g_call5_2, g_call5_3, g_call5_4, g_call6_0, g_call6_1, g_call6_2, g_call6_3, g_call6_4, g_ireturn, g_lreturn, g_return, g_zreturn, sto_0, sto_s, sto2_0, sto2_s, isL_i, isL_r, isL_l, isL_j, ldI_0, ldI_9, ldZ_2, ldL_1, ldQ_3, stI_0, stL_1, stZ_2, gF_o, pF_o, lenA_9, oB_some, vI_i, vJ_j, vR_r, Option.map_some, List.getElem?_cons_zero, List.getElem?_cons_succ, Nat.reduceDiv, Nat.reduceMod, Int.reduceToNat, true_and, and_true, false_and, reduceIte, List.set_cons_zero, List.set_cons_succ, Option.toList_some, Option.toList_none, List.cons_append, List.nil_append, List.length_cons, List.length_nil, Nat.reduceAdd, Nat.reduceLeDiff, Nat.reduceLT, Nat.reduceEqDiff, and_self, and_false, Bool.false_eq_true, isL, jk, iI_f, i32_0, i32_1, b2i_0, b2i_n, iI_add, iI_sub, iI_mul, iI_neg, iI_lt, iI_le, iI_eq, iI_in, iI_cl, i_nn, eq_self, true_or, or_true, not_true_eq_false, not_false_eq_true, Int.reduceEq, Int.reduceLT, Int.reduceLE, Int.reduceNeg]
    have go := l_mhull1 hF hK.2.2 (f := p) hr (T := hu1 (fw (mX M) r) (fw (mY M) r) (mM M r)) (z6 := .retAddr 0) (z7 := .retAddr 0) (z8 := .retAddr 0) (Q := Q) (fun z5 l5 => ?_) (mM M r) 0 (0, true) (by omega) (fun q => q) rfl
    · rw [show ((10 * r + (0, true).1 : Nat) : Int) = 10 * (r : Int) by dsimp only; omega] at go
      exact go
    · cases hl : (hu1 (fw (mX M) r) (fw (mY M) r) (mM M r)).2 with
      | true =>
        rw [hl, if_neg (fun q => by cases q.2.2), if_neg (by decide)] at hq
        rw [B150_148, b150_148]
        simp (disch := omega) only [g_iconst, g_lconst, g_iadd, g_isub, g_imul, g_iand, g_ior, g_ishl, g_ishr, g_iushr, g_ladd, g_lsub, g_lmul, g_land, g_lor, g_lcmp, g_ineg, g_lshl, g_lshr, g_i2l, g_l2i, g_dupi, g_dupr, g_pop, g_dup2, g_mabs_0, g_mabs_1, g_mabs_2, g_mabs_3, g_mmax_0, g_mmax_1, g_mmax_2, g_mmax_3, g_mmin_0, g_mmin_1, g_mmin_2, g_mmin_3, g_goto, g_jsr, g_icmp_eq, g_icmp_ne, g_icmp_lt, g_icmp_ge, g_icmp_gt, g_icmp_le, g_if_eq, g_if_ne, g_if_lt, g_if_ge, g_if_gt, g_if_le, g_idiv, g_irem, g_ldiv, g_iload, g_lload, g_aload, g_istore, g_astore, g_lstore, g_iinc, g_getfield, g_putfield, g_iaload, g_baload, g_laload, g_aaload, g_iastore, g_bastore, g_lastore, g_arraylength, g_call0_0, g_call0_1, g_call0_2, g_call0_3, g_call0_4, g_call1_0, g_call1_1, g_call1_2, g_call1_3, g_call1_4, g_call2_0, g_call2_1, g_call2_2, g_call2_3, g_call2_4, g_call3_0, g_call3_1, g_call3_2, g_call3_3, g_call3_4, g_call4_0, g_call4_1, g_call4_2, g_call4_3, g_call4_4, g_call5_0, g_call5_1, g_call5_2, g_call5_3, g_call5_4, g_call6_0, g_call6_1, g_call6_2, g_call6_3, g_call6_4, g_ireturn, g_lreturn, g_return, g_zreturn, sto_0, sto_s, sto2_0, sto2_s, isL_i, isL_r, isL_l, isL_j, ldI_0, ldI_9, ldZ_2, ldL_1, ldQ_3, stI_0, stL_1, stZ_2, gF_o, pF_o, lenA_9, oB_some, vI_i, vJ_j, vR_r, Option.map_some, List.getElem?_cons_zero, List.getElem?_cons_succ, Nat.reduceDiv, Nat.reduceMod, Int.reduceToNat, true_and, and_true, false_and, reduceIte, List.set_cons_zero, List.set_cons_succ, Option.toList_some, Option.toList_none, List.cons_append, List.nil_append, List.length_cons, List.length_nil, Nat.reduceAdd, Nat.reduceLeDiff, Nat.reduceLT, Nat.reduceEqDiff, and_self, and_false, Bool.false_eq_true, show b2i true = 1 from rfl, iI_f, i32_0, i32_1, b2i_0, b2i_n, iI_add, iI_sub, iI_mul, iI_neg, iI_lt, iI_le, iI_eq, iI_in, iI_cl, i_nn, eq_self, true_or, or_true, not_true_eq_false, not_false_eq_true, Int.reduceEq, Int.reduceLT, Int.reduceLE, Int.reduceNeg]
        exact hq h (WrM.rf hM)
      | false =>
        obtain ⟨n1, n2, n3, n4⟩ := hN r hr rfl hl
        have h2n : 2 ≤ mM M r := Nat.le_of_not_lt (fun q => by
          have := hu1_2 (X := fw (mX M) r) (Y := fw (mY M) r) q (mM M r) 0 (0, true)
          rw [show itF (h1S (fw (mX M) r) (fw (mY M) r) (mM M r)) 0 (mM M r) (0, true) = hu1 (fw (mX M) r) (fw (mY M) r) (mM M r) from rfl, hl] at this
          cases this)
        have sl : (hu1 (fw (mX M) r) (fw (mY M) r) (mM M r)).1 < mM M r := hu1_lt (mM M r) 0 (0, true) (by dsimp only; omega) (by omega)
        rw [hl, if_pos ⟨c1, c2, rfl⟩, if_pos rfl] at hq
        obtain ⟨H0, h63⟩ := hM.2.2.2.2.2.2.1
        obtain ⟨K0, h64⟩ := hM.2.2.2.2.2.2.2.1
        rw [B150_148, b150_148]
        simp (disch := omega) only [B150_156, b150_156, g_iconst, g_lconst, g_iadd, g_isub, g_imul, g_iand, g_ior, g_ishl, g_ishr, g_iushr, g_ladd, g_lsub, g_lmul, g_land, g_lor, g_lcmp, g_ineg, g_lshl, g_lshr, g_i2l, g_l2i, g_dupi, g_dupr, g_pop, g_dup2, g_mabs_0, g_mabs_1, g_mabs_2, g_mabs_3, g_mmax_0, g_mmax_1, g_mmax_2, g_mmax_3, g_mmin_0, g_mmin_1, g_mmin_2, g_mmin_3, g_goto, g_jsr, g_icmp_eq, g_icmp_ne, g_icmp_lt, g_icmp_ge, g_icmp_gt, g_icmp_le, g_if_eq, g_if_ne, g_if_lt, g_if_ge, g_if_gt, g_if_le, g_idiv, g_irem, g_ldiv, g_iload, g_lload, g_aload, g_istore, g_astore, g_lstore, g_iinc, g_getfield, g_putfield, g_iaload, g_baload, g_laload, g_aaload, g_iastore, g_bastore, g_lastore, g_arraylength, g_call0_0, g_call0_1, g_call0_2, g_call0_3, g_call0_4, g_call1_0, g_call1_1, g_call1_2, g_call1_3, g_call1_4, g_call2_0, g_call2_1, g_call2_2, g_call2_3, g_call2_4, g_call3_0, g_call3_1, g_call3_2, g_call3_3, g_call3_4, g_call4_0, g_call4_1, g_call4_2, g_call4_3, g_call4_4, g_call5_0, g_call5_1, g_call5_2, g_call5_3, g_call5_4, g_call6_0, g_call6_1, g_call6_2, g_call6_3, g_call6_4, g_ireturn, g_lreturn, g_return, g_zreturn, sto_0, sto_s, sto2_0, sto2_s, isL_i, isL_r, isL_l, isL_j, ldI_0, ldI_9, ldZ_2, ldL_1, ldQ_3, stI_0, stL_1, stZ_2, gF_o, pF_o, lenA_9, oB_some, vI_i, vJ_j, vR_r, Option.map_some, List.getElem?_cons_zero, List.getElem?_cons_succ, Nat.reduceDiv, Nat.reduceMod, Int.reduceToNat, true_and, and_true, false_and, reduceIte, List.set_cons_zero, List.set_cons_succ, Option.toList_some, Option.toList_none, List.cons_append, List.nil_append, List.length_cons, List.length_nil, Nat.reduceAdd, Nat.reduceLeDiff, Nat.reduceLT, Nat.reduceEqDiff, and_self, and_false, Bool.false_eq_true, l5, isL, show b2i false = 0 from rfl, iI_f, i32_0, i32_1, b2i_0, b2i_n, iI_add, iI_sub, iI_mul, iI_neg, iI_lt, iI_le, iI_eq, iI_in, iI_cl, i_nn, eq_self, true_or, or_true, not_true_eq_false, not_false_eq_true, Int.reduceEq, Int.reduceLT, Int.reduceLE, Int.reduceNeg]
        have w := l_mhull2 (f := p) (st := (hu1 (fw (mX M) r) (fw (mY M) r) (mM M r)).1) (N := N) (H0 := H0) (K0 := K0) (z4 := .int (iI 0)) (z8 := .retAddr 0) (Q := Q) hM hK hr h2n sl n1 n2 n3 n4 rfl (fun h1 z6 z7 e1 e2 e3 l7 => ?_) N 0 h true (by omega) (by rw [decide_eq_true (by omega)]) (by rw [fill_0]; exact h63) (by rw [fill_0]; exact h64) Fr.rf
        · exact w
        · have q := hM.2.2.2.2
          have M1 : WrM h M h1 := hM.scr (e3.mono (fun k z => by simp only [huS] at z; simp only [scS]; omega)) ⟨o, eo, hF.1.of e3 (by simp [huS])⟩ ⟨rw_ex q.1 e3 (by simp [huS]), rw_ex q.2.1 e3 (by simp [huS]), ⟨_, e1⟩, ⟨_, e2⟩, rw_ex q.2.2.2.2.1 e3 (by simp [huS]), rw_ex q.2.2.2.2.2.1 e3 (by simp [huS]), bl_ex q.2.2.2.2.2.2.1 e3 (by simp [huS]), bl_ex q.2.2.2.2.2.2.2.1 e3 (by simp [huS]), rw_ex q.2.2.2.2.2.2.2.2.1 e3 (by simp [huS]), rw_ex q.2.2.2.2.2.2.2.2.2.1 e3 (by simp [huS]), rw_ex q.2.2.2.2.2.2.2.2.2.2.1 e3 (by simp [huS]), rw_ex q.2.2.2.2.2.2.2.2.2.2.2 e3 (by simp [huS])⟩
          obtain ⟨o1, eo1, hF1⟩ := M1.1.fld
          have ho1 := id hF1.1
          have g3 := id hF1.2.2.2
          unfold Mob at ho1
          unfold Row at g3
          rw [B150_226, b150_226]
          simp (disch := omega) only [g_iconst, g_lconst, g_iadd, g_isub, g_imul, g_iand, g_ior, g_ishl, g_ishr, g_iushr, g_ladd, g_lsub, g_lmul, g_land, g_lor, g_lcmp, g_ineg, g_lshl, g_lshr, g_i2l, g_l2i, g_dupi, g_dupr, g_pop, g_dup2, g_mabs_0, g_mabs_1, g_mabs_2, g_mabs_3, g_mmax_0, g_mmax_1, g_mmax_2, g_mmax_3, g_mmin_0, g_mmin_1, g_mmin_2, g_mmin_3, g_goto, g_jsr, g_icmp_eq, g_icmp_ne, g_icmp_lt, g_icmp_ge, g_icmp_gt, g_icmp_le, g_if_eq, g_if_ne, g_if_lt, g_if_ge, g_if_gt, g_if_le, g_idiv, g_irem, g_ldiv, g_iload, g_lload, g_aload, g_istore, g_astore, g_lstore, g_iinc, g_getfield, g_putfield, g_iaload, g_baload, g_laload, g_aaload, g_iastore, g_bastore, g_lastore, g_arraylength, g_call0_0, g_call0_1, g_call0_2, g_call0_3, g_call0_4, g_call1_0, g_call1_1, g_call1_2, g_call1_3, g_call1_4, g_call2_0, g_call2_1, g_call2_2, g_call2_3, g_call2_4, g_call3_0, g_call3_1, g_call3_2, g_call3_3, g_call3_4, g_call4_0, g_call4_1, g_call4_2, g_call4_3, g_call4_4, g_call5_0, g_call5_1, g_call5_2, g_call5_3, g_call5_4, g_call6_0, g_call6_1, g_call6_2, g_call6_3, g_call6_4, g_ireturn, g_lreturn, g_return, g_zreturn, sto_0, sto_s, sto2_0, sto2_s, isL_i, isL_r, isL_l, isL_j, ldI_0, ldI_9, ldZ_2, ldL_1, ldQ_3, stI_0, stL_1, stZ_2, gF_o, pF_o, lenA_9, oB_some, vI_i, vJ_j, vR_r, Option.map_some, List.getElem?_cons_zero, List.getElem?_cons_succ, Nat.reduceDiv, Nat.reduceMod, Int.reduceToNat, true_and, and_true, false_and, reduceIte, List.set_cons_zero, List.set_cons_succ, Option.toList_some, Option.toList_none, List.cons_append, List.nil_append, List.length_cons, List.length_nil, Nat.reduceAdd, Nat.reduceLeDiff, Nat.reduceLT, Nat.reduceEqDiff, and_self, and_false, Bool.false_eq_true, ho1, g3, l7, upd_i, iI_f, i32_0, i32_1, b2i_0, b2i_n, iI_add, iI_sub, iI_mul, iI_neg, iI_lt, iI_le, iI_eq, iI_in, iI_cl, i_nn, eq_self, true_or, or_true, not_true_eq_false, not_false_eq_true, Int.reduceEq, Int.reduceLT, Int.reduceLE, Int.reduceNeg]
          rw [updM]
          have F2 : Fr h1 (f_st h1 62 (.inl (0, 4, .inl (fun j => iI ((updA (mM M) p N j : Nat) : Int))))) flS := Fr.rf.st (by simp [flS])
          refine l_mhull3 (x := mX M) (y := mY M) (m := updA (mM M) p N) hp n2 (hF1.1.of F2 (by simp [flS])) (e1.of F2 (by simp [flS])) (e2.of F2 (by simp [flS])) l7 (fun h2 k1 k2 => ?_) N 0 _ (by omega) ⟨by rw [p10_0]; unfold Row; rw [fg_st_n (by omega)]; exact hF1.2.1, by rw [p10_0]; unfold Row; rw [fg_st_n (by omega)]; exact hF1.2.2.1, by unfold Row; rw [fg_st_s]⟩ Fr.rf
          have ex : p10 (mX M) p (fill (fun j => fw (mX M) r (itr (nxH (fw (mX M) r) (fw (mY M) r) (mM M r)) j (hu1 (fw (mX M) r) (fw (mY M) r) (mM M r)).1)) H0 N) N = p10 (mX M) p (fun j => fw (mX M) r (huC (fw (mX M) r) (fw (mY M) r) (mM M r) j)) N := p10_c (fun k hk => fill_lt hk)
          have ey : p10 (mY M) p (fill (fun j => fw (mY M) r (itr (nxH (fw (mX M) r) (fw (mY M) r) (mM M r)) j (hu1 (fw (mX M) r) (fw (mY M) r) (mM M r)).1)) K0 N) N = p10 (mY M) p (fun j => fw (mY M) r (huC (fw (mX M) r) (fw (mY M) r) (mM M r) j)) N := p10_c (fun k hk => fill_lt hk)
          rw [ex, ey] at k1
          exact hq h2 (M1.tr (M1.1.fls (F2.tr k2 (fun _ q => q) (fun _ q => q)) k1))
  · exact no (fun q => c2 q.2)
