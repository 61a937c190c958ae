/-! The reference's heap. -/
/-- the text's length, how many corners were read, how many meets, the five numbers of a map -/
abbrev MO : Type := Nat × Nat × Int × (Int × Int × Int × Int × Int)
def Mob (h : fH) (o : MO) : Prop := f_get h 56 = .inr (6, [.ref 57, .int (iI o.1), .ref 58, .ref 59, .int (iI o.2.1), .ref 60, .ref 61, .ref 62, .ref 63, .ref 64, .ref 65, .ref 66, .int (iI o.2.2.1), .ref 67, .ref 68, .ref 69, .ref 70, .ref 71, .ref 72, .int (iI o.2.2.2.1), .int (iI o.2.2.2.2.1), .int (iI o.2.2.2.2.2.1), .int (iI o.2.2.2.2.2.2.1), .int (iI o.2.2.2.2.2.2.2), .ref 73, .ref 74, .ref 75, .ref 76])
/-- an int row of n numbers -/
def Row (h : fH) (a n : Nat) (f : Nat → Int) : Prop := f_get h a = .inl (0, n, .inl (fun j => iI (f j)))
/-- the fields: x, y by 10 f + i, how many corners -/
def Fld (h : fH) (o : MO) (x y : Nat → Int) (m : Nat → Nat) : Prop := Mob h o ∧ Row h 60 40 x ∧ Row h 61 40 y ∧ Row h 62 4 (fun j => (m j : Int))
def Fok (x y : Nat → Int) (m : Nat → Nat) : Prop := ∀ f, f < 4 → m f ≤ 10 ∧ ∀ i, i < m f → (0 ≤ x (10 * f + i) ∧ x (10 * f + i) ≤ 15) ∧ 0 ≤ y (10 * f + i) ∧ y (10 * f + i) ≤ 15
/-- a place: the row's place of a corner -/
def Pl (m : Nat → Nat) (p : Nat) : Prop := p / 10 < 4 ∧ p % 10 < m (p / 10)
theorem Fok.at {x y : Nat → Int} {m : Nat → Nat} (h : Fok x y m) {p : Nat} (hp : Pl m p) : p < 40 ∧ (0 ≤ x p ∧ x p ≤ 15) ∧ 0 ≤ y p ∧ y p ≤ 15 := by
  obtain ⟨h1, h2⟩ := h _ hp.1
  have h3 := h2 _ hp.2
  have e : 10 * (p / 10) + p % 10 = p := by omega
  rw [e] at h3
  have := hp.1
  exact ⟨by omega, h3⟩
set_option maxRecDepth 10000 in
theorem m_isCorner {h : fH} {o : MO} {x y : Nat → Int} {m : Nat → Nat} (hF : Fld h o x y m) (hK : Fok x y m) {f c : Int} (hf : I32 f) (hc : I32 c) (Q : Option Value → fH → Prop) : Call 120 [.ref 56, .int (iI f), .int (iI c)] h Q ↔ Q (some (.int (iI (b2i (fB f && decide (0 ≤ c ∧ c < m f.toNat)))))) h := by
  obtain ⟨ho, h1, h2, h3⟩ := id hF
  unfold Mob at ho
  unfold Row at h1 h2 h3
  obtain ⟨c1, c2⟩ := id hc
  refine Call.iff ⟨by simp [vOK, entL, isL, mlT, kdT, clT, isO, ho], rfl, ?_⟩ Q
  rw [show ent 120 [.ref 56, .int (iI f), .int (iI c)] = [.ref 56, .int (iI f), .int (iI c)] from rfl]
  simp (disch := omega) only [B120_0, b120_0, B120_29, b120_29, B120_30, b120_30, g_iconst, g_lconst, g_iadd, g_isub, g_imul, g_iand, g_ior, g_ishl, g_ishr, g_iushr, g_ladd, g_lsub, g_lmul, g_land, g_lor, g_lcmp, g_ineg, g_lshl, g_lshr, g_i2l, g_l2i, g_dupi, g_dupr, g_pop, g_dup2, g_mabs_0, g_mabs_1, g_mabs_2, g_mabs_3, g_mmax_0, g_mmax_1, g_mmax_2, g_mmax_3, g_mmin_0, g_mmin_1, g_mmin_2, g_mmin_3, g_goto, g_jsr, g_icmp_eq, g_icmp_ne, g_icmp_lt, g_icmp_ge, g_icmp_gt, g_icmp_le, g_if_eq, g_if_ne, g_if_lt, g_if_ge, g_if_gt, g_if_le, g_idiv, g_irem, g_ldiv, g_iload, g_lload, g_aload, g_istore, g_astore, g_lstore, g_iinc, g_getfield, g_putfield, g_iaload, g_baload, g_laload, g_aaload, g_iastore, g_bastore, g_lastore, g_arraylength, g_call0_0, g_call0_1, g_call0_2, g_call0_3, g_call0_4, g_call1_0, g_call1_1, g_call1_2, g_call1_3, g_call1_4, g_call2_0, g_call2_1, g_call2_2, g_call2_3, g_call2_4, g_call3_0, g_call3_1, g_call3_2, g_call3_3, g_call3_4, g_call4_0, g_call4_1, g_call4_2, g_call4_3, g_call4_4, g_call5_0, g_call5_1, g_call5_2, g_call5_3, g_call5_4, g_call6_0, g_call6_1, g_call6_2, g_call6_3, g_call6_4, g_ireturn, g_lreturn, g_return, g_zreturn, sto_0, sto_s, sto2_0, sto2_s, isL_i, isL_r, isL_l, isL_j, ldI_0, ldI_9, ldZ_2, ldL_1, ldQ_3, stI_0, stL_1, stZ_2, gF_o, pF_o, lenA_9, oB_some, vI_i, vJ_j, vR_r, Option.map_some, List.getElem?_cons_zero, List.getElem?_cons_succ, Nat.reduceDiv, Nat.reduceMod, Int.reduceToNat, true_and, and_true, false_and, reduceIte, List.set_cons_zero, List.set_cons_succ, Option.toList_some, Option.toList_none, List.cons_append, List.nil_append, List.length_cons, List.length_nil, Nat.reduceAdd, Nat.reduceLeDiff, Nat.reduceLT, Nat.reduceEqDiff, and_self, and_false, Bool.false_eq_true, m_isField hf, iI_f, i32_0, i32_1, b2i_0, b2i_n, iI_add, iI_sub, iI_mul, iI_neg, iI_lt, iI_le, iI_eq, iI_in, iI_cl, i_nn, eq_self, true_or, or_true, not_true_eq_false, not_false_eq_true, Int.reduceEq, Int.reduceLT, Int.reduceLE, Int.reduceNeg]
  refine ite_c (fun q1 => ?_) (fun q1 => ?_)
  · rw [q1]; rfl
  · rw [b2i_n] at q1
    obtain ⟨p, hp, rfl⟩ := fB_t q1
    have mp := (hK p hp).1
    have e : inB c 0 ((m p : Int) - 1) = decide (0 ≤ c ∧ c < m p) := by simp only [inB]; exact decide_eq_decide.mpr (by omega)
    simp (disch := omega) only [B120_29, b120_29, B120_30, b120_30, g_iconst, g_lconst, g_iadd, g_isub, g_imul, g_iand, g_ior, g_ishl, g_ishr, g_iushr, g_ladd, g_lsub, g_lmul, g_land, g_lor, g_lcmp, g_ineg, g_lshl, g_lshr, g_i2l, g_l2i, g_dupi, g_dupr, g_pop, g_dup2, g_mabs_0, g_mabs_1, g_mabs_2, g_mabs_3, g_mmax_0, g_mmax_1, g_mmax_2, g_mmax_3, g_mmin_0, g_mmin_1, g_mmin_2, g_mmin_3, g_goto, g_jsr, g_icmp_eq, g_icmp_ne, g_icmp_lt, g_icmp_ge, g_icmp_gt, g_icmp_le, g_if_eq, g_if_ne, g_if_lt, g_if_ge, g_if_gt, g_if_le, g_idiv, g_irem, g_ldiv, g_iload, g_lload, g_aload, g_istore, g_astore, g_lstore, g_iinc, g_getfield, g_putfield, g_iaload, g_baload, g_laload, g_aaload, g_iastore, g_bastore, g_lastore, g_arraylength, g_call0_0, g_call0_1, g_call0_2, g_call0_3, g_call0_4, g_call1_0, g_call1_1, g_call1_2, g_call1_3, g_call1_4, g_call2_0, g_call2_1, g_call2_2, g_call2_3, g_call2_4, g_call3_0, g_call3_1, g_call3_2, g_call3_3, g_call3_4, g_call4_0, g_call4_1, g_call4_2, g_call4_3, g_call4_4, g_call5_0, g_call5_1, g_call5_2, g_call5_3, g_call5_4, g_call6_0, g_call6_1, g_call6_2, g_call6_3, g_call6_4, g_ireturn, g_lreturn, g_return, g_zreturn, sto_0, sto_s, sto2_0, sto2_s, isL_i, isL_r, isL_l, isL_j, ldI_0, ldI_9, ldZ_2, ldL_1, ldQ_3, stI_0, stL_1, stZ_2, gF_o, pF_o, lenA_9, oB_some, vI_i, vJ_j, vR_r, Option.map_some, List.getElem?_cons_zero, List.getElem?_cons_succ, Nat.reduceDiv, Nat.reduceMod, Int.reduceToNat, true_and, and_true, false_and, reduceIte, List.set_cons_zero, List.set_cons_succ, Option.toList_some, Option.toList_none, List.cons_append, List.nil_append, List.length_cons, List.length_nil, Nat.reduceAdd, Nat.reduceLeDiff, Nat.reduceLT, Nat.reduceEqDiff, and_self, and_false, Bool.false_eq_true, ho, h3, lJ_f, lJ_i, m_in, e, iI_f, i32_0, i32_1, b2i_0, b2i_n, iI_add, iI_sub, iI_mul, iI_neg, iI_lt, iI_le, iI_eq, iI_in, iI_cl, i_nn, eq_self, true_or, or_true, not_true_eq_false, not_false_eq_true, Int.reduceEq, Int.reduceLT, Int.reduceLE, Int.reduceNeg]
    rw [q1]
    cases decide (0 ≤ c ∧ c < (m p : Int)) <;> rfl
theorem tm_n (a b : Nat) : (a : Int).tmod (b : Int) = ((a % b : Nat) : Int) := rfl
set_option maxRecDepth 10000 in
theorem m_place {h : fH} {o : MO} {x y : Nat → Int} {m : Nat → Nat} (hF : Fld h o x y m) (hK : Fok x y m) {f i : Nat} (hf : f < 4) (h0 : 0 < m f) (hi : i < 1000) (Q : Option Value → fH → Prop) : Call 130 [.ref 56, .int (iI f), .int (iI i)] h Q ↔ Q (some (.int (iI ((10 * f + i % m f : Nat) : Int)))) h := by
  obtain ⟨ho, h1, h2, h3⟩ := id hF
  unfold Mob at ho
  unfold Row at h1 h2 h3
  have mp := (hK f hf).1
  have l1 : i % m f < m f := Nat.mod_lt _ h0
  have l2 : (i % m f + m f) % m f = i % m f := by rw [Nat.add_mod_right, Nat.mod_mod]
  refine Call.iff ⟨by simp [vOK, entL, isL, mlT, kdT, clT, isO, ho], rfl, ?_⟩ Q
  rw [show ent 130 [.ref 56, .int (iI f), .int (iI i)] = [.ref 56, .int (iI f), .int (iI i)] from rfl]
  have e2 : (((i % m f : Nat) : Int) + (m f : Int)).tmod (m f : Int) = ((i % m f : Nat) : Int) := by
    rw [show ((i % m f : Nat) : Int) + (m f : Int) = ((i % m f + m f : Nat) : Int) by omega, tm_n, l2]
  simp (disch := omega) only [B130_0, b130_0, g_iconst, g_lconst, g_iadd, g_isub, g_imul, g_iand, g_ior, g_ishl, g_ishr, g_iushr, g_ladd, g_lsub, g_lmul, g_land, g_lor, g_lcmp, g_ineg, g_lshl, g_lshr, g_i2l, g_l2i, g_dupi, g_dupr, g_pop, g_dup2, g_mabs_0, g_mabs_1, g_mabs_2, g_mabs_3, g_mmax_0, g_mmax_1, g_mmax_2, g_mmax_3, g_mmin_0, g_mmin_1, g_mmin_2, g_mmin_3, g_goto, g_jsr, g_icmp_eq, g_icmp_ne, g_icmp_lt, g_icmp_ge, g_icmp_gt, g_icmp_le, g_if_eq, g_if_ne, g_if_lt, g_if_ge, g_if_gt, g_if_le, g_idiv, g_irem, g_ldiv, g_iload, g_lload, g_aload, g_istore, g_astore, g_lstore, g_iinc, g_getfield, g_putfield, g_iaload, g_baload, g_laload, g_aaload, g_iastore, g_bastore, g_lastore, g_arraylength, g_call0_0, g_call0_1, g_call0_2, g_call0_3, g_call0_4, g_call1_0, g_call1_1, g_call1_2, g_call1_3, g_call1_4, g_call2_0, g_call2_1, g_call2_2, g_call2_3, g_call2_4, g_call3_0, g_call3_1, g_call3_2, g_call3_3, g_call3_4, g_call4_0, g_call4_1, g_call4_2, g_call4_3, g_call4_4, g_call5_0, g_call5_1, g_call5_2, g_call5_3, g_call5_4, g_call6_0, g_call6_1, g_call6_2, g_call6_3, g_call6_4, g_ireturn, g_lreturn, g_return, g_zreturn, sto_0, sto_s, sto2_0, sto2_s, isL_i, isL_r, isL_l, isL_j, ldI_0, ldI_9, ldZ_2, ldL_1, ldQ_3, stI_0, stL_1, stZ_2, gF_o, pF_o, lenA_9, oB_some, vI_i, vJ_j, vR_r, Option.map_some, List.getElem?_cons_zero, List.getElem?_cons_succ, Nat.reduceDiv, Nat.reduceMod, Int.reduceToNat, true_and, and_true, false_and, reduceIte, List.set_cons_zero, List.set_cons_succ, Option.toList_some, Option.toList_none, List.cons_append, List.nil_append, List.length_cons, List.length_nil, Nat.reduceAdd, Nat.reduceLeDiff, Nat.reduceLT, Nat.reduceEqDiff, and_self, and_false, Bool.false_eq_true, ho, h3, iI_rem, tm_n, e2, iI_f, i32_0, i32_1, b2i_0, b2i_n, iI_add, iI_sub, iI_mul, iI_neg, iI_lt, iI_le, iI_eq, iI_in, iI_cl, i_nn, eq_self, true_or, or_true, not_true_eq_false, not_false_eq_true, Int.reduceEq, Int.reduceLT, Int.reduceLE, Int.reduceNeg]
  refine ⟨by omega, by omega, ?_⟩
  congr 3
set_option maxRecDepth 10000 in
theorem m_side {h : fH} {o : MO} {x y : Nat → Int} {m : Nat → Nat} (hF : Fld h o x y m) (hK : Fok x y m) {a b c : Nat} (ha : Pl m a) (hb : Pl m b) (hc : Pl m c) (Q : Option Value → fH → Prop) : Call 131 [.ref 56, .int (iI a), .int (iI b), .int (iI c)] h Q ↔ Q (some (.int (iI (sd x y a b c)))) h := by
  obtain ⟨ho, h1, h2, h3⟩ := id hF
  unfold Mob at ho
  unfold Row at h1 h2 h3
  have a1 := (hK.at ha).1
  have b1 := (hK.at hb).1
  have c1 := (hK.at hc).1
  refine Call.iff ⟨by simp [vOK, entL, isL, mlT, kdT, clT, isO, ho], rfl, ?_⟩ Q
  rw [show ent 131 [.ref 56, .int (iI a), .int (iI b), .int (iI c)] = [.ref 56, .int (iI a), .int (iI b), .int (iI c)] from rfl]
  simp (disch := omega) only [B131_0, b131_0, g_iconst, g_lconst, g_iadd, g_isub, g_imul, g_iand, g_ior, g_ishl, g_ishr, g_iushr, g_ladd, g_lsub, g_lmul, g_land, g_lor, g_lcmp, g_ineg, g_lshl, g_lshr, g_i2l, g_l2i, g_dupi, g_dupr, g_pop, g_dup2, g_mabs_0, g_mabs_1, g_mabs_2, g_mabs_3, g_mmax_0, g_mmax_1, g_mmax_2, g_mmax_3, g_mmin_0, g_mmin_1, g_mmin_2, g_mmin_3, g_goto, g_jsr, g_icmp_eq, g_icmp_ne, g_icmp_lt, g_icmp_ge, g_icmp_gt, g_icmp_le, g_if_eq, g_if_ne, g_if_lt, g_if_ge, g_if_gt, g_if_le, g_idiv, g_irem, g_ldiv, g_iload, g_lload, g_aload, g_istore, g_astore, g_lstore, g_iinc, g_getfield, g_putfield, g_iaload, g_baload, g_laload, g_aaload, g_iastore, g_bastore, g_lastore, g_arraylength, g_call0_0, g_call0_1, g_call0_2, g_call0_3, g_call0_4, g_call1_0, g_call1_1, g_call1_2, g_call1_3, g_call1_4, g_call2_0, g_call2_1, g_call2_2, g_call2_3, g_call2_4, g_call3_0, g_call3_1, g_call3_2, g_call3_3, g_call3_4, g_call4_0, g_call4_1, g_call4_2, g_call4_3, g_call4_4, g_call5_0, g_call5_1, g_call5_2, g_call5_3, g_call5_4, g_call6_0, g_call6_1, g_call6_2, g_call6_3, g_call6_4, g_ireturn, g_lreturn, g_return, g_zreturn, sto_0, sto_s, sto2_0, sto2_s, isL_i, isL_r, isL_l, isL_j, ldI_0, ldI_9, ldZ_2, ldL_1, ldQ_3, stI_0, stL_1, stZ_2, gF_o, pF_o, lenA_9, oB_some, vI_i, vJ_j, vR_r, Option.map_some, List.getElem?_cons_zero, List.getElem?_cons_succ, Nat.reduceDiv, Nat.reduceMod, Int.reduceToNat, true_and, and_true, false_and, reduceIte, List.set_cons_zero, List.set_cons_succ, Option.toList_some, Option.toList_none, List.cons_append, List.nil_append, List.length_cons, List.length_nil, Nat.reduceAdd, Nat.reduceLeDiff, Nat.reduceLT, Nat.reduceEqDiff, and_self, and_false, Bool.false_eq_true, ho, h1, h2, iI_f, i32_0, i32_1, b2i_0, b2i_n, iI_add, iI_sub, iI_mul, iI_neg, iI_lt, iI_le, iI_eq, iI_in, iI_cl, i_nn, eq_self, true_or, or_true, not_true_eq_false, not_false_eq_true, Int.reduceEq, Int.reduceLT, Int.reduceLE, Int.reduceNeg]
  rfl
