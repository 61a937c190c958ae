/-! The reference: sides, areas, corners. -/
def btM (x y : Nat → Int) (a b c : Nat) : Bool := decide ((x c - x a) * (x c - x b) ≤ 0) && decide ((y c - y a) * (y c - y b) ≤ 0)
set_option maxRecDepth 10000 in
theorem m_isBetween {h : fH} {o : MO} {x y : Nat → Int} {m : Nat → Nat} (hF : Fld h o x y m) (hK : Fok x y m) {a b c : Nat} (ha : Pl m a) (hb : Pl m b) (hc : Pl m c) (Q : Option Value → fH → Prop) : Call 132 [.ref 56, .int (iI a), .int (iI b), .int (iI c)] h Q ↔ Q (some (.int (iI (b2i (btM x y a b c))))) h := by
  obtain ⟨ho, h1, h2, h3⟩ := id hF; unfold Mob at ho; unfold Row at h1 h2 h3
  obtain ⟨a1, a2, a3⟩ := hK.at ha
  obtain ⟨b1, b2, b3⟩ := hK.at hb
  obtain ⟨c1, c2, c3⟩ := hK.at hc
  have q1 := mul_bd (a := x c - x a) (b := x c - x b) (M := 15) (N := 15) (by omega) (by omega) (by omega) (by omega) (by omega) (by omega)
  have q2 := mul_bd (a := y c - y a) (b := y c - y b) (M := 15) (N := 15) (by omega) (by omega) (by omega) (by omega) (by omega) (by omega)
  refine Call.iff ⟨by simp [vOK, entL, isL, mlT, kdT, clT, isO, ho], rfl, ?_⟩ Q
  rw [show ent 132 [.ref 56, .int (iI a), .int (iI b), .int (iI c)] = [.ref 56, .int (iI a), .int (iI b), .int (iI c)] from rfl]
  simp (disch := omega) only [B132_0, b132_0, B132_64, b132_64, B132_65, b132_65, g_iconst, g_lconst, g_iadd, g_isub, g_imul, g_iand, g_ior, g_ishl, g_ishr, g_iushr, g_ladd, g_lsub, g_lmul, g_land, g_lor, g_lcmp, g_ineg, g_lshl, g_lshr, g_i2l, g_l2i, g_dupi, g_dupr, g_pop, g_dup2, g_mabs_0, g_mabs_1, g_mabs_2, g_mabs_3, g_mmax_0, g_mmax_1, g_mmax_2, g_mmax_3, g_mmin_0, g_mmin_1, g_mmin_2, g_mmin_3, g_goto, g_jsr, g_icmp_eq, g_icmp_ne, g_icmp_lt, g_icmp_ge, g_icmp_gt, g_icmp_le, g_if_eq, g_if_ne, g_if_lt, g_if_ge, g_if_gt, g_if_le, g_idiv, g_irem, g_ldiv, g_iload, g_lload, g_aload, g_istore, g_astore, g_lstore, g_iinc, g_getfield, g_putfield, g_iaload, g_baload, g_laload, g_aaload, g_iastore, g_bastore, g_lastore, g_arraylength, g_call0_0, g_call0_1, g_call0_2, g_call0_3, g_call0_4, g_call1_0, g_call1_1, g_call1_2, g_call1_3, g_call1_4, g_call2_0, g_call2_1, g_call2_2, g_call2_3, g_call2_4, g_call3_0, g_call3_1, g_call3_2, g_call3_3, g_call3_4, g_call4_0, g_call4_1, g_call4_2, g_call4_3, g_call4_4, g_call5_0, g_call5_1, g_call5_2, g_call5_3, g_call5_4, g_call6_0, g_call6_1, g_call6_2, g_call6_3, g_call6_4, g_ireturn, g_lreturn, g_return, g_zreturn, sto_0, sto_s, sto2_0, sto2_s, isL_i, isL_r, isL_l, isL_j, ldI_0, ldI_9, ldZ_2, ldL_1, ldQ_3, stI_0, stL_1, stZ_2, gF_o, pF_o, lenA_9, oB_some, vI_i, vJ_j, vR_r, Option.map_some, List.getElem?_cons_zero, List.getElem?_cons_succ, Nat.reduceDiv, Nat.reduceMod, Int.reduceToNat, true_and, and_true, false_and, reduceIte, List.set_cons_zero, List.set_cons_succ, Option.toList_some, Option.toList_none, List.cons_append, List.nil_append, List.length_cons, List.length_nil, Nat.reduceAdd, Nat.reduceLeDiff, Nat.reduceLT, Nat.reduceEqDiff, and_self, and_false, Bool.false_eq_true, ho, h1, h2, iI_f, i32_0, i32_1, b2i_0, b2i_n, iI_add, iI_sub, iI_mul, iI_neg, iI_lt, iI_le, iI_eq, iI_in, iI_cl, i_nn, eq_self, true_or, or_true, not_true_eq_false, not_false_eq_true, Int.reduceEq, Int.reduceLT, Int.reduceLE, Int.reduceNeg]
  refine ite_c (fun c1 => ?_) (fun c1 => ite_c (fun c2 => ?_) (fun c2 => ?_))
  · have e : btM x y a b c = false := by simp only [btM, Bool.and_eq_false_iff, decide_eq_false_iff_not]; exact Or.inl (by omega)
    rw [e]; rfl
  · have e : btM x y a b c = false := by simp only [btM, Bool.and_eq_false_iff, decide_eq_false_iff_not]; exact Or.inr (by omega)
    rw [e]; rfl
  · have e : btM x y a b c = true := by simp only [btM, Bool.and_eq_true, decide_eq_true_eq]; exact ⟨by omega, by omega⟩
    rw [e]; rfl
theorem Pl.of {m : Nat → Nat} {f i : Nat} (hf : f < 4) (hi : i < m f) (h10 : m f ≤ 10) : Pl m (10 * f + i) := by
  have e1 : (10 * f + i) / 10 = f := by omega
  have e2 : (10 * f + i) % 10 = i := by omega
  rw [Pl, e1, e2]; exact ⟨hf, hi⟩
/-- a field's row -/
def fw (x : Nat → Int) (f : Nat) : Nat → Int := fun i => x (10 * f + i)
/-- a fan of turns at corner p, from corner k on -/
def fan (X Y : Nat → Int) (p : Nat) : Nat → Nat → Int → Int
  | _, 0, s => s
  | k, d + 1, s => fan X Y p (k + 1) d (s + sd X Y p k (k + 1))
theorem fok_R {x y : Nat → Int} {m : Nat → Nat} (hK : Fok x y m) {f : Nat} (hf : f < 4) : Rg (m f) (fw x f) (fw y f) := fun i hi => by
  have := (hK f hf).2 i hi
  exact ⟨this.1.1, this.1.2, this.2.1, this.2.2⟩
set_option maxRecDepth 10000 in
theorem l_areaOf {h : fH} {o : MO} {x y : Nat → Int} {m : Nat → Nat} (hF : Fld h o x y m) (hK : Fok x y m) {f p q : Nat} (hf : f < 4) (hp : p < m f) (hq : q < m f) : ∀ (d k : Nat) (s : Int), p < k → (k + d = q ∨ (d = 0 ∧ q ≤ k ∧ k ≤ 10)) →
    Go 137 (blk 137 8) [.ref 56, .int (iI f), .int (iI p), .int (iI q), .int (iI s), .int (iI k)] [] h (fun v h2 => v = some (.int (iI (fan (fw x f) (fw y f) p k d s))) ∧ h2 = h) := by
  have mp := (hK f hf).1
  intro d
  induction d with
  | zero =>
    intro k s hk hd
    rw [B137_8, b137_8]
    simp (disch := omega) only [B137_51, b137_51, g_iconst, g_lconst, g_iadd, g_isub, g_imul, g_iand, g_ior, g_ishl, g_ishr, g_iushr, g_ladd, g_lsub, g_lmul, g_land, g_lor, g_lcmp, g_ineg, g_lshl, g_lshr, g_i2l, g_l2i, g_dupi, g_dupr, g_pop, g_dup2, g_mabs_0, g_mabs_1, g_mabs_2, g_mabs_3, g_mmax_0, g_mmax_1, g_mmax_2, g_mmax_3, g_mmin_0, g_mmin_1, g_mmin_2, g_mmin_3, g_goto, g_jsr, g_icmp_eq, g_icmp_ne, g_icmp_lt, g_icmp_ge, g_icmp_gt, g_icmp_le, g_if_eq, g_if_ne, g_if_lt, g_if_ge, g_if_gt, g_if_le, g_idiv, g_irem, g_ldiv, g_iload, g_lload, g_aload, g_istore, g_astore, g_lstore, g_iinc, g_getfield, g_putfield, g_iaload, g_baload, g_laload, g_aaload, g_iastore, g_bastore, g_lastore, g_arraylength, g_call0_0, g_call0_1, g_call0_2, g_call0_3, g_call0_4, g_call1_0, g_call1_1, g_call1_2, g_call1_3, g_call1_4, g_call2_0, g_call2_1, g_call2_2, g_call2_3, g_call2_4, g_call3_0, g_call3_1, g_call3_2, g_call3_3, g_call3_4, g_call4_0, g_call4_1, g_call4_2, g_call4_3, g_call4_4, g_call5_0, g_call5_1, g_call5_2, g_call5_3, g_call5_4, g_call6_0, g_call6_1, g_call6_2, g_call6_3, g_call6_4, g_ireturn, g_lreturn, g_return, g_zreturn, sto_0, sto_s, sto2_0, sto2_s, isL_i, isL_r, isL_l, isL_j, ldI_0, ldI_9, ldZ_2, ldL_1, ldQ_3, stI_0, stL_1, stZ_2, gF_o, pF_o, lenA_9, oB_some, vI_i, vJ_j, vR_r, Option.map_some, List.getElem?_cons_zero, List.getElem?_cons_succ, Nat.reduceDiv, Nat.reduceMod, Int.reduceToNat, true_and, and_true, false_and, reduceIte, List.set_cons_zero, List.set_cons_succ, Option.toList_some, Option.toList_none, List.cons_append, List.nil_append, List.length_cons, List.length_nil, Nat.reduceAdd, Nat.reduceLeDiff, Nat.reduceLT, Nat.reduceEqDiff, and_self, and_false, Bool.false_eq_true, iI_f, i32_0, i32_1, b2i_0, b2i_n, iI_add, iI_sub, iI_mul, iI_neg, iI_lt, iI_le, iI_eq, iI_in, iI_cl, i_nn, eq_self, true_or, or_true, not_true_eq_false, not_false_eq_true, Int.reduceEq, Int.reduceLT, Int.reduceLE, Int.reduceNeg]
    exact ite_t (by omega) rfl
  | succ d ih =>
    intro k s hk hd
    have e1 : p % m f = p := Nat.mod_eq_of_lt hp
    have e2 : k % m f = k := Nat.mod_eq_of_lt (by omega)
    have e3 : (k + 1) % m f = k + 1 := Nat.mod_eq_of_lt (by omega)
    have c1 := m_place hF hK hf (i := p) (by omega) (by omega)
    have c2 := m_place hF hK hf (i := k) (by omega) (by omega)
    have c3 := m_place hF hK hf (i := k + 1) (by omega) (by omega)
    rw [e1] at c1
    rw [e2] at c2
    rw [e3] at c3
    have c4 := m_side hF hK (Pl.of hf hp mp) (Pl.of hf (show k < m f by omega) mp) (Pl.of hf (show k + 1 < m f by omega) mp)
    have w := ih (k + 1) (s + sd (fw x f) (fw y f) p k (k + 1)) (by omega) (by omega)
    rw [B137_8, b137_8]
    rw [show (((k + 1 : Nat)) : Int) = (k : Int) + 1 by omega] at c3
    simp (disch := omega) only [g_iconst, g_lconst, g_iadd, g_isub, g_imul, g_iand, g_ior, g_ishl, g_ishr, g_iushr, g_ladd, g_lsub, g_lmul, g_land, g_lor, g_lcmp, g_ineg, g_lshl, g_lshr, g_i2l, g_l2i, g_dupi, g_dupr, g_pop, g_dup2, g_mabs_0, g_mabs_1, g_mabs_2, g_mabs_3, g_mmax_0, g_mmax_1, g_mmax_2, g_mmax_3, g_mmin_0, g_mmin_1, g_mmin_2, g_mmin_3, g_goto, g_jsr, g_icmp_eq, g_icmp_ne, g_icmp_lt, g_icmp_ge, g_icmp_gt, g_icmp_le, g_if_eq, g_if_ne, g_if_lt, g_if_ge, g_if_gt, g_if_le, g_idiv, g_irem, g_ldiv, g_iload, g_lload, g_aload, g_istore, g_astore, g_lstore, g_iinc, g_getfield, g_putfield, g_iaload, g_baload, g_laload, g_aaload, g_iastore, g_bastore, g_lastore, g_arraylength, g_call0_0, g_call0_1, g_call0_2, g_call0_3, g_call0_4, g_call1_0, g_call1_1, g_call1_2, g_call1_3, g_call1_4, g_call2_0, g_call2_1, g_call2_2, g_call2_3, g_call2_4, g_call3_0, g_call3_1, g_call3_2, g_call3_3, g_call3_4, g_call4_0, g_call4_1, g_call4_2, g_call4_3, g_call4_4, g_call5_0, g_call5_1, g_call5_2, g_call5_3, g_call5_4, g_call6_0, g_call6_1, g_call6_2, g_call6_3, g_call6_4, g_ireturn, g_lreturn, g_return, g_zreturn, sto_0, sto_s, sto2_0, sto2_s, isL_i, isL_r, isL_l, isL_j, ldI_0, ldI_9, ldZ_2, ldL_1, ldQ_3, stI_0, stL_1, stZ_2, gF_o, pF_o, lenA_9, oB_some, vI_i, vJ_j, vR_r, Option.map_some, List.getElem?_cons_zero, List.getElem?_cons_succ, Nat.reduceDiv, Nat.reduceMod, Int.reduceToNat, true_and, and_true, false_and, reduceIte, List.set_cons_zero, List.set_cons_succ, Option.toList_some, Option.toList_none, List.cons_append, List.nil_append, List.length_cons, List.length_nil, Nat.reduceAdd, Nat.reduceLeDiff, Nat.reduceLT, Nat.reduceEqDiff, and_self, and_false, Bool.false_eq_true, c1, c2, c3, c4, iI_f, i32_0, i32_1, b2i_0, b2i_n, iI_add, iI_sub, iI_mul, iI_neg, iI_lt, iI_le, iI_eq, iI_in, iI_cl, i_nn, eq_self, true_or, or_true, not_true_eq_false, not_false_eq_true, Int.reduceEq, Int.reduceLT, Int.reduceLE, Int.reduceNeg]
    refine ite_f (by omega) ?_
    push_cast at w
    exact w
set_option maxRecDepth 10000 in
theorem m_areaOf {h : fH} {o : MO} {x y : Nat → Int} {m : Nat → Nat} (hF : Fld h o x y m) (hK : Fok x y m) {f p q : Nat} (hf : f < 4) (hp : p < m f) (hq : q < m f) (Q : Option Value → fH → Prop) : Call 137 [.ref 56, .int (iI f), .int (iI p), .int (iI q)] h Q ↔ Q (some (.int (iI (fan (fw x f) (fw y f) p (p + 1) (q - (p + 1)) 0)))) h := by
  have mp := (hK f hf).1
  obtain ⟨ho, h1, h2, h3⟩ := id hF
  unfold Mob at ho
  refine Call.iff ⟨by simp [vOK, entL, isL, mlT, kdT, clT, isO, ho], rfl, ?_⟩ Q
  rw [show ent 137 [.ref 56, .int (iI f), .int (iI p), .int (iI q)] = [.ref 56, .int (iI f), .int (iI p), .int (iI q), jk, jk] from rfl]
  simp (disch := omega) only [B137_0, b137_0, g_iconst, g_lconst, g_iadd, g_isub, g_imul, g_iand, g_ior, g_ishl, g_ishr, g_iushr, g_ladd, g_lsub, g_lmul, g_land, g_lor, g_lcmp, g_ineg, g_lshl, g_lshr, g_i2l, g_l2i, g_dupi, g_dupr, g_pop, g_dup2, g_mabs_0, g_mabs_1, g_mabs_2, g_mabs_3, g_mmax_0, g_mmax_1, g_mmax_2, g_mmax_3, g_mmin_0, g_mmin_1, g_mmin_2, g_mmin_3, g_goto, g_jsr, g_icmp_eq, g_icmp_ne, g_icmp_lt, g_icmp_ge, g_icmp_gt, g_icmp_le, g_if_eq, g_if_ne, g_if_lt, g_if_ge, g_if_gt, g_if_le, g_idiv, g_irem, g_ldiv, g_iload, g_lload, g_aload, g_istore, g_astore, g_lstore, g_iinc, g_getfield, g_putfield, g_iaload, g_baload, g_laload, g_aaload, g_iastore, g_bastore, g_lastore, g_arraylength, g_call0_0, g_call0_1, g_call0_2, g_call0_3, g_call0_4, g_call1_0, g_call1_1, g_call1_2, g_call1_3, g_call1_4, g_call2_0, g_call2_1, g_call2_2, g_call2_3, g_call2_4, g_call3_0, g_call3_1, g_call3_2, g_call3_3, g_call3_4, g_call4_0, g_call4_1, g_call4_2, g_call4_3, g_call4_4, g_call5_0, g_call5_1, g_call5_2, g_call5_3, g_call5_4, g_call6_0, g_call6_1, g_call6_2, g_call6_3, g_call6_4, g_ireturn, g_lreturn, g_return, g_zreturn, sto_0, sto_s, sto2_0, sto2_s, isL_i, isL_r, isL_l, isL_j, ldI_0, ldI_9, ldZ_2, ldL_1, ldQ_3, stI_0, stL_1, stZ_2, gF_o, pF_o, lenA_9, oB_some, vI_i, vJ_j, vR_r, Option.map_some, List.getElem?_cons_zero, List.getElem?_cons_succ, Nat.reduceDiv, Nat.reduceMod, Int.reduceToNat, true_and, and_true, false_and, reduceIte, List.set_cons_zero, List.set_cons_succ, Option.toList_some, Option.toList_none, List.cons_append, List.nil_append, List.length_cons, List.length_nil, Nat.reduceAdd, Nat.reduceLeDiff, Nat.reduceLT, Nat.reduceEqDiff, and_self, and_false, Bool.false_eq_true, iI_f, i32_0, i32_1, b2i_0, b2i_n, iI_add, iI_sub, iI_mul, iI_neg, iI_lt, iI_le, iI_eq, iI_in, iI_cl, i_nn, eq_self, true_or, or_true, not_true_eq_false, not_false_eq_true, Int.reduceEq, Int.reduceLT, Int.reduceLE, Int.reduceNeg]
  have w := l_areaOf hF hK hf hp hq (q - (p + 1)) (p + 1) 0 (by omega) (by omega)
  push_cast at w
  exact w
/-- the area of a field, twice and signed -/
def arM (X Y : Nat → Int) (n : Nat) : Int := fan X Y 0 1 (n - 1 - 1) 0
set_option maxRecDepth 10000 in
theorem m_area {h : fH} {o : MO} {x y : Nat → Int} {m : Nat → Nat} (hF : Fld h o x y m) (hK : Fok x y m) {f : Nat} (hf : f < 4) (h0 : 0 < m f) (Q : Option Value → fH → Prop) : Call 138 [.ref 56, .int (iI f)] h Q ↔ Q (some (.int (iI (arM (fw x f) (fw y f) (m f))))) h := by
  have mp := (hK f hf).1
  obtain ⟨ho, h1, h2, h3⟩ := id hF; unfold Mob at ho; unfold Row at h1 h2 h3
  have c := m_areaOf hF hK hf (p := 0) (q := m f - 1) h0 (by omega)
  rw [show ((m f - 1 : Nat) : Int) = (m f : Int) - 1 by omega, show ((0 : Nat) : Int) = 0 from rfl] at c
  refine Call.iff ⟨by simp [vOK, entL, isL, mlT, kdT, clT, isO, ho], rfl, ?_⟩ Q
  rw [show ent 138 [.ref 56, .int (iI f)] = [.ref 56, .int (iI f)] from rfl]
  simp (disch := omega) only [B138_0, b138_0, g_iconst, g_lconst, g_iadd, g_isub, g_imul, g_iand, g_ior, g_ishl, g_ishr, g_iushr, g_ladd, g_lsub, g_lmul, g_land, g_lor, g_lcmp, g_ineg, g_lshl, g_lshr, g_i2l, g_l2i, g_dupi, g_dupr, g_pop, g_dup2, g_mabs_0, g_mabs_1, g_mabs_2, g_mabs_3, g_mmax_0, g_mmax_1, g_mmax_2, g_mmax_3, g_mmin_0, g_mmin_1, g_mmin_2, g_mmin_3, g_goto, g_jsr, g_icmp_eq, g_icmp_ne, g_icmp_lt, g_icmp_ge, g_icmp_gt, g_icmp_le, g_if_eq, g_if_ne, g_if_lt, g_if_ge, g_if_gt, g_if_le, g_idiv, g_irem, g_ldiv, g_iload, g_lload, g_aload, g_istore, g_astore, g_lstore, g_iinc, g_getfield, g_putfield, g_iaload, g_baload, g_laload, g_aaload, g_iastore, g_bastore, g_lastore, g_arraylength, g_call0_0, g_call0_1, g_call0_2, g_call0_3, g_call0_4, g_call1_0, g_call1_1, g_call1_2, g_call1_3, g_call1_4, g_call2_0, g_call2_1, g_call2_2, g_call2_3, g_call2_4, g_call3_0, g_call3_1, g_call3_2, g_call3_3, g_call3_4, g_call4_0, g_call4_1, g_call4_2, g_call4_3, g_call4_4, g_call5_0, g_call5_1, g_call5_2, g_call5_3, g_call5_4, g_call6_0, g_call6_1, g_call6_2, g_call6_3, g_call6_4, g_ireturn, g_lreturn, g_return, g_zreturn, sto_0, sto_s, sto2_0, sto2_s, isL_i, isL_r, isL_l, isL_j, ldI_0, ldI_9, ldZ_2, ldL_1, ldQ_3, stI_0, stL_1, stZ_2, gF_o, pF_o, lenA_9, oB_some, vI_i, vJ_j, vR_r, Option.map_some, List.getElem?_cons_zero, List.getElem?_cons_succ, Nat.reduceDiv, Nat.reduceMod, Int.reduceToNat, true_and, and_true, false_and, reduceIte, List.set_cons_zero, List.set_cons_succ, Option.toList_some, Option.toList_none, List.cons_append, List.nil_append, List.length_cons, List.length_nil, Nat.reduceAdd, Nat.reduceLeDiff, Nat.reduceLT, Nat.reduceEqDiff, and_self, and_false, Bool.false_eq_true, ho, h3, c, iI_f, i32_0, i32_1, b2i_0, b2i_n, iI_add, iI_sub, iI_mul, iI_neg, iI_lt, iI_le, iI_eq, iI_in, iI_cl, i_nn, eq_self, true_or, or_true, not_true_eq_false, not_false_eq_true, Int.reduceEq, Int.reduceLT, Int.reduceLE, Int.reduceNeg]
  rfl
