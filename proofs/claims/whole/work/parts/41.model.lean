/-! The reference: reading the text, a field told. -/
theorem vM_bd (z : Int) : -1 ≤ vM z ∧ vM z ≤ 15 := by
  have := vOf_bd z
  unfold vM vOf at *
  (repeat' split at *) <;> omega
def tdM (X Y : Nat → Int) (u v : Int) (k : Nat) : Bool := decide (X k = u) && decide (Y k = v)
set_option maxRecDepth 10000 in
theorem l_isTold {h : fH} {o : MO} {X Y : Nat → Int} (hO : Mob h o) (hX : Row h 58 10 X) (hY : Row h 59 10 Y) {u v : Int} (hr : o.2.1 ≤ 10) (hb : ∀ k, k < o.2.1 → (-1 ≤ X k ∧ X k ≤ 15) ∧ -1 ≤ Y k ∧ Y k ≤ 15) (hu : -1 ≤ u ∧ u ≤ 15) (hv : -1 ≤ v ∧ v ≤ 15) : ∀ (d k : Nat) (b : Bool), k + d = o.2.1 →
    Go 116 (blk 116 5) [.ref 56, .int (iI u), .int (iI v), .int (iI (b2i b)), .int (iI k)] [] h (fun w h2 => w = some (.int (iI (b2i (b || anyF (tdM X Y u v) k d)))) ∧ h2 = h) := by
  unfold Mob at hO
  unfold Row at hX hY
  intro d
  induction d with
  | zero =>
    intro k b hk
    rw [B116_5, b116_5]
    simp (disch := omega) only [B116_52, b116_52, g_iconst, g_lconst, g_iadd, g_isub, g_imul, g_iand, g_ior, g_ishl, g_ishr, g_iushr, g_ladd, g_lsub, g_lmul, g_land, g_lor, g_lcmp, g_ineg, g_lshl, g_lshr, g_i2l, g_l2i, g_dupi, g_dupr, g_pop, g_dup2, g_mabs_0, g_mabs_1, g_mabs_2, g_mabs_3, g_mmax_0, g_mmax_1, g_mmax_2, g_mmax_3, g_mmin_0, g_mmin_1, g_mmin_2, g_mmin_3, g_goto, g_jsr, g_icmp_eq, g_icmp_ne, g_icmp_lt, g_icmp_ge, g_icmp_gt, g_icmp_le, g_if_eq, g_if_ne, g_if_lt, g_if_ge, g_if_gt, g_if_le, g_idiv, g_irem, g_ldiv, g_iload, g_lload, g_aload, g_istore, g_astore, g_lstore, g_iinc, g_getfield, g_putfield, g_iaload, g_baload, g_laload, g_aaload, g_iastore, g_bastore, g_lastore, g_arraylength, g_call0_0, g_call0_1, g_call0_2, g_call0_3, g_call0_4, g_call1_0, g_call1_1, g_call1_2, g_call1_3, g_call1_4, g_call2_0, g_call2_1, g_call2_2, g_call2_3, g_call2_4, g_call3_0, g_call3_1, g_call3_2, g_call3_3, g_call3_4, g_call4_0, g_call4_1, g_call4_2, g_call4_3, g_call4_4, g_call5_0, g_call5_1, g_call5_2, g_call5_3, g_call5_4, g_call6_0, g_call6_1, g_call6_2, g_call6_3, g_call6_4, g_ireturn, g_lreturn, g_return, g_zreturn, sto_0, sto_s, sto2_0, sto2_s, isL_i, isL_r, isL_l, isL_j, ldI_0, ldI_9, ldZ_2, ldL_1, ldQ_3, stI_0, stL_1, stZ_2, gF_o, pF_o, lenA_9, oB_some, vI_i, vJ_j, vR_r, Option.map_some, List.getElem?_cons_zero, List.getElem?_cons_succ, Nat.reduceDiv, Nat.reduceMod, Int.reduceToNat, true_and, and_true, false_and, reduceIte, List.set_cons_zero, List.set_cons_succ, Option.toList_some, Option.toList_none, List.cons_append, List.nil_append, List.length_cons, List.length_nil, Nat.reduceAdd, Nat.reduceLeDiff, Nat.reduceLT, Nat.reduceEqDiff, and_self, and_false, Bool.false_eq_true, hO, iI_f, i32_0, i32_1, b2i_0, b2i_n, iI_add, iI_sub, iI_mul, iI_neg, iI_lt, iI_le, iI_eq, iI_in, iI_cl, i_nn, eq_self, true_or, or_true, not_true_eq_false, not_false_eq_true, Int.reduceEq, Int.reduceLT, Int.reduceLE, Int.reduceNeg]
    refine ite_t (by omega) ?_
    cases b <;> exact ⟨by decide, rfl⟩
  | succ d ih =>
    intro k b hk
    have hk2 := hb k (by omega)
    have w1 := ih (k + 1) true (by omega)
    have w0 := ih (k + 1) false (by omega)
    push_cast at w1 w0
    rw [show b2i true = 1 from rfl] at w1
    rw [show b2i false = 0 from rfl] at w0
    rw [B116_5, b116_5]
    simp (disch := omega) only [B116_40, b116_40, B116_44, b116_44, B116_45, b116_45, g_iconst, g_lconst, g_iadd, g_isub, g_imul, g_iand, g_ior, g_ishl, g_ishr, g_iushr, g_ladd, g_lsub, g_lmul, g_land, g_lor, g_lcmp, g_ineg, g_lshl, g_lshr, g_i2l, g_l2i, g_dupi, g_dupr, g_pop, g_dup2, g_mabs_0, g_mabs_1, g_mabs_2, g_mabs_3, g_mmax_0, g_mmax_1, g_mmax_2, g_mmax_3, g_mmin_0, g_mmin_1, g_mmin_2, g_mmin_3, g_goto, g_jsr, g_icmp_eq, g_icmp_ne, g_icmp_lt, g_icmp_ge, g_icmp_gt, g_icmp_le, g_if_eq, g_if_ne, g_if_lt, g_if_ge, g_if_gt, g_if_le, g_idiv, g_irem, g_ldiv, g_iload, g_lload, g_aload, g_istore, g_astore, g_lstore, g_iinc, g_getfield, g_putfield, g_iaload, g_baload, g_laload, g_aaload, g_iastore, g_bastore, g_lastore, g_arraylength, g_call0_0, g_call0_1, g_call0_2, g_call0_3, g_call0_4, g_call1_0, g_call1_1, g_call1_2, g_call1_3, g_call1_4, g_call2_0, g_call2_1, g_call2_2, g_call2_3, g_call2_4, g_call3_0, g_call3_1, g_call3_2, g_call3_3, g_call3_4, g_call4_0, g_call4_1, g_call4_2, g_call4_3, g_call4_4, g_call5_0, g_call5_1, g_call5_2, g_call5_3, g_call5_4, g_call6_0, g_call6_1, g_call6_2, g_call6_3, g_call6_4, g_ireturn, g_lreturn, g_return, g_zreturn, sto_0, sto_s, sto2_0, sto2_s, isL_i, isL_r, isL_l, isL_j, ldI_0, ldI_9, ldZ_2, ldL_1, ldQ_3, stI_0, stL_1, stZ_2, gF_o, pF_o, lenA_9, oB_some, vI_i, vJ_j, vR_r, Option.map_some, List.getElem?_cons_zero, List.getElem?_cons_succ, Nat.reduceDiv, Nat.reduceMod, Int.reduceToNat, true_and, and_true, false_and, reduceIte, List.set_cons_zero, List.set_cons_succ, Option.toList_some, Option.toList_none, List.cons_append, List.nil_append, List.length_cons, List.length_nil, Nat.reduceAdd, Nat.reduceLeDiff, Nat.reduceLT, Nat.reduceEqDiff, and_self, and_false, Bool.false_eq_true, hO, hX, hY, iI_f, i32_0, i32_1, b2i_0, b2i_n, iI_add, iI_sub, iI_mul, iI_neg, iI_lt, iI_le, iI_eq, iI_in, iI_cl, i_nn, eq_self, true_or, or_true, not_true_eq_false, not_false_eq_true, Int.reduceEq, Int.reduceLT, Int.reduceLE, Int.reduceNeg]
    refine ite_f (by omega) (ite_c (fun c1 => ?_) (fun c1 => ?_))
    · rw [c1, Bool.true_or]
      rw [Bool.true_or] at w1
      exact w1
    · rw [Bool.not_eq_true] at c1
      rw [c1, Bool.false_or]
      refine ite_c (fun c2 => ?_) (fun c2 => ite_c (fun c3 => ?_) (fun c3 => ?_))
      · have e : anyF (tdM X Y u v) k (d + 1) = anyF (tdM X Y u v) (k + 1) d := by rw [anyF]; simp [tdM, c2]
        rw [e]; exact w0
      · have e : anyF (tdM X Y u v) k (d + 1) = anyF (tdM X Y u v) (k + 1) d := by rw [anyF]; simp [tdM, c3]
        rw [e]; exact w0
      · have e : anyF (tdM X Y u v) k (d + 1) = true := by rw [anyF]; simp [tdM, Classical.byContradiction c2, Classical.byContradiction c3]
        rw [e]; exact w1
set_option maxRecDepth 10000 in
theorem m_isTold {h : fH} {o : MO} {X Y : Nat → Int} (hO : Mob h o) (hX : Row h 58 10 X) (hY : Row h 59 10 Y) {u v : Int} (hr : o.2.1 ≤ 10) (hb : ∀ k, k < o.2.1 → (-1 ≤ X k ∧ X k ≤ 15) ∧ -1 ≤ Y k ∧ Y k ≤ 15) (hu : -1 ≤ u ∧ u ≤ 15) (hv : -1 ≤ v ∧ v ≤ 15) (Q : Option Value → fH → Prop) : Call 116 [.ref 56, .int (iI u), .int (iI v)] h Q ↔ Q (some (.int (iI (b2i (anyF (tdM X Y u v) 0 o.2.1))))) h := by
  have ho := id hO
  unfold Mob at ho
  refine Call.iff ⟨by simp [vOK, entL, isL, mlT, kdT, clT, isO, ho], rfl, ?_⟩ Q
  rw [show ent 116 [.ref 56, .int (iI u), .int (iI v)] = [.ref 56, .int (iI u), .int (iI v), jk, jk] from rfl]
  simp (disch := omega) only [B116_0, b116_0, g_iconst, g_lconst, g_iadd, g_isub, g_imul, g_iand, g_ior, g_ishl, g_ishr, g_iushr, g_ladd, g_lsub, g_lmul, g_land, g_lor, g_lcmp, g_ineg, g_lshl, g_lshr, g_i2l, g_l2i, g_dupi, g_dupr, g_pop, g_dup2, g_mabs_0, g_mabs_1, g_mabs_2, g_mabs_3, g_mmax_0, g_mmax_1, g_mmax_2, g_mmax_3, g_mmin_0, g_mmin_1, g_mmin_2, g_mmin_3, g_goto, g_jsr, g_icmp_eq, g_icmp_ne, g_icmp_lt, g_icmp_ge, g_icmp_gt, g_icmp_le, g_if_eq, g_if_ne, g_if_lt, g_if_ge, g_if_gt, g_if_le, g_idiv, g_irem, g_ldiv, g_iload, g_lload, g_aload, g_istore, g_astore, g_lstore, g_iinc, g_getfield, g_putfield, g_iaload, g_baload, g_laload, g_aaload, g_iastore, g_bastore, g_lastore, g_arraylength, g_call0_0, g_call0_1, g_call0_2, g_call0_3, g_call0_4, g_call1_0, g_call1_1, g_call1_2, g_call1_3, g_call1_4, g_call2_0, g_call2_1, g_call2_2, g_call2_3, g_call2_4, g_call3_0, g_call3_1, g_call3_2, g_call3_3, g_call3_4, g_call4_0, g_call4_1, g_call4_2, g_call4_3, g_call4_4, g_call5_0, g_call5_1, g_call5_2, g_call5_3, g_call5_4, g_call6_0, g_call6_1, g_call6_2, g_call6_3, g_call6_4, g_ireturn, g_lreturn, g_return, g_zreturn, sto_0, sto_s, sto2_0, sto2_s, isL_i, isL_r, isL_l, isL_j, ldI_0, ldI_9, ldZ_2, ldL_1, ldQ_3, stI_0, stL_1, stZ_2, gF_o, pF_o, lenA_9, oB_some, vI_i, vJ_j, vR_r, Option.map_some, List.getElem?_cons_zero, List.getElem?_cons_succ, Nat.reduceDiv, Nat.reduceMod, Int.reduceToNat, true_and, and_true, false_and, reduceIte, List.set_cons_zero, List.set_cons_succ, Option.toList_some, Option.toList_none, List.cons_append, List.nil_append, List.length_cons, List.length_nil, Nat.reduceAdd, Nat.reduceLeDiff, Nat.reduceLT, Nat.reduceEqDiff, and_self, and_false, Bool.false_eq_true, iI_f, i32_0, i32_1, b2i_0, b2i_n, iI_add, iI_sub, iI_mul, iI_neg, iI_lt, iI_le, iI_eq, iI_in, iI_cl, i_nn, eq_self, true_or, or_true, not_true_eq_false, not_false_eq_true, Int.reduceEq, Int.reduceLT, Int.reduceLE, Int.reduceNeg]
  have w := l_isTold hO hX hY hr hb hu hv o.2.1 0 false (by omega)
  rw [Bool.false_or] at w
  exact w
/-- x, y of corner k by the bytes -/
def vX (B : Nat → Int) (k : Nat) : Int := vM (B (2 * k))
def vY (B : Nat → Int) (k : Nat) : Int := vM (B (2 * k + 1))
def ftM (B : Nat → Int) (i : Nat) : Bool := decide (vM (B i) < 0) || decide (i / 2 = 10) || (decide (i % 2 = 1) && anyF (tdM (vX B) (vY B) (vM (B (i - 1))) (vM (B i))) 0 (i / 2))
def rtM (B : Nat → Int) (L : Nat) : Nat → Nat → Int
  | _, 0 => if L % 2 = 1 ∨ L / 2 < 3 then L else -9
  | i, d + 1 => if ftM B i = true then i else rtM B L (i + 1) d
theorem rtM_bd (B : Nat → Int) {L : Nat} (hL : L ≤ 24) : ∀ (d i : Nat), i + d = L → -9 ≤ rtM B L i d ∧ rtM B L i d ≤ 24
  | 0, i, h => by rw [rtM]; split <;> omega
  | d + 1, i, h => by
    rw [rtM]; split
    · omega
    · exact rtM_bd B hL d (i + 1) (by omega)
def rdS : Nat → Prop := fun k => k = 56 ∨ k = 58 ∨ k = 59
theorem anyF_c {p q : Nat → Bool} : ∀ (d i : Nat), (∀ j, i ≤ j → j < i + d → p j = q j) → anyF p i d = anyF q i d
  | 0, _, _ => rfl
  | d + 1, i, h => by rw [anyF, anyF, h i (by omega) (by omega), anyF_c d (i + 1) (fun j a b => h j (by omega) (by omega))]
set_option maxRecDepth 10000 in
theorem l_readText {h0 : fH} {L : Nat} {B X Y : Nat → Int} (hL : L ≤ 24) (hB : Byt B L) {Q : Option Value → fH → Prop} (hq : ∀ h' (o' : MO) X' Y', o'.1 = L → Mob h' o' → Row h' 58 10 X' → Row h' 59 10 Y' → Fr h0 h' rdS → (rtM B L 0 L = -9 → o'.2.1 = L / 2 ∧ X' = fill (vX B) X (L / 2) ∧ Y' = fill (vY B) Y (L / 2)) → Q (some (.int (iI (rtM B L 0 L)))) h') : ∀ (d i : Nat) (h : fH) (o : MO) (z : Value), i + d = L → rtM B L 0 L = rtM B L i d → (i / 2 ≤ 10) → isL z = false → o.1 = L → o.2.1 = i / 2 → Mob h o → Row h 57 24 B → Row h 58 10 (fill (vX B) X (i / 2)) → Row h 59 10 (fill (vY B) Y (i / 2)) → Fr h0 h rdS →
    Go 117 (blk 117 7) [.ref 56, .int (iI i), z] [] h Q := by
  intro d
  induction d with
  | zero =>
    intro i h o z hi er hm hz e1 e2 hO h57 h58 h59 hF
    have ho := id hO
    unfold Mob at ho
    have em : (L : Int).tmod 2 = ((L % 2 : Nat) : Int) := rfl
    rw [B117_7, b117_7]
    simp (disch := omega) only [B117_119, b117_119, B117_137, b117_137, B117_144, b117_144, B117_146, b117_146, g_iconst, g_lconst, g_iadd, g_isub, g_imul, g_iand, g_ior, g_ishl, g_ishr, g_iushr, g_ladd, g_lsub, g_lmul, g_land, g_lor, g_lcmp, g_ineg, g_lshl, g_lshr, g_i2l, g_l2i, g_dupi, g_dupr, g_pop, g_dup2, g_mabs_0, g_mabs_1, g_mabs_2, g_mabs_3, g_mmax_0, g_mmax_1, g_mmax_2, g_mmax_3, g_mmin_0, g_mmin_1, g_mmin_2, g_mmin_3, g_goto, g_jsr, g_icmp_eq, g_icmp_ne, g_icmp_lt, g_icmp_ge, g_icmp_gt, g_icmp_le, g_if_eq, g_if_ne, g_if_lt, g_if_ge, g_if_gt, g_if_le, g_idiv, g_irem, g_ldiv, g_iload, g_lload, g_aload, g_istore, g_astore, g_lstore, g_iinc, g_getfield, g_putfield, g_iaload, g_baload, g_laload, g_aaload, g_iastore, g_bastore, g_lastore, g_arraylength, g_call0_0, g_call0_1, g_call0_2, g_call0_3, g_call0_4, g_call1_0, g_call1_1, g_call1_2, g_call1_3, g_call1_4, g_call2_0, g_call2_1, g_call2_2, g_call2_3, g_call2_4, g_call3_0, g_call3_1, g_call3_2, g_call3_3, g_call3_4, g_call4_0, g_call4_1, g_call4_2, g_call4_3, g_call4_4, g_call5_0, g_call5_1, g_call5_2, g_call5_3, g_call5_4, g_call6_0, g_call6_1, g_call6_2, g_call6_3, g_call6_4, g_ireturn, g_lreturn, g_return, g_zreturn, sto_0, sto_s, sto2_0, sto2_s, isL_i, isL_r, isL_l, isL_j, ldI_0, ldI_9, ldZ_2, ldL_1, ldQ_3, stI_0, stL_1, stZ_2, gF_o, pF_o, lenA_9, oB_some, vI_i, vJ_j, vR_r, Option.map_some, List.getElem?_cons_zero, List.getElem?_cons_succ, Nat.reduceDiv, Nat.reduceMod, Int.reduceToNat, true_and, and_true, false_and, reduceIte, List.set_cons_zero, List.set_cons_succ, Option.toList_some, Option.toList_none, List.cons_append, List.nil_append, List.length_cons, List.length_nil, Nat.reduceAdd, Nat.reduceLeDiff, Nat.reduceLT, Nat.reduceEqDiff, and_self, and_false, Bool.false_eq_true, ho, e1, e2, iI_rem, em, iI_f, i32_0, i32_1, b2i_0, b2i_n, iI_add, iI_sub, iI_mul, iI_neg, iI_lt, iI_le, iI_eq, iI_in, iI_cl, i_nn, eq_self, true_or, or_true, not_true_eq_false, not_false_eq_true, Int.reduceEq, Int.reduceLT, Int.reduceLE, Int.reduceNeg]
    refine ite_t (by omega) ?_
    obtain rfl : i = L := by omega
    have w := hq h o _ _ e1 hO h58 h59 hF (fun _ => ⟨e2, rfl, rfl⟩)
    rw [er, rtM] at w
    refine ite_c (fun c1 => ?_) (fun c1 => ite_c (fun c2 => ?_) (fun c2 => ?_))
    · rw [if_pos (by omega)] at w; exact w
    · rw [if_neg (by omega)] at w; exact w
    · rw [if_pos (by omega)] at w; exact w
  | succ d ih =>
    intro i h o z hi er hm hz e1 e2 hO h57 h58 h59 hF
    have ho := id hO
    have g57 := id h57
    have g58 := id h58
    have g59 := id h59
    unfold Mob at ho
    unfold Row at g57 g58 g59
    have b1 := hB i (by omega)
    have v1 := vM_bd (B i)
    have v2 := vM_bd (B (i - 1))
    have em : (i : Int).tmod 2 = ((i % 2 : Nat) : Int) := rfl
    rw [rtM] at er
    have out : ftM B i = true → Q (some (.int (iI i))) h := fun c => by
      rw [if_pos c] at er
      have w := hq h o _ _ e1 hO h58 h59 hF (fun c2 => by rw [er] at c2; omega)
      rw [er] at w
      exact w
    have ct := m_valueOf (h := h) (z := B i) b1
    rw [B117_7, b117_7]
    simp (disch := omega) only [B117_64, b117_64, g_iconst, g_lconst, g_iadd, g_isub, g_imul, g_iand, g_ior, g_ishl, g_ishr, g_iushr, g_ladd, g_lsub, g_lmul, g_land, g_lor, g_lcmp, g_ineg, g_lshl, g_lshr, g_i2l, g_l2i, g_dupi, g_dupr, g_pop, g_dup2, g_mabs_0, g_mabs_1, g_mabs_2, g_mabs_3, g_mmax_0, g_mmax_1, g_mmax_2, g_mmax_3, g_mmin_0, g_mmin_1, g_mmin_2, g_mmin_3, g_goto, g_jsr, g_icmp_eq, g_icmp_ne, g_icmp_lt, g_icmp_ge, g_icmp_gt, g_icmp_le, g_if_eq, g_if_ne, g_if_lt, g_if_ge, g_if_gt, g_if_le, g_idiv, g_irem, g_ldiv, g_iload, g_lload, g_aload, g_istore, g_astore, g_lstore, g_iinc, g_getfield, g_putfield, g_iaload, g_baload, g_laload, g_aaload, g_iastore, g_bastore, g_lastore, g_arraylength, g_call0_0, g_call0_1, g_call0_2, g_call0_3, g_call0_4, g_call1_0, g_call1_1, g_call1_2, g_call1_3, g_call1_4, g_call2_0, g_call2_1, g_call2_2, g_call2_3, g_call2_4, g_call3_0, g_call3_1, g_call3_2, g_call3_3, g_call3_4, g_call4_0, g_call4_1, g_call4_2, g_call4_3, g_call4_4, g_call5_0, g_call5_1, g_call5_2, g_call5_3, g_call5_4, g_call6_0, g_call6_1, g_call6_2, g_call6_3, g_call6_4, g_ireturn, g_lreturn, g_return, g_zreturn, sto_0, sto_s, sto2_0, sto2_s, isL_i, isL_r, isL_l, isL_j, ldI_0, ldI_9, ldZ_2, ldL_1, ldQ_3, stI_0, stL_1, stZ_2, gF_o, pF_o, lenA_9, oB_some, vI_i, vJ_j, vR_r, Option.map_some, List.getElem?_cons_zero, List.getElem?_cons_succ, Nat.reduceDiv, Nat.reduceMod, Int.reduceToNat, true_and, and_true, false_and, reduceIte, List.set_cons_zero, List.set_cons_succ, Option.toList_some, Option.toList_none, List.cons_append, List.nil_append, List.length_cons, List.length_nil, Nat.reduceAdd, Nat.reduceLeDiff, Nat.reduceLT, Nat.reduceEqDiff, and_self, and_false, Bool.false_eq_true, ho, e1, e2, g57, hz, ct, iI_rem, em, iI_f, i32_0, i32_1, b2i_0, b2i_n, iI_add, iI_sub, iI_mul, iI_neg, iI_lt, iI_le, iI_eq, iI_in, iI_cl, i_nn, eq_self, true_or, or_true, not_true_eq_false, not_false_eq_true, Int.reduceEq, Int.reduceLT, Int.reduceLE, Int.reduceNeg]
    refine ite_f (by omega) (ite_c (fun c1 => ?_) (fun c1 => ?_))
    · exact out (by simp [ftM]; left; left; omega)
    · refine ite_c (fun c2 => ?_) (fun c2 => ?_)
      · exact out (by simp [ftM]; left; right; omega)
      · by_cases c3 : i % 2 = 1
        · have b2 := hB (i - 1) (by omega)
          have ct2 := m_valueOf (h := h) (z := B (i - 1)) b2
          have e5 : ((i : Int) - 1).toNat = i - 1 := by omega
          have t := m_isTold (u := vM (B (i - 1))) (v := vM (B i)) hO h58 h59 (by omega) (fun k hk => by
            rw [fill_lt (by omega), fill_lt (by omega)]; exact ⟨vM_bd _, vM_bd _⟩) v2 v1
          have et : anyF (tdM (fill (vX B) X (i / 2)) (fill (vY B) Y (i / 2)) (vM (B (i - 1))) (vM (B i))) 0 o.2.1 = anyF (tdM (vX B) (vY B) (vM (B (i - 1))) (vM (B i))) 0 (i / 2) := by
            rw [e2]; exact anyF_c _ _ (fun j a b => by simp only [tdM]; rw [fill_lt (by omega), fill_lt (by omega)])
          rw [et] at t
          refine ite_f (by omega) ?_
          simp (disch := omega) only [B117_64, b117_64, g_iconst, g_lconst, g_iadd, g_isub, g_imul, g_iand, g_ior, g_ishl, g_ishr, g_iushr, g_ladd, g_lsub, g_lmul, g_land, g_lor, g_lcmp, g_ineg, g_lshl, g_lshr, g_i2l, g_l2i, g_dupi, g_dupr, g_pop, g_dup2, g_mabs_0, g_mabs_1, g_mabs_2, g_mabs_3, g_mmax_0, g_mmax_1, g_mmax_2, g_mmax_3, g_mmin_0, g_mmin_1, g_mmin_2, g_mmin_3, g_goto, g_jsr, g_icmp_eq, g_icmp_ne, g_icmp_lt, g_icmp_ge, g_icmp_gt, g_icmp_le, g_if_eq, g_if_ne, g_if_lt, g_if_ge, g_if_gt, g_if_le, g_idiv, g_irem, g_ldiv, g_iload, g_lload, g_aload, g_istore, g_astore, g_lstore, g_iinc, g_getfield, g_putfield, g_iaload, g_baload, g_laload, g_aaload, g_iastore, g_bastore, g_lastore, g_arraylength, g_call0_0, g_call0_1, g_call0_2, g_call0_3, g_call0_4, g_call1_0, g_call1_1, g_call1_2, g_call1_3, g_call1_4, g_call2_0, g_call2_1, g_call2_2, g_call2_3, g_call2_4, g_call3_0, g_call3_1, g_call3_2, g_call3_3, g_call3_4, g_call4_0, g_call4_1, g_call4_2, g_call4_3, g_call4_4, g_call5_0, g_call5_1, g_call5_2, g_call5_3, g_call5_4, g_call6_0, g_call6_1, g_call6_2, g_call6_3, g_call6_4, g_ireturn, g_lreturn, g_return, g_zreturn, sto_0, sto_s, sto2_0, sto2_s, isL_i, isL_r, isL_l, isL_j, ldI_0, ldI_9, ldZ_2, ldL_1, ldQ_3, stI_0, stL_1, stZ_2, gF_o, pF_o, lenA_9, oB_some, vI_i, vJ_j, vR_r, Option.map_some, List.getElem?_cons_zero, List.getElem?_cons_succ, Nat.reduceDiv, Nat.reduceMod, Int.reduceToNat, true_and, and_true, false_and, reduceIte, List.set_cons_zero, List.set_cons_succ, Option.toList_some, Option.toList_none, List.cons_append, List.nil_append, List.length_cons, List.length_nil, Nat.reduceAdd, Nat.reduceLeDiff, Nat.reduceLT, Nat.reduceEqDiff, and_self, and_false, Bool.false_eq_true, ho, g57, e5, ct2, t, iI_f, i32_0, i32_1, b2i_0, b2i_n, iI_add, iI_sub, iI_mul, iI_neg, iI_lt, iI_le, iI_eq, iI_in, iI_cl, i_nn, eq_self, true_or, or_true, not_true_eq_false, not_false_eq_true, Int.reduceEq, Int.reduceLT, Int.reduceLE, Int.reduceNeg]
          refine ite_c (fun c4 => ?_) (fun c4 => ?_)
          · rw [if_neg (by simp only [ftM, c4, Bool.and_false, Bool.or_false, Bool.or_eq_true, decide_eq_true_eq]; omega)] at er
            simp (disch := omega) only [B117_66, b117_66, B117_113, b117_113, g_iconst, g_lconst, g_iadd, g_isub, g_imul, g_iand, g_ior, g_ishl, g_ishr, g_iushr, g_ladd, g_lsub, g_lmul, g_land, g_lor, g_lcmp, g_ineg, g_lshl, g_lshr, g_i2l, g_l2i, g_dupi, g_dupr, g_pop, g_dup2, g_mabs_0, g_mabs_1, g_mabs_2, g_mabs_3, g_mmax_0, g_mmax_1, g_mmax_2, g_mmax_3, g_mmin_0, g_mmin_1, g_mmin_2, g_mmin_3, g_goto, g_jsr, g_icmp_eq, g_icmp_ne, g_icmp_lt, g_icmp_ge, g_icmp_gt, g_icmp_le, g_if_eq, g_if_ne, g_if_lt, g_if_ge, g_if_gt, g_if_le, g_idiv, g_irem, g_ldiv, g_iload, g_lload, g_aload, g_istore, g_astore, g_lstore, g_iinc, g_getfield, g_putfield, g_iaload, g_baload, g_laload, g_aaload, g_iastore, g_bastore, g_lastore, g_arraylength, g_call0_0, g_call0_1, g_call0_2, g_call0_3, g_call0_4, g_call1_0, g_call1_1, g_call1_2, g_call1_3, g_call1_4, g_call2_0, g_call2_1, g_call2_2, g_call2_3, g_call2_4, g_call3_0, g_call3_1, g_call3_2, g_call3_3, g_call3_4, g_call4_0, g_call4_1, g_call4_2, g_call4_3, g_call4_4, g_call5_0, g_call5_1, g_call5_2, g_call5_3, g_call5_4, g_call6_0, g_call6_1, g_call6_2, g_call6_3, g_call6_4, g_ireturn, g_lreturn, g_return, g_zreturn, sto_0, sto_s, sto2_0, sto2_s, isL_i, isL_r, isL_l, isL_j, ldI_0, ldI_9, ldZ_2, ldL_1, ldQ_3, stI_0, stL_1, stZ_2, gF_o, pF_o, lenA_9, oB_some, vI_i, vJ_j, vR_r, Option.map_some, List.getElem?_cons_zero, List.getElem?_cons_succ, Nat.reduceDiv, Nat.reduceMod, Int.reduceToNat, true_and, and_true, false_and, reduceIte, List.set_cons_zero, List.set_cons_succ, Option.toList_some, Option.toList_none, List.cons_append, List.nil_append, List.length_cons, List.length_nil, Nat.reduceAdd, Nat.reduceLeDiff, Nat.reduceLT, Nat.reduceEqDiff, and_self, and_false, Bool.false_eq_true, ho, g57, g58, g59, e1, e2, e5, ct2, iI_rem, em, upd_i, fg_st_s, fg_st_n, fk196, fit_i, iI_f, i32_0, i32_1, b2i_0, b2i_n, iI_add, iI_sub, iI_mul, iI_neg, iI_lt, iI_le, iI_eq, iI_in, iI_cl, i_nn, eq_self, true_or, or_true, not_true_eq_false, not_false_eq_true, Int.reduceEq, Int.reduceLT, Int.reduceLE, Int.reduceNeg]
            refine ite_f (by omega) ?_
            have ex : updZ (fill (vX B) X (i / 2)) (i / 2) (vM (B (i - 1))) = fill (vX B) X ((i + 1) / 2) := by
              rw [show (i + 1) / 2 = i / 2 + 1 by omega, ← fill_s]; congr 1; unfold vX; congr 2; omega
            have ey : updZ (fill (vY B) Y (i / 2)) (i / 2) (vM (B i)) = fill (vY B) Y ((i + 1) / 2) := by
              rw [show (i + 1) / 2 = i / 2 + 1 by omega, ← fill_s]; congr 1; unfold vY; congr 2; omega
            rw [ex, ey]
            have w := ih (i + 1) (f_st (f_st (f_st h 58 (.inl (0, 10, .inl (fun j => iI (fill (vX B) X ((i + 1) / 2) j))))) 59 (.inl (0, 10, .inl (fun j => iI (fill (vY B) Y ((i + 1) / 2) j))))) 56 (.inr (6, [.ref 57, .int (iI (L : Int)), .ref 58, .ref 59, .int (iI (((i + 1) / 2 : Nat) : Int)), .ref 60, .ref 61, .ref 62, .ref 63, .ref 64, .ref 65, .ref 66, .int (iI o.2.2.1), .ref 67, .ref 68, .ref 69, .ref 70, .ref 71, .ref 72, .int (iI o.2.2.2.1), .int (iI o.2.2.2.2.1), .int (iI o.2.2.2.2.2.1), .int (iI o.2.2.2.2.2.2.1), .int (iI o.2.2.2.2.2.2.2), .ref 73, .ref 74, .ref 75, .ref 76]))) (L, (i + 1) / 2, o.2.2) (.int (iI (vM (B i)))) (by omega) er (by omega) rfl rfl rfl (by unfold Mob; rw [fg_st_s]) (by unfold Row; rw [fg_st_n (by omega), fg_st_n (by omega), fg_st_n (by omega)]; exact g57) (by unfold Row; rw [fg_st_n (by omega), fg_st_n (by omega), fg_st_s]) (by unfold Row; rw [fg_st_n (by omega), fg_st_s]) (((hF.st (a := 58) (by simp [rdS])).st (a := 59) (by simp [rdS])).st (a := 56) (by simp [rdS]))
            rw [show ((i / 2 : Nat) : Int) + 1 = (((i + 1) / 2 : Nat) : Int) by omega]
            push_cast at w ⊢
            exact w
          · rw [b2i_n] at c4
            exact out (by simp [ftM, c4, c3])
        · refine ite_t (by omega) ?_
          rw [if_neg (by simp only [ftM, c3, decide_false, Bool.false_and, Bool.or_false, Bool.or_eq_true, decide_eq_true_eq]; omega)] at er
          simp (disch := omega) only [B117_66, b117_66, B117_113, b117_113, g_iconst, g_lconst, g_iadd, g_isub, g_imul, g_iand, g_ior, g_ishl, g_ishr, g_iushr, g_ladd, g_lsub, g_lmul, g_land, g_lor, g_lcmp, g_ineg, g_lshl, g_lshr, g_i2l, g_l2i, g_dupi, g_dupr, g_pop, g_dup2, g_mabs_0, g_mabs_1, g_mabs_2, g_mabs_3, g_mmax_0, g_mmax_1, g_mmax_2, g_mmax_3, g_mmin_0, g_mmin_1, g_mmin_2, g_mmin_3, g_goto, g_jsr, g_icmp_eq, g_icmp_ne, g_icmp_lt, g_icmp_ge, g_icmp_gt, g_icmp_le, g_if_eq, g_if_ne, g_if_lt, g_if_ge, g_if_gt, g_if_le, g_idiv, g_irem, g_ldiv, g_iload, g_lload, g_aload, g_istore, g_astore, g_lstore, g_iinc, g_getfield, g_putfield, g_iaload, g_baload, g_laload, g_aaload, g_iastore, g_bastore, g_lastore, g_arraylength, g_call0_0, g_call0_1, g_call0_2, g_call0_3, g_call0_4, g_call1_0, g_call1_1, g_call1_2, g_call1_3, g_call1_4, g_call2_0, g_call2_1, g_call2_2, g_call2_3, g_call2_4, g_call3_0, g_call3_1, g_call3_2, g_call3_3, g_call3_4, g_call4_0, g_call4_1, g_call4_2, g_call4_3, g_call4_4, g_call5_0, g_call5_1, g_call5_2, g_call5_3, g_call5_4, g_call6_0, g_call6_1, g_call6_2, g_call6_3, g_call6_4, g_ireturn, g_lreturn, g_return, g_zreturn, sto_0, sto_s, sto2_0, sto2_s, isL_i, isL_r, isL_l, isL_j, ldI_0, ldI_9, ldZ_2, ldL_1, ldQ_3, stI_0, stL_1, stZ_2, gF_o, pF_o, lenA_9, oB_some, vI_i, vJ_j, vR_r, Option.map_some, List.getElem?_cons_zero, List.getElem?_cons_succ, Nat.reduceDiv, Nat.reduceMod, Int.reduceToNat, true_and, and_true, false_and, reduceIte, List.set_cons_zero, List.set_cons_succ, Option.toList_some, Option.toList_none, List.cons_append, List.nil_append, List.length_cons, List.length_nil, Nat.reduceAdd, Nat.reduceLeDiff, Nat.reduceLT, Nat.reduceEqDiff, and_self, and_false, Bool.false_eq_true, iI_rem, em, iI_f, i32_0, i32_1, b2i_0, b2i_n, iI_add, iI_sub, iI_mul, iI_neg, iI_lt, iI_le, iI_eq, iI_in, iI_cl, i_nn, eq_self, true_or, or_true, not_true_eq_false, not_false_eq_true, Int.reduceEq, Int.reduceLT, Int.reduceLE, Int.reduceNeg]
          refine ite_t (by omega) ?_
          have w := ih (i + 1) h o (.int (iI (vM (B i)))) (by omega) er (by omega) rfl e1 (by omega) hO h57 (by rw [show (i + 1) / 2 = i / 2 by omega]; exact h58) (by rw [show (i + 1) / 2 = i / 2 by omega]; exact h59) hF
          push_cast at w
          exact w
set_option maxRecDepth 10000 in
theorem m_readText {h : fH} {o : MO} {B X Y : Nat → Int} (hO : Mob h o) (h57 : Row h 57 24 B) (h58 : Row h 58 10 X) (h59 : Row h 59 10 Y) (hL : o.1 ≤ 24) (hB : Byt B o.1) {Q : Option Value → fH → Prop} (hq : ∀ h' (o' : MO) X' Y', o'.1 = o.1 → Mob h' o' → Row h' 58 10 X' → Row h' 59 10 Y' → Fr h h' rdS → (rtM B o.1 0 o.1 = -9 → o'.2.1 = o.1 / 2 ∧ X' = fill (vX B) X (o.1 / 2) ∧ Y' = fill (vY B) Y (o.1 / 2)) → Q (some (.int (iI (rtM B o.1 0 o.1)))) h') : Call 117 [.ref 56] h Q := by
  have ho := id hO
  unfold Mob at ho
  refine ⟨by simp [vOK, entL, isL, mlT, kdT, clT, isO, ho], rfl, ?_⟩
  rw [show ent 117 [.ref 56] = [.ref 56, jk, jk] from rfl]
  simp (disch := omega) only [B117_0, b117_0, g_iconst, g_lconst, g_iadd, g_isub, g_imul, g_iand, g_ior, g_ishl, g_ishr, g_iushr, g_ladd, g_lsub, g_lmul, g_land, g_lor, g_lcmp, g_ineg, g_lshl, g_lshr, g_i2l, g_l2i, g_dupi, g_dupr, g_pop, g_dup2, g_mabs_0, g_mabs_1, g_mabs_2, g_mabs_3, g_mmax_0, g_mmax_1, g_mmax_2, g_mmax_3, g_mmin_0, g_mmin_1, g_mmin_2, g_mmin_3, g_goto, g_jsr, g_icmp_eq, g_icmp_ne, g_icmp_lt, g_icmp_ge, g_icmp_gt, g_icmp_le, g_if_eq, g_if_ne, g_if_lt, g_if_ge, g_if_gt, g_if_le, g_idiv, g_irem, g_ldiv, g_iload, g_lload, g_aload, g_istore, g_astore, g_lstore, g_iinc, g_getfield, g_putfield, g_iaload, g_baload, g_laload, g_aaload, g_iastore, g_bastore, g_lastore, g_arraylength, g_call0_0, g_call0_1, g_call0_2, g_call0_3, g_call0_4, g_call1_0, g_call1_1, g_call1_2, g_call1_3, g_call1_4, g_call2_0, g_call2_1, g_call2_2, g_call2_3, g_call2_4, g_call3_0, g_call3_1, g_call3_2, g_call3_3, g_call3_4, g_call4_0, g_call4_1, g_call4_2, g_call4_3, g_call4_4, g_call5_0, g_call5_1, g_call5_2, g_call5_3, g_call5_4, g_call6_0, g_call6_1, g_call6_2, g_call6_3, g_call6_4, g_ireturn, g_lreturn, g_return, g_zreturn, sto_0, sto_s, sto2_0, sto2_s, isL_i, isL_r, isL_l, isL_j, ldI_0, ldI_9, ldZ_2, ldL_1, ldQ_3, stI_0, stL_1, stZ_2, gF_o, pF_o, lenA_9, oB_some, vI_i, vJ_j, vR_r, Option.map_some, List.getElem?_cons_zero, List.getElem?_cons_succ, Nat.reduceDiv, Nat.reduceMod, Int.reduceToNat, true_and, and_true, false_and, reduceIte, List.set_cons_zero, List.set_cons_succ, Option.toList_some, Option.toList_none, List.cons_append, List.nil_append, List.length_cons, List.length_nil, Nat.reduceAdd, Nat.reduceLeDiff, Nat.reduceLT, Nat.reduceEqDiff, and_self, and_false, Bool.false_eq_true, ho, fk196, fit_i, iI_f, i32_0, i32_1, b2i_0, b2i_n, iI_add, iI_sub, iI_mul, iI_neg, iI_lt, iI_le, iI_eq, iI_in, iI_cl, i_nn, eq_self, true_or, or_true, not_true_eq_false, not_false_eq_true, Int.reduceEq, Int.reduceLT, Int.reduceLE, Int.reduceNeg]
  exact l_readText hL hB hq o.1 0 _ (o.1, 0, o.2.2) jk (by omega) rfl (by omega) rfl rfl rfl (by unfold Mob; rw [fg_st_s]; rfl) (by unfold Row; rw [fg_st_n (by omega)]; exact h57) (by unfold Row; rw [fg_st_n (by omega), fill_0]; exact h58) (by unfold Row; rw [fg_st_n (by omega), fill_0]; exact h59) (Fr.rf.st (by simp [rdS]))
theorem Scr.rd {h h' : fH} (q : Scr h) (hF : Fr h h' rdS) (h58 : ∃ f, Row h' 58 10 f) (h59 : ∃ f, Row h' 59 10 f) : Scr h' :=
  ⟨h58, h59, rw_ex q.2.2.1 hF (by simp [rdS]), rw_ex q.2.2.2.1 hF (by simp [rdS]), rw_ex q.2.2.2.2.1 hF (by simp [rdS]), rw_ex q.2.2.2.2.2.1 hF (by simp [rdS]), bl_ex q.2.2.2.2.2.2.1 hF (by simp [rdS]), bl_ex q.2.2.2.2.2.2.2.1 hF (by simp [rdS]), rw_ex q.2.2.2.2.2.2.2.2.1 hF (by simp [rdS]), rw_ex q.2.2.2.2.2.2.2.2.2.1 hF (by simp [rdS]), rw_ex q.2.2.2.2.2.2.2.2.2.2.1 hF (by simp [rdS]), rw_ex q.2.2.2.2.2.2.2.2.2.2.2 hF (by simp [rdS])⟩
def bFault (M : MZ) : Int := rtM (mB M) (mL M) 0 (mL M)
set_option maxRecDepth 10000 in
theorem m_fault {h : fH} {M : MZ} (hM : Mdl h M) (hK : Mok M) {Q : Option Value → fH → Prop} (hq : ∀ h', WrM h M h' → Q (some (.int (iI (bFault M)))) h') : Call 118 [.ref 56] h Q := by
  obtain ⟨⟨o, eo, hO⟩, h57, -, -, hS⟩ := id hM
  obtain ⟨X, h58⟩ := hS.1
  obtain ⟨Y, h59⟩ := hS.2.1
  have ho := id hO
  unfold Mob at ho
  refine ⟨by simp [vOK, entL, isL, mlT, kdT, clT, isO, ho], rfl, ?_⟩
  rw [show ent 118 [.ref 56] = [.ref 56] from rfl]
  simp (disch := omega) only [B118_0, b118_0, g_iconst, g_lconst, g_iadd, g_isub, g_imul, g_iand, g_ior, g_ishl, g_ishr, g_iushr, g_ladd, g_lsub, g_lmul, g_land, g_lor, g_lcmp, g_ineg, g_lshl, g_lshr, g_i2l, g_l2i, g_dupi, g_dupr, g_pop, g_dup2, g_mabs_0, g_mabs_1, g_mabs_2, g_mabs_3, g_mmax_0, g_mmax_1, g_mmax_2, g_mmax_3, g_mmin_0, g_mmin_1, g_mmin_2, g_mmin_3, g_goto, g_jsr, g_icmp_eq, g_icmp_ne, g_icmp_lt, g_icmp_ge, g_icmp_gt, g_icmp_le, g_if_eq, g_if_ne, g_if_lt, g_if_ge, g_if_gt, g_if_le, g_idiv, g_irem, g_ldiv, g_iload, g_lload, g_aload, g_istore, g_astore, g_lstore, g_iinc, g_getfield, g_putfield, g_iaload, g_baload, g_laload, g_aaload, g_iastore, g_bastore, g_lastore, g_arraylength, g_call0_0, g_call0_1, g_call0_2, g_call0_3, g_call0_4, g_call1_0, g_call1_1, g_call1_2, g_call1_3, g_call1_4, g_call2_0, g_call2_1, g_call2_2, g_call2_3, g_call2_4, g_call3_0, g_call3_1, g_call3_2, g_call3_3, g_call3_4, g_call4_0, g_call4_1, g_call4_2, g_call4_3, g_call4_4, g_call5_0, g_call5_1, g_call5_2, g_call5_3, g_call5_4, g_call6_0, g_call6_1, g_call6_2, g_call6_3, g_call6_4, g_ireturn, g_lreturn, g_return, g_zreturn, sto_0, sto_s, sto2_0, sto2_s, isL_i, isL_r, isL_l, isL_j, ldI_0, ldI_9, ldZ_2, ldL_1, ldQ_3, stI_0, stL_1, stZ_2, gF_o, pF_o, lenA_9, oB_some, vI_i, vJ_j, vR_r, Option.map_some, List.getElem?_cons_zero, List.getElem?_cons_succ, Nat.reduceDiv, Nat.reduceMod, Int.reduceToNat, true_and, and_true, false_and, reduceIte, List.set_cons_zero, List.set_cons_succ, Option.toList_some, Option.toList_none, List.cons_append, List.nil_append, List.length_cons, List.length_nil, Nat.reduceAdd, Nat.reduceLeDiff, Nat.reduceLT, Nat.reduceEqDiff, and_self, and_false, Bool.false_eq_true, iI_f, i32_0, i32_1, b2i_0, b2i_n, iI_add, iI_sub, iI_mul, iI_neg, iI_lt, iI_le, iI_eq, iI_in, iI_cl, i_nn, eq_self, true_or, or_true, not_true_eq_false, not_false_eq_true, Int.reduceEq, Int.reduceLT, Int.reduceLE, Int.reduceNeg]
  refine m_readText hO h57 h58 h59 (by rw [eo]; exact hK.1) (by rw [eo]; exact hK.2.1) (fun h' o' X' Y' e1 e2 e3 e4 e5 _ => ?_)
  simp only [g_iconst, g_lconst, g_iadd, g_isub, g_imul, g_iand, g_ior, g_ishl, g_ishr, g_iushr, g_ladd, g_lsub, g_lmul, g_land, g_lor, g_lcmp, g_ineg, g_lshl, g_lshr, g_i2l, g_l2i, g_dupi, g_dupr, g_pop, g_dup2, g_mabs_0, g_mabs_1, g_mabs_2, g_mabs_3, g_mmax_0, g_mmax_1, g_mmax_2, g_mmax_3, g_mmin_0, g_mmin_1, g_mmin_2, g_mmin_3, g_goto, g_jsr, g_icmp_eq, g_icmp_ne, g_icmp_lt, g_icmp_ge, g_icmp_gt, g_icmp_le, g_if_eq, g_if_ne, g_if_lt, g_if_ge, g_if_gt, g_if_le, g_idiv, g_irem, g_ldiv, g_iload, g_lload, g_aload, g_istore, g_astore, g_lstore, g_iinc, g_getfield, g_putfield, g_iaload, g_baload, g_laload, g_aaload, g_iastore, g_bastore, g_lastore, g_arraylength, g_call0_0, g_call0_1, g_call0_2, g_call0_3, g_call0_4, g_call1_0, g_call1_1, g_call1_2, g_call1_3, g_call1_4, g_call2_0, g_call2_1, g_call2_2, g_call2_3, g_call2_4, g_call3_0, g_call3_1, g_call3_2, g_call3_3, g_call3_4, g_call4_0, g_call4_1, g_call4_2, g_call4_3, g_call4_4, g_call5_0, g_call5_1, g_call5_2, g_call5_3, g_call5_4, g_call6_0, g_call6_1, g_call6_2, g_call6_3, g_call6_4, g_ireturn, g_lreturn, g_return, g_zreturn, sto_0, sto_s, sto2_0, sto2_s, isL_i, isL_r, isL_l, isL_j, ldI_0, ldI_9, ldZ_2, ldL_1, ldQ_3, stI_0, stL_1, stZ_2, gF_o, pF_o, lenA_9, oB_some, vI_i, vJ_j, vR_r, Option.map_some, List.getElem?_cons_zero, List.getElem?_cons_succ, Nat.reduceDiv, Nat.reduceMod, Int.reduceToNat, true_and, and_true, false_and, reduceIte, List.set_cons_zero, List.set_cons_succ, Option.toList_some, Option.toList_none, List.cons_append, List.nil_append, List.length_cons, List.length_nil, Nat.reduceAdd, Nat.reduceLeDiff, Nat.reduceLT, Nat.reduceEqDiff, and_self, and_false, Bool.false_eq_true, iI_f, i32_0, i32_1, b2i_0, b2i_n, iI_add, iI_sub, iI_mul, iI_neg, iI_lt, iI_le, iI_eq, iI_in, iI_cl, i_nn, eq_self, true_or, or_true, not_true_eq_false, not_false_eq_true, Int.reduceEq, Int.reduceLT, Int.reduceLE, Int.reduceNeg]
  rw [eo]
  exact hq h' (hM.scr (e5.mono (fun k z => by simp only [rdS] at z; simp only [scS]; omega)) ⟨o', e1.trans eo, e2⟩ (hS.rd e5 ⟨_, e3⟩ ⟨_, e4⟩))
