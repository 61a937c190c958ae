/-! The reference: where a point is. -/
theorem lK_toInt {z : Int} (h1 : -4000000000000000000 ≤ z) (h2 : z < 4000000000000000000) : (lJ z).toInt = z := by
  rw [lJ, Int64.toInt_ofInt]
  exact Int.bmod_eq_of_le (by simp [Int64.size]; omega) (by simp [Int64.size]; omega)
theorem lK_lt {a b : Int} (h1 : -4000000000000000000 ≤ a) (h2 : a < 4000000000000000000) (h3 : -4000000000000000000 ≤ b) (h4 : b < 4000000000000000000) : lJ a < lJ b ↔ a < b := by
  rw [Int64.lt_iff_toInt_lt, lK_toInt h1 h2, lK_toInt h3 h4]
theorem lK_eq {a b : Int} (h1 : -4000000000000000000 ≤ a) (h2 : a < 4000000000000000000) (h3 : -4000000000000000000 ≤ b) (h4 : b < 4000000000000000000) : lJ a = lJ b ↔ a = b := by
  rw [← Int64.toInt_inj, lK_toInt h1 h2, lK_toInt h3 h4]
theorem lK_cmp {a b : Int} (h1 : -4000000000000000000 ≤ a) (h2 : a < 4000000000000000000) (h3 : -4000000000000000000 ≤ b) (h4 : b < 4000000000000000000) : lg_cmp (lJ a) (lJ b) = iI (cmJ a b) := by
  unfold lg_cmp cmJ
  by_cases q1 : b < a
  · simp only [lK_lt h3 h4 h1 h2, q1, if_true]; rfl
  · by_cases q2 : a = b
    · subst q2; simp [i32_0]
    · simp only [lK_lt h3 h4 h1 h2, q1, lK_eq h1 h2 h3 h4, q2, if_false]; rfl
def sqB (X Y : Nat → Int) (p q : Nat) (u v b : Int) : Int := (X q * b - X p * b) * (v - Y p * b) - (Y q * b - Y p * b) * (u - X p * b)
def onB (X Y : Nat → Int) (p q : Nat) (u v b : Int) : Bool := decide (sqB X Y p q u v b = 0) && decide ((u - X p * b) * (u - X q * b) ≤ 0) && decide ((v - Y p * b) * (v - Y q * b) ≤ 0)
def cxB (X Y : Nat → Int) (p q : Nat) (u v b : Int) : Bool := (decide (Y p * b ≤ v) != decide (Y q * b ≤ v)) && (if Y q * b ≤ Y p * b then decide (sqB X Y p q u v b < 0) else decide (0 < sqB X Y p q u v b))
/-- where a point is, told by b times its x and y, from fence i on -/
def whF (X Y : Nat → Int) (n : Nat) (u v b : Int) : Nat → Nat → Bool → Int
  | _, 0, w => if w = true then 1 else 2
  | i, d + 1, w => if onB X Y i (nx n i) u v b = true then 0 else whF X Y n u v b (i + 1) d (w != cxB X Y i (nx n i) u v b)
def whM (X Y : Nat → Int) (n : Nat) (u v b : Int) : Int := whF X Y n u v b 0 n false
theorem whF_bd (X Y : Nat → Int) (n : Nat) (u v b : Int) : ∀ (d i : Nat) (w : Bool), 0 ≤ whF X Y n u v b i d w ∧ whF X Y n u v b i d w ≤ 2
  | 0, i, w => by rw [whF]; split <;> omega
  | d + 1, i, w => by
    rw [whF]; split
    · omega
    · exact whF_bd X Y n u v b d (i + 1) _
theorem whM_bd (X Y : Nat → Int) (n : Nat) (u v b : Int) : 0 ≤ whM X Y n u v b ∧ whM X Y n u v b ≤ 2 := whF_bd X Y n u v b n 0 false
/-- the point is on the grid, its scale is small enough -/
def Pk (u v b : Int) : Prop := 0 < b ∧ b ≤ 2000000 ∧ 0 ≤ u ∧ u ≤ 15 * b ∧ 0 ≤ v ∧ v ≤ 15 * b
theorem sqB_bd {X Y : Nat → Int} {n : Nat} (hR : Rg n X Y) {p q : Nat} (hp : p < n) (hq : q < n) {u v b : Int} (hb : Pk u v b) : (-2000000000000000 ≤ sqB X Y p q u v b ∧ sqB X Y p q u v b ≤ 2000000000000000) ∧ (-2000000000000000 ≤ (u - X p * b) * (u - X q * b) ∧ (u - X p * b) * (u - X q * b) ≤ 2000000000000000) ∧ (-2000000000000000 ≤ (v - Y p * b) * (v - Y q * b) ∧ (v - Y p * b) * (v - Y q * b) ≤ 2000000000000000) ∧ (0 ≤ X p * b ∧ X p * b ≤ 30000000) ∧ (0 ≤ Y p * b ∧ Y p * b ≤ 30000000) ∧ (0 ≤ X q * b ∧ X q * b ≤ 30000000) ∧ (0 ≤ Y q * b ∧ Y q * b ≤ 30000000) := by
  obtain ⟨a1, a2, a3, a4⟩ := hR p hp
  obtain ⟨c1, c2, c3, c4⟩ := hR q hq
  obtain ⟨b1, b2, b3, b4, b5, b6⟩ := hb
  have key : ∀ z : Int, 0 ≤ z → z ≤ 15 → 0 ≤ z * b ∧ z * b ≤ 30000000 := fun z z1 z2 => by
    refine ⟨Int.mul_nonneg z1 (by omega), ?_⟩
    have := mul_bd (a := z) (b := b) (M := 15) (N := 2000000) (by omega) (by omega) (by omega) (by omega) (by omega) (by omega)
    omega
  have k1 := key _ a1 a2
  have k2 := key _ a3 a4
  have k3 := key _ c1 c2
  have k4 := key _ c3 c4
  have p1 := mul_bd (a := X q * b - X p * b) (b := v - Y p * b) (M := 30000000) (N := 30000000) (by omega) (by omega) (by omega) (by omega) (by omega) (by omega)
  have p2 := mul_bd (a := Y q * b - Y p * b) (b := u - X p * b) (M := 30000000) (N := 30000000) (by omega) (by omega) (by omega) (by omega) (by omega) (by omega)
  have p3 := mul_bd (a := u - X p * b) (b := u - X q * b) (M := 30000000) (N := 30000000) (by omega) (by omega) (by omega) (by omega) (by omega) (by omega)
  have p4 := mul_bd (a := v - Y p * b) (b := v - Y q * b) (M := 30000000) (N := 30000000) (by omega) (by omega) (by omega) (by omega) (by omega) (by omega)
  refine ⟨?_, by omega, by omega, k1, k2, k3, k4⟩
  unfold sqB
  omega
set_option maxRecDepth 10000 in
set_option maxHeartbeats 1000000 in
theorem l_whereOf {h : fH} {o : MO} {x y : Nat → Int} {m : Nat → Nat} (hF : Fld h o x y m) (hK : Fok x y m) {f : Nat} (hf : f < 4) {u v b : Int} (hb : Pk u v b) : ∀ (d i : Nat) (w : Bool) (z10 z11 z12 z13 z14 z15 z16 z17 z18 z19 z20 z21 z22 : Value), i + d = m f →
    Go 143 (blk 143 6) [.ref 56, .int (iI f), .long (lJ u), jk, .long (lJ v), jk, .long (lJ b), jk, .int (iI (b2i w)), .int (iI i), z10, z11, z12, z13, z14, z15, z16, z17, z18, z19, z20, z21, z22] [] h (fun r h2 => r = some (.int (iI (whF (fw x f) (fw y f) (m f) u v b i d w))) ∧ h2 = h) := by
  obtain ⟨ho, h1, h2, h3⟩ := id hF; unfold Mob at ho; unfold Row at h1 h2 h3
  have mp := (hK f hf).1
  have hR := fok_R hK hf
  obtain ⟨b1, b2, b3, b4, b5, b6⟩ := id hb
  intro d
  induction d with
  | zero =>
    intro i w z10 z11 z12 z13 z14 z15 z16 z17 z18 z19 z20 z21 z22 hi
    rw [B143_6, b143_6]
    simp (disch := omega) only [B143_241, b143_241, B143_250, b143_250, B143_251, b143_251, g_iconst, g_lconst, g_iadd, g_isub, g_imul, g_iand, g_ior, g_ishl, g_ishr, g_iushr, g_ladd, g_lsub, g_lmul, g_land, g_lor, g_lcmp, g_ineg, g_lshl, g_lshr, g_i2l, g_l2i, g_dupi, g_dupr, g_pop, g_dup2, g_mabs_0, g_mabs_1, g_mabs_2, g_mabs_3, g_mmax_0, g_mmax_1, g_mmax_2, g_mmax_3, g_mmin_0, g_mmin_1, g_mmin_2, g_mmin_3, g_goto, g_jsr, g_icmp_eq, g_icmp_ne, g_icmp_lt, g_icmp_ge, g_icmp_gt, g_icmp_le, g_if_eq, g_if_ne, g_if_lt, g_if_ge, g_if_gt, g_if_le, g_idiv, g_irem, g_ldiv, g_iload, g_lload, g_aload, g_istore, g_astore, g_lstore, g_iinc, g_getfield, g_putfield, g_iaload, g_baload, g_laload, g_aaload, g_iastore, g_bastore, g_lastore, g_arraylength, g_call0_0, g_call0_1, g_call0_2, g_call0_3, g_call0_4, g_call1_0, g_call1_1, g_call1_2, g_call1_3, g_call1_4, g_call2_0, g_call2_1, g_call2_2, g_call2_3, g_call2_4, g_call3_0, g_call3_1, g_call3_2, g_call3_3, g_call3_4, g_call4_0, g_call4_1, g_call4_2, g_call4_3, g_call4_4, g_call5_0, g_call5_1, g_call5_2, g_call5_3, g_call5_4, g_call6_0, g_call6_1, g_call6_2, g_call6_3, g_call6_4, g_ireturn, g_lreturn, g_return, g_zreturn, sto_0, sto_s, sto2_0, sto2_s, isL_i, isL_r, isL_l, isL_j, ldI_0, ldI_9, ldZ_2, ldL_1, ldQ_3, stI_0, stL_1, stZ_2, gF_o, pF_o, lenA_9, oB_some, vI_i, vJ_j, vR_r, Option.map_some, List.getElem?_cons_zero, List.getElem?_cons_succ, Nat.reduceDiv, Nat.reduceMod, Int.reduceToNat, true_and, and_true, false_and, reduceIte, List.set_cons_zero, List.set_cons_succ, Option.toList_some, Option.toList_none, List.cons_append, List.nil_append, List.length_cons, List.length_nil, Nat.reduceAdd, Nat.reduceLeDiff, Nat.reduceLT, Nat.reduceEqDiff, and_self, and_false, Bool.false_eq_true, ho, h3, iI_f, i32_0, i32_1, b2i_0, b2i_n, iI_add, iI_sub, iI_mul, iI_neg, iI_lt, iI_le, iI_eq, iI_in, iI_cl, i_nn, eq_self, true_or, or_true, not_true_eq_false, not_false_eq_true, Int.reduceEq, Int.reduceLT, Int.reduceLE, Int.reduceNeg]
    refine ite_t (by omega) ?_
    cases w <;> rfl
  | succ d ih =>
    intro i w z10 z11 z12 z13 z14 z15 z16 z17 z18 z19 z20 z21 z22 hi
    have hin : i < m f := by omega
    have hnx := nx_lt hin
    obtain ⟨d1, d2, d3, d4, d5, d6, d7⟩ := sqB_bd hR hin hnx hb
    have q1 := (hK f hf).2 i hin
    have q2 := (hK f hf).2 _ hnx
    have e1 : fw x f i = x (10 * f + i) := rfl
    have e2 : fw y f i = y (10 * f + i) := rfl
    have e3 : fw x f (nx (m f) i) = x (10 * f + nx (m f) i) := rfl
    have e4 : fw y f (nx (m f) i) = y (10 * f + nx (m f) i) := rfl
    rw [e1, e3] at d2
    rw [e2, e4] at d3
    rw [e1] at d4
    rw [e2] at d5
    rw [e3] at d6
    rw [e4] at d7
    have es : (x (10 * f + nx (m f) i) * b - x (10 * f + i) * b) * (v - y (10 * f + i) * b) - (y (10 * f + nx (m f) i) * b - y (10 * f + i) * b) * (u - x (10 * f + i) * b) = sqB (fw x f) (fw y f) i (nx (m f) i) u v b := rfl
    have fin : ∀ (z : Value) (w2 : Bool), Go 143 (blk 143 233) [.ref 56, .int (iI f), .long (lJ u), jk, .long (lJ v), jk, .long (lJ b), jk, .int (iI (b2i w)), .int (iI i), .int (iI ((10 * f + i : Nat) : Int)), .int (iI ((10 * f + nx (m f) i : Nat) : Int)), .long (lJ (x (10 * f + i) * b)), jk, .long (lJ (y (10 * f + i) * b)), jk, .long (lJ (x (10 * f + nx (m f) i) * b)), jk, .long (lJ (y (10 * f + nx (m f) i) * b)), jk, .long (lJ (sqB (fw x f) (fw y f) i (nx (m f) i) u v b)), jk, z] [.int (iI (b2i w2))] h (fun r h2 => r = some (.int (iI (whF (fw x f) (fw y f) (m f) u v b (i + 1) d w2))) ∧ h2 = h) := by
      intro z w2
      have w3 := ih (i + 1) w2 (.int (iI ((10 * f + i : Nat) : Int))) (.int (iI ((10 * f + nx (m f) i : Nat) : Int))) (.long (lJ (x (10 * f + i) * b))) jk (.long (lJ (y (10 * f + i) * b))) jk (.long (lJ (x (10 * f + nx (m f) i) * b))) jk (.long (lJ (y (10 * f + nx (m f) i) * b))) jk (.long (lJ (sqB (fw x f) (fw y f) i (nx (m f) i) u v b))) jk z (by omega)
      rw [B143_233, b143_233]
      simp (disch := omega) only [g_iconst, g_lconst, g_iadd, g_isub, g_imul, g_iand, g_ior, g_ishl, g_ishr, g_iushr, g_ladd, g_lsub, g_lmul, g_land, g_lor, g_lcmp, g_ineg, g_lshl, g_lshr, g_i2l, g_l2i, g_dupi, g_dupr, g_pop, g_dup2, g_mabs_0, g_mabs_1, g_mabs_2, g_mabs_3, g_mmax_0, g_mmax_1, g_mmax_2, g_mmax_3, g_mmin_0, g_mmin_1, g_mmin_2, g_mmin_3, g_goto, g_jsr, g_icmp_eq, g_icmp_ne, g_icmp_lt, g_icmp_ge, g_icmp_gt, g_icmp_le, g_if_eq, g_if_ne, g_if_lt, g_if_ge, g_if_gt, g_if_le, g_idiv, g_irem, g_ldiv, g_iload, g_lload, g_aload, g_istore, g_astore, g_lstore, g_iinc, g_getfield, g_putfield, g_iaload, g_baload, g_laload, g_aaload, g_iastore, g_bastore, g_lastore, g_arraylength, g_call0_0, g_call0_1, g_call0_2, g_call0_3, g_call0_4, g_call1_0, g_call1_1, g_call1_2, g_call1_3, g_call1_4, g_call2_0, g_call2_1, g_call2_2, g_call2_3, g_call2_4, g_call3_0, g_call3_1, g_call3_2, g_call3_3, g_call3_4, g_call4_0, g_call4_1, g_call4_2, g_call4_3, g_call4_4, g_call5_0, g_call5_1, g_call5_2, g_call5_3, g_call5_4, g_call6_0, g_call6_1, g_call6_2, g_call6_3, g_call6_4, g_ireturn, g_lreturn, g_return, g_zreturn, sto_0, sto_s, sto2_0, sto2_s, isL_i, isL_r, isL_l, isL_j, ldI_0, ldI_9, ldZ_2, ldL_1, ldQ_3, stI_0, stL_1, stZ_2, gF_o, pF_o, lenA_9, oB_some, vI_i, vJ_j, vR_r, Option.map_some, List.getElem?_cons_zero, List.getElem?_cons_succ, Nat.reduceDiv, Nat.reduceMod, Int.reduceToNat, true_and, and_true, false_and, reduceIte, List.set_cons_zero, List.set_cons_succ, Option.toList_some, Option.toList_none, List.cons_append, List.nil_append, List.length_cons, List.length_nil, Nat.reduceAdd, Nat.reduceLeDiff, Nat.reduceLT, Nat.reduceEqDiff, and_self, and_false, Bool.false_eq_true, show isL jk = false from rfl, iI_f, i32_0, i32_1, b2i_0, b2i_n, iI_add, iI_sub, iI_mul, iI_neg, iI_lt, iI_le, iI_eq, iI_in, iI_cl, i_nn, eq_self, true_or, or_true, not_true_eq_false, not_false_eq_true, Int.reduceEq, Int.reduceLT, Int.reduceLE, Int.reduceNeg]
      push_cast at w3 ⊢
      exact w3
    have k218 : ∀ z : Value, Go 143 (blk 143 218) [.ref 56, .int (iI f), .long (lJ u), jk, .long (lJ v), jk, .long (lJ b), jk, .int (iI (b2i w)), .int (iI i), .int (iI ((10 * f + i : Nat) : Int)), .int (iI ((10 * f + nx (m f) i : Nat) : Int)), .long (lJ (x (10 * f + i) * b)), jk, .long (lJ (y (10 * f + i) * b)), jk, .long (lJ (x (10 * f + nx (m f) i) * b)), jk, .long (lJ (y (10 * f + nx (m f) i) * b)), jk, .long (lJ (sqB (fw x f) (fw y f) i (nx (m f) i) u v b)), jk, z] [] h (fun r h2 => r = some (.int (iI (whF (fw x f) (fw y f) (m f) u v b (i + 1) d (!w)))) ∧ h2 = h) := by
      intro z
      have g := fin z (!w)
      rw [B143_218, b143_218]
      simp (disch := omega) only [B143_227, b143_227, g_iconst, g_lconst, g_iadd, g_isub, g_imul, g_iand, g_ior, g_ishl, g_ishr, g_iushr, g_ladd, g_lsub, g_lmul, g_land, g_lor, g_lcmp, g_ineg, g_lshl, g_lshr, g_i2l, g_l2i, g_dupi, g_dupr, g_pop, g_dup2, g_mabs_0, g_mabs_1, g_mabs_2, g_mabs_3, g_mmax_0, g_mmax_1, g_mmax_2, g_mmax_3, g_mmin_0, g_mmin_1, g_mmin_2, g_mmin_3, g_goto, g_jsr, g_icmp_eq, g_icmp_ne, g_icmp_lt, g_icmp_ge, g_icmp_gt, g_icmp_le, g_if_eq, g_if_ne, g_if_lt, g_if_ge, g_if_gt, g_if_le, g_idiv, g_irem, g_ldiv, g_iload, g_lload, g_aload, g_istore, g_astore, g_lstore, g_iinc, g_getfield, g_putfield, g_iaload, g_baload, g_laload, g_aaload, g_iastore, g_bastore, g_lastore, g_arraylength, g_call0_0, g_call0_1, g_call0_2, g_call0_3, g_call0_4, g_call1_0, g_call1_1, g_call1_2, g_call1_3, g_call1_4, g_call2_0, g_call2_1, g_call2_2, g_call2_3, g_call2_4, g_call3_0, g_call3_1, g_call3_2, g_call3_3, g_call3_4, g_call4_0, g_call4_1, g_call4_2, g_call4_3, g_call4_4, g_call5_0, g_call5_1, g_call5_2, g_call5_3, g_call5_4, g_call6_0, g_call6_1, g_call6_2, g_call6_3, g_call6_4, g_ireturn, g_lreturn, g_return, g_zreturn, sto_0, sto_s, sto2_0, sto2_s, isL_i, isL_r, isL_l, isL_j, ldI_0, ldI_9, ldZ_2, ldL_1, ldQ_3, stI_0, stL_1, stZ_2, gF_o, pF_o, lenA_9, oB_some, vI_i, vJ_j, vR_r, Option.map_some, List.getElem?_cons_zero, List.getElem?_cons_succ, Nat.reduceDiv, Nat.reduceMod, Int.reduceToNat, true_and, and_true, false_and, reduceIte, List.set_cons_zero, List.set_cons_succ, Option.toList_some, Option.toList_none, List.cons_append, List.nil_append, List.length_cons, List.length_nil, Nat.reduceAdd, Nat.reduceLeDiff, Nat.reduceLT, Nat.reduceEqDiff, and_self, and_false, Bool.false_eq_true, iI_f, i32_0, i32_1, b2i_0, b2i_n, iI_add, iI_sub, iI_mul, iI_neg, iI_lt, iI_le, iI_eq, iI_in, iI_cl, i_nn, eq_self, true_or, or_true, not_true_eq_false, not_false_eq_true, Int.reduceEq, Int.reduceLT, Int.reduceLE, Int.reduceNeg]
      cases w with
      | true => exact ite_t rfl g
      | false => exact ite_f (by decide) g
    have k231 : ∀ z : Value, Go 143 (blk 143 231) [.ref 56, .int (iI f), .long (lJ u), jk, .long (lJ v), jk, .long (lJ b), jk, .int (iI (b2i w)), .int (iI i), .int (iI ((10 * f + i : Nat) : Int)), .int (iI ((10 * f + nx (m f) i : Nat) : Int)), .long (lJ (x (10 * f + i) * b)), jk, .long (lJ (y (10 * f + i) * b)), jk, .long (lJ (x (10 * f + nx (m f) i) * b)), jk, .long (lJ (y (10 * f + nx (m f) i) * b)), jk, .long (lJ (sqB (fw x f) (fw y f) i (nx (m f) i) u v b)), jk, z] [] h (fun r h2 => r = some (.int (iI (whF (fw x f) (fw y f) (m f) u v b (i + 1) d w))) ∧ h2 = h) := by
      intro z
      have g := fin z w
      rw [B143_231, b143_231]
      simp (disch := omega) only [g_iconst, g_lconst, g_iadd, g_isub, g_imul, g_iand, g_ior, g_ishl, g_ishr, g_iushr, g_ladd, g_lsub, g_lmul, g_land, g_lor, g_lcmp, g_ineg, g_lshl, g_lshr, g_i2l, g_l2i, g_dupi, g_dupr, g_pop, g_dup2, g_mabs_0, g_mabs_1, g_mabs_2, g_mabs_3, g_mmax_0, g_mmax_1, g_mmax_2, g_mmax_3, g_mmin_0, g_mmin_1, g_mmin_2, g_mmin_3, g_goto, g_jsr, g_icmp_eq, g_icmp_ne, g_icmp_lt, g_icmp_ge, g_icmp_gt, g_icmp_le, g_if_eq, g_if_ne, g_if_lt, g_if_ge, g_if_gt, g_if_le, g_idiv, g_irem, g_ldiv, g_iload, g_lload, g_aload, g_istore, g_astore, g_lstore, g_iinc, g_getfield, g_putfield, g_iaload, g_baload, g_laload, g_aaload, g_iastore, g_bastore, g_lastore, g_arraylength, g_call0_0, g_call0_1, g_call0_2, g_call0_3, g_call0_4, g_call1_0, g_call1_1, g_call1_2, g_call1_3, g_call1_4, g_call2_0, g_call2_1, g_call2_2, g_call2_3, g_call2_4, g_call3_0, g_call3_1, g_call3_2, g_call3_3, g_call3_4, g_call4_0, g_call4_1, g_call4_2, g_call4_3, g_call4_4, g_call5_0, g_call5_1, g_call5_2, g_call5_3, g_call5_4, g_call6_0, g_call6_1, g_call6_2, g_call6_3, g_call6_4, g_ireturn, g_lreturn, g_return, g_zreturn, sto_0, sto_s, sto2_0, sto2_s, isL_i, isL_r, isL_l, isL_j, ldI_0, ldI_9, ldZ_2, ldL_1, ldQ_3, stI_0, stL_1, stZ_2, gF_o, pF_o, lenA_9, oB_some, vI_i, vJ_j, vR_r, Option.map_some, List.getElem?_cons_zero, List.getElem?_cons_succ, Nat.reduceDiv, Nat.reduceMod, Int.reduceToNat, true_and, and_true, false_and, reduceIte, List.set_cons_zero, List.set_cons_succ, Option.toList_some, Option.toList_none, List.cons_append, List.nil_append, List.length_cons, List.length_nil, Nat.reduceAdd, Nat.reduceLeDiff, Nat.reduceLT, Nat.reduceEqDiff, and_self, and_false, Bool.false_eq_true, iI_f, i32_0, i32_1, b2i_0, b2i_n, iI_add, iI_sub, iI_mul, iI_neg, iI_lt, iI_le, iI_eq, iI_in, iI_cl, i_nn, eq_self, true_or, or_true, not_true_eq_false, not_false_eq_true, Int.reduceEq, Int.reduceLT, Int.reduceLE, Int.reduceNeg]
      exact g
    have k186 : ∀ (z : Value) (c : Bool), (decide (y (10 * f + i) * b ≤ v) != decide (y (10 * f + nx (m f) i) * b ≤ v)) = c → Go 143 (blk 143 186) [.ref 56, .int (iI f), .long (lJ u), jk, .long (lJ v), jk, .long (lJ b), jk, .int (iI (b2i w)), .int (iI i), .int (iI ((10 * f + i : Nat) : Int)), .int (iI ((10 * f + nx (m f) i : Nat) : Int)), .long (lJ (x (10 * f + i) * b)), jk, .long (lJ (y (10 * f + i) * b)), jk, .long (lJ (x (10 * f + nx (m f) i) * b)), jk, .long (lJ (y (10 * f + nx (m f) i) * b)), jk, .long (lJ (sqB (fw x f) (fw y f) i (nx (m f) i) u v b)), jk, z] [.int (iI (b2i c))] h (fun r h2 => r = some (.int (iI (whF (fw x f) (fw y f) (m f) u v b (i + 1) d (w != cxB (fw x f) (fw y f) i (nx (m f) i) u v b)))) ∧ h2 = h) := by
      intro z c hc
      have g1 := k231 (.int (iI (b2i c)))
      have g2 := k218 (.int (iI (b2i c)))
      rw [B143_186, b143_186]
      simp (disch := omega) only [B143_211, b143_211, g_iconst, g_lconst, g_iadd, g_isub, g_imul, g_iand, g_ior, g_ishl, g_ishr, g_iushr, g_ladd, g_lsub, g_lmul, g_land, g_lor, g_lcmp, g_ineg, g_lshl, g_lshr, g_i2l, g_l2i, g_dupi, g_dupr, g_pop, g_dup2, g_mabs_0, g_mabs_1, g_mabs_2, g_mabs_3, g_mmax_0, g_mmax_1, g_mmax_2, g_mmax_3, g_mmin_0, g_mmin_1, g_mmin_2, g_mmin_3, g_goto, g_jsr, g_icmp_eq, g_icmp_ne, g_icmp_lt, g_icmp_ge, g_icmp_gt, g_icmp_le, g_if_eq, g_if_ne, g_if_lt, g_if_ge, g_if_gt, g_if_le, g_idiv, g_irem, g_ldiv, g_iload, g_lload, g_aload, g_istore, g_astore, g_lstore, g_iinc, g_getfield, g_putfield, g_iaload, g_baload, g_laload, g_aaload, g_iastore, g_bastore, g_lastore, g_arraylength, g_call0_0, g_call0_1, g_call0_2, g_call0_3, g_call0_4, g_call1_0, g_call1_1, g_call1_2, g_call1_3, g_call1_4, g_call2_0, g_call2_1, g_call2_2, g_call2_3, g_call2_4, g_call3_0, g_call3_1, g_call3_2, g_call3_3, g_call3_4, g_call4_0, g_call4_1, g_call4_2, g_call4_3, g_call4_4, g_call5_0, g_call5_1, g_call5_2, g_call5_3, g_call5_4, g_call6_0, g_call6_1, g_call6_2, g_call6_3, g_call6_4, g_ireturn, g_lreturn, g_return, g_zreturn, sto_0, sto_s, sto2_0, sto2_s, isL_i, isL_r, isL_l, isL_j, ldI_0, ldI_9, ldZ_2, ldL_1, ldQ_3, stI_0, stL_1, stZ_2, gF_o, pF_o, lenA_9, oB_some, vI_i, vJ_j, vR_r, Option.map_some, List.getElem?_cons_zero, List.getElem?_cons_succ, Nat.reduceDiv, Nat.reduceMod, Int.reduceToNat, true_and, and_true, false_and, reduceIte, List.set_cons_zero, List.set_cons_succ, Option.toList_some, Option.toList_none, List.cons_append, List.nil_append, List.length_cons, List.length_nil, Nat.reduceAdd, Nat.reduceLeDiff, Nat.reduceLT, Nat.reduceEqDiff, and_self, and_false, Bool.false_eq_true, lJ_f, lK_cmp, cj_le, cj_ge, cj_gt, cj_lt, show isL jk = false from rfl, iI_f, i32_0, i32_1, b2i_0, b2i_n, iI_add, iI_sub, iI_mul, iI_neg, iI_lt, iI_le, iI_eq, iI_in, iI_cl, i_nn, eq_self, true_or, or_true, not_true_eq_false, not_false_eq_true, Int.reduceEq, Int.reduceLT, Int.reduceLE, Int.reduceNeg]
      refine ite_c (fun c1 => ?_) (fun c1 => ite_c (fun c2 => ?_) (fun c2 => ?_))
      · have e : cxB (fw x f) (fw y f) i (nx (m f) i) u v b = false := by
          unfold cxB; rw [e2, e4, hc, c1]; rfl
        rw [e, Bool.bne_false]; exact g1
      · rw [b2i_n] at c1
        refine ite_c (fun c3 => ?_) (fun c3 => ?_)
        · have e : cxB (fw x f) (fw y f) i (nx (m f) i) u v b = false := by
            unfold cxB; rw [e2, e4, hc, c1, if_pos c2, decide_eq_false (by omega)]; rfl
          rw [e, Bool.bne_false]; exact g1
        · have e : cxB (fw x f) (fw y f) i (nx (m f) i) u v b = true := by
            unfold cxB; rw [e2, e4, hc, c1, if_pos c2, decide_eq_true (by omega)]; rfl
          rw [e, Bool.bne_true]; exact g2
      · rw [b2i_n] at c1
        refine ite_c (fun c3 => ?_) (fun c3 => ?_)
        · have e : cxB (fw x f) (fw y f) i (nx (m f) i) u v b = false := by
            unfold cxB; rw [e2, e4, hc, c1, if_neg c2, decide_eq_false (by omega)]; rfl
          rw [e, Bool.bne_false]; exact g1
        · have e : cxB (fw x f) (fw y f) i (nx (m f) i) u v b = true := by
            unfold cxB; rw [e2, e4, hc, c1, if_neg c2, decide_eq_true (by omega)]; rfl
          rw [e, Bool.bne_true]; exact g2
    have k152 : ∀ z : Value, Go 143 (blk 143 152) [.ref 56, .int (iI f), .long (lJ u), jk, .long (lJ v), jk, .long (lJ b), jk, .int (iI (b2i w)), .int (iI i), .int (iI ((10 * f + i : Nat) : Int)), .int (iI ((10 * f + nx (m f) i : Nat) : Int)), .long (lJ (x (10 * f + i) * b)), jk, .long (lJ (y (10 * f + i) * b)), jk, .long (lJ (x (10 * f + nx (m f) i) * b)), jk, .long (lJ (y (10 * f + nx (m f) i) * b)), jk, .long (lJ (sqB (fw x f) (fw y f) i (nx (m f) i) u v b)), jk, z] [] h (fun r h2 => r = some (.int (iI (whF (fw x f) (fw y f) (m f) u v b (i + 1) d (w != cxB (fw x f) (fw y f) i (nx (m f) i) u v b)))) ∧ h2 = h) := by
      intro z
      have g1 := k186 z true
      have g0 := k186 z false
      rw [show b2i true = 1 from rfl] at g1
      rw [show b2i false = 0 from rfl] at g0
      rw [B143_152, b143_152]
      simp (disch := omega) only [B143_164, b143_164, B143_165, b143_165, B143_177, b143_177, B143_178, b143_178, B143_185, b143_185, g_iconst, g_lconst, g_iadd, g_isub, g_imul, g_iand, g_ior, g_ishl, g_ishr, g_iushr, g_ladd, g_lsub, g_lmul, g_land, g_lor, g_lcmp, g_ineg, g_lshl, g_lshr, g_i2l, g_l2i, g_dupi, g_dupr, g_pop, g_dup2, g_mabs_0, g_mabs_1, g_mabs_2, g_mabs_3, g_mmax_0, g_mmax_1, g_mmax_2, g_mmax_3, g_mmin_0, g_mmin_1, g_mmin_2, g_mmin_3, g_goto, g_jsr, g_icmp_eq, g_icmp_ne, g_icmp_lt, g_icmp_ge, g_icmp_gt, g_icmp_le, g_if_eq, g_if_ne, g_if_lt, g_if_ge, g_if_gt, g_if_le, g_idiv, g_irem, g_ldiv, g_iload, g_lload, g_aload, g_istore, g_astore, g_lstore, g_iinc, g_getfield, g_putfield, g_iaload, g_baload, g_laload, g_aaload, g_iastore, g_bastore, g_lastore, g_arraylength, g_call0_0, g_call0_1, g_call0_2, g_call0_3, g_call0_4, g_call1_0, g_call1_1, g_call1_2, g_call1_3, g_call1_4, g_call2_0, g_call2_1, g_call2_2, g_call2_3, g_call2_4, g_call3_0, g_call3_1, g_call3_2, g_call3_3, g_call3_4, g_call4_0, g_call4_1, g_call4_2, g_call4_3, g_call4_4, g_call5_0, g_call5_1, g_call5_2, g_call5_3, g_call5_4, g_call6_0, g_call6_1, g_call6_2, g_call6_3, g_call6_4, g_ireturn, g_lreturn, g_return, g_zreturn, sto_0, sto_s, sto2_0, sto2_s, isL_i, isL_r, isL_l, isL_j, ldI_0, ldI_9, ldZ_2, ldL_1, ldQ_3, stI_0, stL_1, stZ_2, gF_o, pF_o, lenA_9, oB_some, vI_i, vJ_j, vR_r, Option.map_some, List.getElem?_cons_zero, List.getElem?_cons_succ, Nat.reduceDiv, Nat.reduceMod, Int.reduceToNat, true_and, and_true, false_and, reduceIte, List.set_cons_zero, List.set_cons_succ, Option.toList_some, Option.toList_none, List.cons_append, List.nil_append, List.length_cons, List.length_nil, Nat.reduceAdd, Nat.reduceLeDiff, Nat.reduceLT, Nat.reduceEqDiff, and_self, and_false, Bool.false_eq_true, lK_cmp, cj_gt, iI_f, i32_0, i32_1, b2i_0, b2i_n, iI_add, iI_sub, iI_mul, iI_neg, iI_lt, iI_le, iI_eq, iI_in, iI_cl, i_nn, eq_self, true_or, or_true, not_true_eq_false, not_false_eq_true, Int.reduceEq, Int.reduceLT, Int.reduceLE, Int.reduceNeg]
      refine ite_c (fun c1 => ite_c (fun c2 => ?_) (fun c2 => ?_)) (fun c1 => ite_c (fun c2 => ?_) (fun c2 => ?_))
      · exact g0 (by rw [decide_eq_false (by omega), decide_eq_false (by omega)]; rfl)
      · exact g1 (by rw [decide_eq_false (by omega), decide_eq_true (by omega)]; rfl)
      · exact g1 (by rw [decide_eq_true (by omega), decide_eq_false (by omega)]; rfl)
      · exact g0 (by rw [decide_eq_true (by omega), decide_eq_true (by omega)]; rfl)
    have p1 := (hK.at (Pl.of hf hin mp)).1
    have p2 := (hK.at (Pl.of hf hnx mp)).1
    rw [B143_6, b143_6]
    simp (maxSteps := 1000000) (disch := omega) only [g_iconst, g_lconst, g_iadd, g_isub, g_imul, g_iand, g_ior, g_ishl, g_ishr, g_iushr, g_ladd, g_lsub, g_lmul, g_land, g_lor, g_lcmp, g_ineg, g_lshl, g_lshr, g_i2l, g_l2i, g_dupi, g_dupr, g_pop, g_dup2, g_mabs_0, g_mabs_1, g_mabs_2, g_mabs_3, g_mmax_0, g_mmax_1, g_mmax_2, g_mmax_3, g_mmin_0, g_mmin_1, g_mmin_2, g_mmin_3, g_goto, g_jsr, g_icmp_eq, g_icmp_ne, g_icmp_lt, g_icmp_ge, g_icmp_gt, g_icmp_le, g_if_eq, g_if_ne, g_if_lt, g_if_ge, g_if_gt, g_if_le, g_idiv, g_irem, g_ldiv, g_iload, g_lload, g_aload, g_istore, g_astore, g_lstore, g_iinc, g_getfield, g_putfield, g_iaload, g_baload, g_laload, g_aaload, g_iastore, g_bastore, g_lastore, g_arraylength, g_call0_0, g_call0_1, g_call0_2, g_call0_3, g_call0_4, g_call1_0, g_call1_1, g_call1_2, g_call1_3, g_call1_4, g_call2_0, g_call2_1, g_call2_2, g_call2_3, g_call2_4, g_call3_0, g_call3_1, g_call3_2, g_call3_3, g_call3_4, g_call4_0, g_call4_1, g_call4_2, g_call4_3, g_call4_4, g_call5_0, g_call5_1, g_call5_2, g_call5_3, g_call5_4, g_call6_0, g_call6_1, g_call6_2, g_call6_3, g_call6_4, g_ireturn, g_lreturn, g_return, g_zreturn, sto_0, sto_s, sto2_0, sto2_s, isL_i, isL_r, isL_l, isL_j, ldI_0, ldI_9, ldZ_2, ldL_1, ldQ_3, stI_0, stL_1, stZ_2, gF_o, pF_o, lenA_9, oB_some, vI_i, vJ_j, vR_r, Option.map_some, List.getElem?_cons_zero, List.getElem?_cons_succ, Nat.reduceDiv, Nat.reduceMod, Int.reduceToNat, true_and, and_true, false_and, reduceIte, List.set_cons_zero, List.set_cons_succ, Option.toList_some, Option.toList_none, List.cons_append, List.nil_append, List.length_cons, List.length_nil, Nat.reduceAdd, Nat.reduceLeDiff, Nat.reduceLT, Nat.reduceEqDiff, and_self, and_false, Bool.false_eq_true, ho, h1, h2, h3, m_placeI hF hK hf hin, m_placeN hF hK hf hin, lJ_i, lJ_f, lJ_mul, lJ_sub, es, lK_cmp, cj_gt, cj_eq, show isL jk = false from rfl, iI_f, i32_0, i32_1, b2i_0, b2i_n, iI_add, iI_sub, iI_mul, iI_neg, iI_lt, iI_le, iI_eq, iI_in, iI_cl, i_nn, eq_self, true_or, or_true, not_true_eq_false, not_false_eq_true, Int.reduceEq, Int.reduceLT, Int.reduceLE, Int.reduceNeg]
    refine ite_f (by omega) (ite_c (fun c1 => ?_) (fun c1 => ite_c (fun c2 => ?_) (fun c2 => ite_c (fun c3 => ?_) (fun c3 => ?_))))
    · rw [whF, if_neg (by simp only [onB, Bool.and_eq_true, decide_eq_true_eq]; exact fun q => c1 q.1.1)]; exact k152 _
    · rw [whF, if_neg (by simp only [onB, Bool.and_eq_true, decide_eq_true_eq, e1, e3]; exact fun q => absurd q.1.2 (by omega))]; exact k152 _
    · rw [whF, if_neg (by simp only [onB, Bool.and_eq_true, decide_eq_true_eq, e2, e4]; exact fun q => absurd q.2 (by omega))]; exact k152 _
    · rw [whF, if_pos (by simp only [onB, Bool.and_eq_true, decide_eq_true_eq, e1, e2, e3, e4]; exact ⟨⟨Classical.byContradiction c1, by omega⟩, by omega⟩)]
set_option maxRecDepth 10000 in
theorem m_whereOf {h : fH} {o : MO} {x y : Nat → Int} {m : Nat → Nat} (hF : Fld h o x y m) (hK : Fok x y m) {f : Nat} (hf : f < 4) {u v b : Int} (hb : Pk u v b) (Q : Option Value → fH → Prop) : Call 143 [.ref 56, .int (iI f), .long (lJ u), .long (lJ v), .long (lJ b)] h Q ↔ Q (some (.int (iI (whM (fw x f) (fw y f) (m f) u v b)))) h := by
  obtain ⟨ho, h1, h2, h3⟩ := id hF; unfold Mob at ho; unfold Row at h1 h2 h3
  refine Call.iff ⟨by simp [vOK, entL, isL, mlT, kdT, clT, isO, ho], rfl, ?_⟩ Q
  rw [show ent 143 [.ref 56, .int (iI f), .long (lJ u), .long (lJ v), .long (lJ b)] = [.ref 56, .int (iI f), .long (lJ u), jk, .long (lJ v), jk, .long (lJ b), jk, jk, jk, jk, jk, jk, jk, jk, jk, jk, jk, jk, jk, jk, jk, jk] from rfl]
  simp (disch := omega) only [B143_0, b143_0, g_iconst, g_lconst, g_iadd, g_isub, g_imul, g_iand, g_ior, g_ishl, g_ishr, g_iushr, g_ladd, g_lsub, g_lmul, g_land, g_lor, g_lcmp, g_ineg, g_lshl, g_lshr, g_i2l, g_l2i, g_dupi, g_dupr, g_pop, g_dup2, g_mabs_0, g_mabs_1, g_mabs_2, g_mabs_3, g_mmax_0, g_mmax_1, g_mmax_2, g_mmax_3, g_mmin_0, g_mmin_1, g_mmin_2, g_mmin_3, g_goto, g_jsr, g_icmp_eq, g_icmp_ne, g_icmp_lt, g_icmp_ge, g_icmp_gt, g_icmp_le, g_if_eq, g_if_ne, g_if_lt, g_if_ge, g_if_gt, g_if_le, g_idiv, g_irem, g_ldiv, g_iload, g_lload, g_aload, g_istore, g_astore, g_lstore, g_iinc, g_getfield, g_putfield, g_iaload, g_baload, g_laload, g_aaload, g_iastore, g_bastore, g_lastore, g_arraylength, g_call0_0, g_call0_1, g_call0_2, g_call0_3, g_call0_4, g_call1_0, g_call1_1, g_call1_2, g_call1_3, g_call1_4, g_call2_0, g_call2_1, g_call2_2, g_call2_3, g_call2_4, g_call3_0, g_call3_1, g_call3_2, g_call3_3, g_call3_4, g_call4_0, g_call4_1, g_call4_2, g_call4_3, g_call4_4, g_call5_0, g_call5_1, g_call5_2, g_call5_3, g_call5_4, g_call6_0, g_call6_1, g_call6_2, g_call6_3, g_call6_4, g_ireturn, g_lreturn, g_return, g_zreturn, sto_0, sto_s, sto2_0, sto2_s, isL_i, isL_r, isL_l, isL_j, ldI_0, ldI_9, ldZ_2, ldL_1, ldQ_3, stI_0, stL_1, stZ_2, gF_o, pF_o, lenA_9, oB_some, vI_i, vJ_j, vR_r, Option.map_some, List.getElem?_cons_zero, List.getElem?_cons_succ, Nat.reduceDiv, Nat.reduceMod, Int.reduceToNat, true_and, and_true, false_and, reduceIte, List.set_cons_zero, List.set_cons_succ, Option.toList_some, Option.toList_none, List.cons_append, List.nil_append, List.length_cons, List.length_nil, Nat.reduceAdd, Nat.reduceLeDiff, Nat.reduceLT, Nat.reduceEqDiff, and_self, and_false, Bool.false_eq_true, show isL jk = false from rfl, iI_f, i32_0, i32_1, b2i_0, b2i_n, iI_add, iI_sub, iI_mul, iI_neg, iI_lt, iI_le, iI_eq, iI_in, iI_cl, i_nn, eq_self, true_or, or_true, not_true_eq_false, not_false_eq_true, Int.reduceEq, Int.reduceLT, Int.reduceLE, Int.reduceNeg]
  exact l_whereOf hF hK hf hb (m f) 0 false jk jk jk jk jk jk jk jk jk jk jk jk jk (by omega)
