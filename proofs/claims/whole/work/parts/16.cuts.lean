/-! The class's cuts, part by part. -/
def updN (f : Nat → Nat) (k x : Nat) : Nat → Nat := fun j => if j = k then x else f j
theorem updN_s (f : Nat → Nat) (k x : Nat) : updN f k x k = x := by simp [updN]
theorem updN_n {f : Nat → Nat} {k j x : Nat} (h : j ≠ k) : updN f k x j = f j := by simp [updN, h]
theorem updN_id (f : Nat → Nat) (k : Nat) : updN f k (f k) = f := by funext j; by_cases h : j = k <;> simp [updN, h]
theorem updN_2 (f : Nat → Nat) (k x y : Nat) : updN (updN f k x) k y = updN f k y := by funext j; by_cases h : j = k <;> simp [updN, h]
theorem updN_i (f : Nat → Nat) (k x : Nat) : upd (fun j => iI ((f j : Nat) : Int)) k (iI (x : Int)) = fun j => iI ((updN f k x j : Nat) : Int) := by
  funext j
  by_cases h : j = k <;> simp [upd, updN, h]
theorem updN_l (f : Nat → Nat) (k x : Nat) : vp_updL (fun j => lN (f j)) k (lN x) = fun j => lN (updN f k x j) := by
  funext j
  by_cases h : j = k <;> simp [vp_updL, updN, h]
def Ctr (h : fH) (c n : Nat) (W L F : Nat → Nat) : Prop := f_get h c = .inr (0, [.ref (c + 1), .ref (c + 2), .ref (c + 3), .int (iI n)]) ∧ f_get h (c + 1) = .inl (0, 100, .inl (fun j => iI ((W j : Nat) : Int))) ∧ f_get h (c + 2) = .inl (0, 100, .inl (fun j => iI ((L j : Nat) : Int))) ∧ f_get h (c + 3) = .inl (1, 100, .inr (.inl (fun j => lN (F j))))
def cS (c : Nat) : Nat → Prop := fun k => c ≤ k ∧ k < c + 4
theorem Ctr.W {h : fH} {c n : Nat} {W L F : Nat → Nat} (hC : Ctr h c n W L F) (W' : Nat → Nat) : Ctr (f_st h (c + 1) (.inl (0, 100, .inl (fun j => iI ((W' j : Nat) : Int))))) c n W' L F := ⟨by rw [fg_st_n (by omega)]; exact hC.1, by rw [fg_st_s], by rw [fg_st_n (by omega)]; exact hC.2.2.1, by rw [fg_st_n (by omega)]; exact hC.2.2.2⟩
theorem Ctr.L {h : fH} {c n : Nat} {W L F : Nat → Nat} (hC : Ctr h c n W L F) (L' : Nat → Nat) : Ctr (f_st h (c + 2) (.inl (0, 100, .inl (fun j => iI ((L' j : Nat) : Int))))) c n W L' F := ⟨by rw [fg_st_n (by omega)]; exact hC.1, by rw [fg_st_n (by omega)]; exact hC.2.1, by rw [fg_st_s], by rw [fg_st_n (by omega)]; exact hC.2.2.2⟩
theorem Ctr.F {h : fH} {c n : Nat} {W L F : Nat → Nat} (hC : Ctr h c n W L F) (F' : Nat → Nat) : Ctr (f_st h (c + 3) (.inl (1, 100, .inr (.inl (fun j => lN (F' j)))))) c n W L F' := ⟨by rw [fg_st_n (by omega)]; exact hC.1, by rw [fg_st_n (by omega)]; exact hC.2.1, by rw [fg_st_n (by omega)]; exact hC.2.2.1, by rw [fg_st_s]⟩
theorem Ctr.of {h h' : fH} {c n : Nat} {W L F : Nat → Nat} (hC : Ctr h c n W L F) {T : Nat → Prop} (hF : Fr h h' T) (hS : ∀ k, cS c k → ¬ T k) : Ctr h' c n W L F := ⟨by rw [hF.2.2 c (hS _ ⟨by omega, by omega⟩)]; exact hC.1, by rw [hF.2.2 _ (hS _ ⟨by omega, by omega⟩)]; exact hC.2.1, by rw [hF.2.2 _ (hS _ ⟨by omega, by omega⟩)]; exact hC.2.2.1, by rw [hF.2.2 _ (hS _ ⟨by omega, by omega⟩)]; exact hC.2.2.2⟩
theorem l_or (a b : Nat) : lN a ||| lN b = lN (a ||| b) := by
  apply Int64.toBitVec_inj.mp
  have e : ∀ n, (lN n).toBitVec = BitVec.ofNat 64 n := fun _ => rfl
  rw [Int64.toBitVec_or, e, e, e]
  apply BitVec.eq_of_getLsbD_eq
  intro i hi
  simp [BitVec.getLsbD_ofNat, Nat.testBit_or]
theorem l_and (a b : Nat) : lN a &&& lN b = lN (a &&& b) := by
  apply Int64.toBitVec_inj.mp
  have e : ∀ n, (lN n).toBitVec = BitVec.ofNat 64 n := fun _ => rfl
  rw [Int64.toBitVec_and, e, e, e]
  apply BitVec.eq_of_getLsbD_eq
  intro i hi
  by_cases h : i < 64 <;> simp [BitVec.getLsbD_ofNat, Nat.testBit_and, h]
theorem lcmp_le {a b : Nat} (ha : a < 2 ^ 63) (hb : b < 2 ^ 63) : (lg_cmp (lN a) (lN b) ≤ iI 0) ↔ a ≤ b := by
  have h1 : lN b < lN a ↔ b < a := by rw [Int64.lt_iff_toInt_lt, pk_lT ha, pk_lT hb]; omega
  have h2 : lN a < lN b ↔ a < b := by rw [Int64.lt_iff_toInt_lt, pk_lT ha, pk_lT hb]; omega
  unfold lg_cmp
  by_cases q1 : b < a
  · simp only [h1, q1, if_true]
    constructor
    · intro h; exact absurd h (by decide)
    · intro h; omega
  · simp only [h1, q1, if_false]
    refine ⟨fun _ => by omega, fun _ => ?_⟩
    split <;> decide
theorem lcmp_eq {a b : Nat} (ha : a < 2 ^ 63) (hb : b < 2 ^ 63) : (lg_cmp (lN a) (lN b) = iI 0) ↔ a = b := by
  have h1 : lN b < lN a ↔ b < a := by rw [Int64.lt_iff_toInt_lt, pk_lT ha, pk_lT hb]; omega
  have h2 : lN a = lN b ↔ a = b := by rw [← Int64.toInt_inj, pk_lT ha, pk_lT hb]; omega
  unfold lg_cmp
  by_cases q1 : b < a
  · simp only [h1, q1, if_true]
    constructor
    · intro h; exact absurd h (by decide)
    · intro h; omega
  · by_cases q2 : a = b
    · subst q2; simp [i32_0]
    · have h3 : ¬ lN a = lN b := fun q => q2 (h2.mp q)
      simp only [h1, q1, if_false, h3]
      constructor
      · intro h; exact absurd h (by decide)
      · intro h; exact absurd h q2
theorem jI_0 : Int64.ofInt 0 = lN 0 := rfl
theorem jI_1 : Int64.ofInt 1 = lN 1 := rfl
def rank (a b : Nat) : Nat := a * (19 - a) / 2 + b - a - 1
theorem bitOf_all : (List.range 10).all (fun a => (List.range 10).all (fun b => decide (¬ a < b) || (decide ((iI (a : Int) * (iI 19 - iI (a : Int))) / iI 2 + iI (b : Int) - iI (a : Int) - iI 1 = iI (rank a b)) && decide (lN 1 <<< ((iI 62 - iI (rank a b)).toInt64 &&& 63) = lN (2 ^ (62 - rank a b))) && decide (rank a b ≤ 44)))) = true := by decide +kernel
theorem bitOf_ok {a b : Nat} (hab : a < b) (hb : b < 10) : (iI a * (iI 19 - iI a)) / iI 2 + iI b - iI a - iI 1 = iI (rank a b) ∧ lN 1 <<< ((iI 62 - iI (rank a b)).toInt64 &&& 63) = lN (2 ^ (62 - rank a b)) ∧ rank a b ≤ 44 := by
  have h := List.all_eq_true.mp (List.all_eq_true.mp bitOf_all a (List.mem_range.mpr (by omega))) b (List.mem_range.mpr hb)
  simp only [Bool.or_eq_true, Bool.and_eq_true, decide_eq_true_eq] at h
  obtain ⟨⟨h1, h2⟩, h3⟩ := h.resolve_left (fun q => q hab)
  exact ⟨h1, h2, h3⟩
def bt (a b : Nat) : Nat := 2 ^ (62 - rank a b)
theorem bt_lt {a b : Nat} : bt a b < 2 ^ 63 := Nat.pow_lt_pow_right (a := 2) (by omega) (by omega)
set_option maxRecDepth 10000 in
theorem c_bitOf {h : fH} {a b : Nat} (hab : a < b) (hb : b < 10) (Q : Option Value → fH → Prop) : Call 5 [.int (iI a), .int (iI b)] h Q ↔ Q (some (.long (lN (bt a b)))) h := by
  obtain ⟨e1, e2, e3⟩ := bitOf_ok hab hb
  refine Call.iff ⟨by simp [vOK, entL, isL, mlT, kdT, clT, isO], rfl, ?_⟩ Q
  rw [show ent 5 [.int (iI a), .int (iI b)] = [.int (iI a), .int (iI b), jk] from rfl]
  simp (disch := omega) only [B5_0, b5_0, g_iconst, g_lconst, g_iadd, g_isub, g_imul, g_iand, g_ior, g_ishl, g_ishr, g_iushr, g_ladd, g_lsub, g_lmul, g_land, g_lor, g_lcmp, g_ineg, g_lshl, g_lshr, g_i2l, g_l2i, g_dupi, g_dupr, g_pop, g_dup2, g_mabs_0, g_mabs_1, g_mabs_2, g_mabs_3, g_mmax_0, g_mmax_1, g_mmax_2, g_mmax_3, g_mmin_0, g_mmin_1, g_mmin_2, g_mmin_3, g_goto, g_jsr, g_icmp_eq, g_icmp_ne, g_icmp_lt, g_icmp_ge, g_icmp_gt, g_icmp_le, g_if_eq, g_if_ne, g_if_lt, g_if_ge, g_if_gt, g_if_le, g_idiv, g_irem, g_ldiv, g_iload, g_lload, g_aload, g_istore, g_astore, g_lstore, g_iinc, g_getfield, g_putfield, g_iaload, g_baload, g_laload, g_aaload, g_iastore, g_bastore, g_lastore, g_arraylength, g_call0_0, g_call0_1, g_call0_2, g_call0_3, g_call0_4, g_call1_0, g_call1_1, g_call1_2, g_call1_3, g_call1_4, g_call2_0, g_call2_1, g_call2_2, g_call2_3, g_call2_4, g_call3_0, g_call3_1, g_call3_2, g_call3_3, g_call3_4, g_call4_0, g_call4_1, g_call4_2, g_call4_3, g_call4_4, g_call5_0, g_call5_1, g_call5_2, g_call5_3, g_call5_4, g_call6_0, g_call6_1, g_call6_2, g_call6_3, g_call6_4, g_ireturn, g_lreturn, g_return, g_zreturn, sto_0, sto_s, sto2_0, sto2_s, isL_i, isL_r, isL_l, isL_j, ldI_0, ldI_9, ldZ_2, ldL_1, ldQ_3, stI_0, stL_1, stZ_2, gF_o, pF_o, lenA_9, oB_some, vI_i, vJ_j, vR_r, Option.map_some, List.getElem?_cons_zero, List.getElem?_cons_succ, Nat.reduceDiv, Nat.reduceMod, Int.reduceToNat, true_and, and_true, false_and, reduceIte, List.set_cons_zero, List.set_cons_succ, Option.toList_some, Option.toList_none, List.cons_append, List.nil_append, List.length_cons, List.length_nil, Nat.reduceAdd, Nat.reduceLeDiff, Nat.reduceLT, Nat.reduceEqDiff, and_self, and_false, Bool.false_eq_true, iI_f, i32_0, iI_eq, Int.reduceEq, not_false_eq_true, jI_1]
  rw [e1, e2]
  rfl
/-- how a tip betters what is known: ways, least sum, first set -/
def tipS (l r s : Nat × Nat × Nat) : Nat × Nat × Nat := if l.1 * r.1 = 0 then s else (s.1 + l.1 * r.1, if s.1 = 0 ∨ l.2.1 + r.2.1 < s.2.1 ∨ (l.2.1 + r.2.1 = s.2.1 ∧ s.2.2 < l.2.2 ||| r.2.2) then (l.2.1 + r.2.1, l.2.2 ||| r.2.2) else s.2)
set_option maxRecDepth 10000 in
set_option maxHeartbeats 1000000 in
theorem c_planTip {h : fH} {c n : Nat} {W L F : Nat → Nat} (hC : Ctr h c n W L F) {l r p : Nat} (hl : l < 100) (hr : r < 100) (hp : p < 100) (hlp : l ≠ p) (hrp : r ≠ p) (b1 : W l * W r < 1000000) (b2 : L l < 100000) (b3 : L r < 100000) (b4 : L p < 1000000) (b5 : W p < 1000000) (b6 : F l < 2 ^ 63) (b7 : F r < 2 ^ 63) (b8 : F p < 2 ^ 63)
    {Q : Option Value → fH → Prop} (hq : ∀ h', Ctr h' c n (updN W p (tipS (W l, L l, F l) (W r, L r, F r) (W p, L p, F p)).1) (updN L p (tipS (W l, L l, F l) (W r, L r, F r) (W p, L p, F p)).2.1) (updN F p (tipS (W l, L l, F l) (W r, L r, F r) (W p, L p, F p)).2.2) → Fr h h' (cS c) → Q none h') : Call 4 [.ref c, .int (iI l), .int (iI r), .int (iI p)] h Q := by
  obtain ⟨h1, h2, h3, h4⟩ := id hC
  refine ⟨by simp [vOK, entL, isL, mlT, kdT, clT, isO, h1], rfl, ?_⟩
  rw [show ent 4 [.ref c, .int (iI l), .int (iI r), .int (iI p)] = [.ref c, .int (iI l), .int (iI r), .int (iI p), jk, jk, jk, jk, jk] from rfl]
  have em : ((W l : Nat) : Int) * ((W r : Nat) : Int) = ((W l * W r : Nat) : Int) := by push_cast; rfl
  have ea : ((L l : Nat) : Int) + ((L r : Nat) : Int) = ((L l + L r : Nat) : Int) := by push_cast; rfl
  have eo : F l ||| F r < 2 ^ 63 := Nat.or_lt_two_pow b6 b7
  by_cases z : W l * W r = 0
  · simp (disch := omega) only [B4_0, b4_0, g_iconst, g_lconst, g_iadd, g_isub, g_imul, g_iand, g_ior, g_ishl, g_ishr, g_iushr, g_ladd, g_lsub, g_lmul, g_land, g_lor, g_lcmp, g_ineg, g_lshl, g_lshr, g_i2l, g_l2i, g_dupi, g_dupr, g_pop, g_dup2, g_mabs_0, g_mabs_1, g_mabs_2, g_mabs_3, g_mmax_0, g_mmax_1, g_mmax_2, g_mmax_3, g_mmin_0, g_mmin_1, g_mmin_2, g_mmin_3, g_goto, g_jsr, g_icmp_eq, g_icmp_ne, g_icmp_lt, g_icmp_ge, g_icmp_gt, g_icmp_le, g_if_eq, g_if_ne, g_if_lt, g_if_ge, g_if_gt, g_if_le, g_idiv, g_irem, g_ldiv, g_iload, g_lload, g_aload, g_istore, g_astore, g_lstore, g_iinc, g_getfield, g_putfield, g_iaload, g_baload, g_laload, g_aaload, g_iastore, g_bastore, g_lastore, g_arraylength, g_call0_0, g_call0_1, g_call0_2, g_call0_3, g_call0_4, g_call1_0, g_call1_1, g_call1_2, g_call1_3, g_call1_4, g_call2_0, g_call2_1, g_call2_2, g_call2_3, g_call2_4, g_call3_0, g_call3_1, g_call3_2, g_call3_3, g_call3_4, g_call4_0, g_call4_1, g_call4_2, g_call4_3, g_call4_4, g_call5_0, g_call5_1, g_call5_2, g_call5_3, g_call5_4, g_call6_0, g_call6_1, g_call6_2, g_call6_3, g_call6_4, g_ireturn, g_lreturn, g_return, g_zreturn, sto_0, sto_s, sto2_0, sto2_s, isL_i, isL_r, isL_l, isL_j, ldI_0, ldI_9, ldZ_2, ldL_1, ldQ_3, stI_0, stL_1, stZ_2, gF_o, pF_o, lenA_9, oB_some, vI_i, vJ_j, vR_r, Option.map_some, List.getElem?_cons_zero, List.getElem?_cons_succ, Nat.reduceDiv, Nat.reduceMod, Int.reduceToNat, true_and, and_true, false_and, reduceIte, List.set_cons_zero, List.set_cons_succ, Option.toList_some, Option.toList_none, List.cons_append, List.nil_append, List.length_cons, List.length_nil, Nat.reduceAdd, Nat.reduceLeDiff, Nat.reduceLT, Nat.reduceEqDiff, and_self, and_false, Bool.false_eq_true, h1, h2, h3, h4, em, iI_f, i32_0, i32_1, b2i_0, b2i_n, iI_add, iI_sub, iI_mul, iI_neg, iI_lt, iI_le, iI_eq, iI_in, iI_cl, i_nn, eq_self, true_or, or_true, not_true_eq_false, not_false_eq_true, Int.reduceEq, Int.reduceLT, Int.reduceLE, Int.reduceNeg]
    refine ite_f (by omega) ?_
    have e : tipS (W l, L l, F l) (W r, L r, F r) (W p, L p, F p) = (W p, L p, F p) := by rw [tipS, if_pos z]
    rw [e] at hq
    simp only [updN_id] at hq
    exact hq h hC Fr.rf
  · have fin : ∀ (h' : fH) (L' F' : Nat → Nat) (z8 : Value), Ctr h' c n W L' F' → Fr h h' (cS c) → (tipS (W l, L l, F l) (W r, L r, F r) (W p, L p, F p)).2 = (L' p, F' p) → L' = updN L p (L' p) → F' = updN F p (F' p) → Go 4 (blk 4 122) [.ref c, .int (iI l), .int (iI r), .int (iI p), .int (iI ((W l * W r : Nat) : Int)), .int (iI ((L l + L r : Nat) : Int)), .long (lN (F l ||| F r)), jk, z8] [] h' Q := by
      intro h' L' F' z8 q1 q2 q3 q4 q5
      obtain ⟨e1, e2, e3, e4⟩ := id q1
      have ew : ((W p : Nat) : Int) + ((W l * W r : Nat) : Int) = ((W p + W l * W r : Nat) : Int) := by push_cast; rfl
      rw [B4_122, b4_122]
      simp (disch := omega) only [g_iconst, g_lconst, g_iadd, g_isub, g_imul, g_iand, g_ior, g_ishl, g_ishr, g_iushr, g_ladd, g_lsub, g_lmul, g_land, g_lor, g_lcmp, g_ineg, g_lshl, g_lshr, g_i2l, g_l2i, g_dupi, g_dupr, g_pop, g_dup2, g_mabs_0, g_mabs_1, g_mabs_2, g_mabs_3, g_mmax_0, g_mmax_1, g_mmax_2, g_mmax_3, g_mmin_0, g_mmin_1, g_mmin_2, g_mmin_3, g_goto, g_jsr, g_icmp_eq, g_icmp_ne, g_icmp_lt, g_icmp_ge, g_icmp_gt, g_icmp_le, g_if_eq, g_if_ne, g_if_lt, g_if_ge, g_if_gt, g_if_le, g_idiv, g_irem, g_ldiv, g_iload, g_lload, g_aload, g_istore, g_astore, g_lstore, g_iinc, g_getfield, g_putfield, g_iaload, g_baload, g_laload, g_aaload, g_iastore, g_bastore, g_lastore, g_arraylength, g_call0_0, g_call0_1, g_call0_2, g_call0_3, g_call0_4, g_call1_0, g_call1_1, g_call1_2, g_call1_3, g_call1_4, g_call2_0, g_call2_1, g_call2_2, g_call2_3, g_call2_4, g_call3_0, g_call3_1, g_call3_2, g_call3_3, g_call3_4, g_call4_0, g_call4_1, g_call4_2, g_call4_3, g_call4_4, g_call5_0, g_call5_1, g_call5_2, g_call5_3, g_call5_4, g_call6_0, g_call6_1, g_call6_2, g_call6_3, g_call6_4, g_ireturn, g_lreturn, g_return, g_zreturn, sto_0, sto_s, sto2_0, sto2_s, isL_i, isL_r, isL_l, isL_j, ldI_0, ldI_9, ldZ_2, ldL_1, ldQ_3, stI_0, stL_1, stZ_2, gF_o, pF_o, lenA_9, oB_some, vI_i, vJ_j, vR_r, Option.map_some, List.getElem?_cons_zero, List.getElem?_cons_succ, Nat.reduceDiv, Nat.reduceMod, Int.reduceToNat, true_and, and_true, false_and, reduceIte, List.set_cons_zero, List.set_cons_succ, Option.toList_some, Option.toList_none, List.cons_append, List.nil_append, List.length_cons, List.length_nil, Nat.reduceAdd, Nat.reduceLeDiff, Nat.reduceLT, Nat.reduceEqDiff, and_self, and_false, Bool.false_eq_true, e1, e2, e3, e4, ew, updN_i, iI_f, i32_0, i32_1, b2i_0, b2i_n, iI_add, iI_sub, iI_mul, iI_neg, iI_lt, iI_le, iI_eq, iI_in, iI_cl, i_nn, eq_self, true_or, or_true, not_true_eq_false, not_false_eq_true, Int.reduceEq, Int.reduceLT, Int.reduceLE, Int.reduceNeg]
      have et : (tipS (W l, L l, F l) (W r, L r, F r) (W p, L p, F p)).1 = W p + W l * W r := by rw [tipS, if_neg z]
      refine hq _ ?_ (q2.st (a := c + 1) ⟨by omega, by omega⟩)
      rw [et, q3]
      have q6 := q1.W (updN W p (W p + W l * W r))
      rw [q4, q5] at q6
      rw [q4, q5]
      simp only [updN_s] at q6 ⊢
      exact q6
    have yes : ∀ z8 : Value, (W p = 0 ∨ L l + L r < L p ∨ (L l + L r = L p ∧ F p < F l ||| F r)) → Go 4 (blk 4 106) [.ref c, .int (iI l), .int (iI r), .int (iI p), .int (iI ((W l * W r : Nat) : Int)), .int (iI ((L l + L r : Nat) : Int)), .long (lN (F l ||| F r)), jk, z8] [] h Q := by
      intro z8 hc
      rw [B4_106, b4_106]
      simp (disch := omega) only [g_iconst, g_lconst, g_iadd, g_isub, g_imul, g_iand, g_ior, g_ishl, g_ishr, g_iushr, g_ladd, g_lsub, g_lmul, g_land, g_lor, g_lcmp, g_ineg, g_lshl, g_lshr, g_i2l, g_l2i, g_dupi, g_dupr, g_pop, g_dup2, g_mabs_0, g_mabs_1, g_mabs_2, g_mabs_3, g_mmax_0, g_mmax_1, g_mmax_2, g_mmax_3, g_mmin_0, g_mmin_1, g_mmin_2, g_mmin_3, g_goto, g_jsr, g_icmp_eq, g_icmp_ne, g_icmp_lt, g_icmp_ge, g_icmp_gt, g_icmp_le, g_if_eq, g_if_ne, g_if_lt, g_if_ge, g_if_gt, g_if_le, g_idiv, g_irem, g_ldiv, g_iload, g_lload, g_aload, g_istore, g_astore, g_lstore, g_iinc, g_getfield, g_putfield, g_iaload, g_baload, g_laload, g_aaload, g_iastore, g_bastore, g_lastore, g_arraylength, g_call0_0, g_call0_1, g_call0_2, g_call0_3, g_call0_4, g_call1_0, g_call1_1, g_call1_2, g_call1_3, g_call1_4, g_call2_0, g_call2_1, g_call2_2, g_call2_3, g_call2_4, g_call3_0, g_call3_1, g_call3_2, g_call3_3, g_call3_4, g_call4_0, g_call4_1, g_call4_2, g_call4_3, g_call4_4, g_call5_0, g_call5_1, g_call5_2, g_call5_3, g_call5_4, g_call6_0, g_call6_1, g_call6_2, g_call6_3, g_call6_4, g_ireturn, g_lreturn, g_return, g_zreturn, sto_0, sto_s, sto2_0, sto2_s, isL_i, isL_r, isL_l, isL_j, ldI_0, ldI_9, ldZ_2, ldL_1, ldQ_3, stI_0, stL_1, stZ_2, gF_o, pF_o, lenA_9, oB_some, vI_i, vJ_j, vR_r, Option.map_some, List.getElem?_cons_zero, List.getElem?_cons_succ, Nat.reduceDiv, Nat.reduceMod, Int.reduceToNat, true_and, and_true, false_and, reduceIte, List.set_cons_zero, List.set_cons_succ, Option.toList_some, Option.toList_none, List.cons_append, List.nil_append, List.length_cons, List.length_nil, Nat.reduceAdd, Nat.reduceLeDiff, Nat.reduceLT, Nat.reduceEqDiff, and_self, and_false, Bool.false_eq_true, h1, h2, h3, h4, updN_i, updN_l, fg_st_s, fg_st_n, iI_f, i32_0, i32_1, b2i_0, b2i_n, iI_add, iI_sub, iI_mul, iI_neg, iI_lt, iI_le, iI_eq, iI_in, iI_cl, i_nn, eq_self, true_or, or_true, not_true_eq_false, not_false_eq_true, Int.reduceEq, Int.reduceLT, Int.reduceLE, Int.reduceNeg]
      refine fin _ _ _ z8 ((hC.L (updN L p (L l + L r))).F (updN F p (F l ||| F r))) ((Fr.rf.st (a := c + 2) (S := cS c) ⟨by omega, by omega⟩).st (a := c + 3) ⟨by omega, by omega⟩) ?_ (by rw [updN_s]) (by rw [updN_s])
      rw [tipS, if_neg z, updN_s, updN_s]
      exact if_pos hc
    have no : ∀ z8 : Value, ¬ (W p = 0 ∨ L l + L r < L p ∨ (L l + L r = L p ∧ F p < F l ||| F r)) → Go 4 (blk 4 122) [.ref c, .int (iI l), .int (iI r), .int (iI p), .int (iI ((W l * W r : Nat) : Int)), .int (iI ((L l + L r : Nat) : Int)), .long (lN (F l ||| F r)), jk, z8] [] h Q := by
      intro z8 hc
      refine fin h L F z8 hC Fr.rf ?_ (by rw [updN_id]) (by rw [updN_id])
      rw [tipS, if_neg z]
      exact if_neg hc
    have b71 : (W p = 0 ∨ L l + L r < L p ∨ (L l + L r = L p ∧ F p < F l ||| F r)) → Go 4 (blk 4 71) [.ref c, .int (iI l), .int (iI r), .int (iI p), .int (iI ((W l * W r : Nat) : Int)), .int (iI ((L l + L r : Nat) : Int)), .long (lN (F l ||| F r)), jk, jk] [] h Q := by
      intro hc
      rw [B4_71, b4_71]
      simp (disch := omega) only [B4_76, b4_76, g_iconst, g_lconst, g_iadd, g_isub, g_imul, g_iand, g_ior, g_ishl, g_ishr, g_iushr, g_ladd, g_lsub, g_lmul, g_land, g_lor, g_lcmp, g_ineg, g_lshl, g_lshr, g_i2l, g_l2i, g_dupi, g_dupr, g_pop, g_dup2, g_mabs_0, g_mabs_1, g_mabs_2, g_mabs_3, g_mmax_0, g_mmax_1, g_mmax_2, g_mmax_3, g_mmin_0, g_mmin_1, g_mmin_2, g_mmin_3, g_goto, g_jsr, g_icmp_eq, g_icmp_ne, g_icmp_lt, g_icmp_ge, g_icmp_gt, g_icmp_le, g_if_eq, g_if_ne, g_if_lt, g_if_ge, g_if_gt, g_if_le, g_idiv, g_irem, g_ldiv, g_iload, g_lload, g_aload, g_istore, g_astore, g_lstore, g_iinc, g_getfield, g_putfield, g_iaload, g_baload, g_laload, g_aaload, g_iastore, g_bastore, g_lastore, g_arraylength, g_call0_0, g_call0_1, g_call0_2, g_call0_3, g_call0_4, g_call1_0, g_call1_1, g_call1_2, g_call1_3, g_call1_4, g_call2_0, g_call2_1, g_call2_2, g_call2_3, g_call2_4, g_call3_0, g_call3_1, g_call3_2, g_call3_3, g_call3_4, g_call4_0, g_call4_1, g_call4_2, g_call4_3, g_call4_4, g_call5_0, g_call5_1, g_call5_2, g_call5_3, g_call5_4, g_call6_0, g_call6_1, g_call6_2, g_call6_3, g_call6_4, g_ireturn, g_lreturn, g_return, g_zreturn, sto_0, sto_s, sto2_0, sto2_s, isL_i, isL_r, isL_l, isL_j, ldI_0, ldI_9, ldZ_2, ldL_1, ldQ_3, stI_0, stL_1, stZ_2, gF_o, pF_o, lenA_9, oB_some, vI_i, vJ_j, vR_r, Option.map_some, List.getElem?_cons_zero, List.getElem?_cons_succ, Nat.reduceDiv, Nat.reduceMod, Int.reduceToNat, true_and, and_true, false_and, reduceIte, List.set_cons_zero, List.set_cons_succ, Option.toList_some, Option.toList_none, List.cons_append, List.nil_append, List.length_cons, List.length_nil, Nat.reduceAdd, Nat.reduceLeDiff, Nat.reduceLT, Nat.reduceEqDiff, and_self, and_false, Bool.false_eq_true, iI_f, i32_0, i32_1, b2i_0, b2i_n, iI_add, iI_sub, iI_mul, iI_neg, iI_lt, iI_le, iI_eq, iI_in, iI_cl, i_nn, eq_self, true_or, or_true, not_true_eq_false, not_false_eq_true, Int.reduceEq, Int.reduceLT, Int.reduceLE, Int.reduceNeg]
      exact yes _ hc
    have b75 : ¬ W p = 0 → ¬ L l + L r < L p → Go 4 (blk 4 75) [.ref c, .int (iI l), .int (iI r), .int (iI p), .int (iI ((W l * W r : Nat) : Int)), .int (iI ((L l + L r : Nat) : Int)), .long (lN (F l ||| F r)), jk, jk] [] h Q := by
      intro d1 d2
      rw [B4_75, b4_75]
      simp (disch := omega) only [B4_76, b4_76, g_iconst, g_lconst, g_iadd, g_isub, g_imul, g_iand, g_ior, g_ishl, g_ishr, g_iushr, g_ladd, g_lsub, g_lmul, g_land, g_lor, g_lcmp, g_ineg, g_lshl, g_lshr, g_i2l, g_l2i, g_dupi, g_dupr, g_pop, g_dup2, g_mabs_0, g_mabs_1, g_mabs_2, g_mabs_3, g_mmax_0, g_mmax_1, g_mmax_2, g_mmax_3, g_mmin_0, g_mmin_1, g_mmin_2, g_mmin_3, g_goto, g_jsr, g_icmp_eq, g_icmp_ne, g_icmp_lt, g_icmp_ge, g_icmp_gt, g_icmp_le, g_if_eq, g_if_ne, g_if_lt, g_if_ge, g_if_gt, g_if_le, g_idiv, g_irem, g_ldiv, g_iload, g_lload, g_aload, g_istore, g_astore, g_lstore, g_iinc, g_getfield, g_putfield, g_iaload, g_baload, g_laload, g_aaload, g_iastore, g_bastore, g_lastore, g_arraylength, g_call0_0, g_call0_1, g_call0_2, g_call0_3, g_call0_4, g_call1_0, g_call1_1, g_call1_2, g_call1_3, g_call1_4, g_call2_0, g_call2_1, g_call2_2, g_call2_3, g_call2_4, g_call3_0, g_call3_1, g_call3_2, g_call3_3, g_call3_4, g_call4_0, g_call4_1, g_call4_2, g_call4_3, g_call4_4, g_call5_0, g_call5_1, g_call5_2, g_call5_3, g_call5_4, g_call6_0, g_call6_1, g_call6_2, g_call6_3, g_call6_4, g_ireturn, g_lreturn, g_return, g_zreturn, sto_0, sto_s, sto2_0, sto2_s, isL_i, isL_r, isL_l, isL_j, ldI_0, ldI_9, ldZ_2, ldL_1, ldQ_3, stI_0, stL_1, stZ_2, gF_o, pF_o, lenA_9, oB_some, vI_i, vJ_j, vR_r, Option.map_some, List.getElem?_cons_zero, List.getElem?_cons_succ, Nat.reduceDiv, Nat.reduceMod, Int.reduceToNat, true_and, and_true, false_and, reduceIte, List.set_cons_zero, List.set_cons_succ, Option.toList_some, Option.toList_none, List.cons_append, List.nil_append, List.length_cons, List.length_nil, Nat.reduceAdd, Nat.reduceLeDiff, Nat.reduceLT, Nat.reduceEqDiff, and_self, and_false, Bool.false_eq_true, h1, h2, h3, h4, lcmp_le, iI_f, i32_0, i32_1, b2i_0, b2i_n, iI_add, iI_sub, iI_mul, iI_neg, iI_lt, iI_le, iI_eq, iI_in, iI_cl, i_nn, eq_self, true_or, or_true, not_true_eq_false, not_false_eq_true, Int.reduceEq, Int.reduceLT, Int.reduceLE, Int.reduceNeg]
      exact ite_c (fun c3 => no _ (fun q => by omega)) (fun c3 => ite_c (fun c4 => no _ (fun q => by omega)) (fun c4 => yes _ (Or.inr (Or.inr ⟨by omega, by omega⟩))))
    simp (disch := omega) only [B4_0, b4_0, B4_21, b4_21, g_iconst, g_lconst, g_iadd, g_isub, g_imul, g_iand, g_ior, g_ishl, g_ishr, g_iushr, g_ladd, g_lsub, g_lmul, g_land, g_lor, g_lcmp, g_ineg, g_lshl, g_lshr, g_i2l, g_l2i, g_dupi, g_dupr, g_pop, g_dup2, g_mabs_0, g_mabs_1, g_mabs_2, g_mabs_3, g_mmax_0, g_mmax_1, g_mmax_2, g_mmax_3, g_mmin_0, g_mmin_1, g_mmin_2, g_mmin_3, g_goto, g_jsr, g_icmp_eq, g_icmp_ne, g_icmp_lt, g_icmp_ge, g_icmp_gt, g_icmp_le, g_if_eq, g_if_ne, g_if_lt, g_if_ge, g_if_gt, g_if_le, g_idiv, g_irem, g_ldiv, g_iload, g_lload, g_aload, g_istore, g_astore, g_lstore, g_iinc, g_getfield, g_putfield, g_iaload, g_baload, g_laload, g_aaload, g_iastore, g_bastore, g_lastore, g_arraylength, g_call0_0, g_call0_1, g_call0_2, g_call0_3, g_call0_4, g_call1_0, g_call1_1, g_call1_2, g_call1_3, g_call1_4, g_call2_0, g_call2_1, g_call2_2, g_call2_3, g_call2_4, g_call3_0, g_call3_1, g_call3_2, g_call3_3, g_call3_4, g_call4_0, g_call4_1, g_call4_2, g_call4_3, g_call4_4, g_call5_0, g_call5_1, g_call5_2, g_call5_3, g_call5_4, g_call6_0, g_call6_1, g_call6_2, g_call6_3, g_call6_4, g_ireturn, g_lreturn, g_return, g_zreturn, sto_0, sto_s, sto2_0, sto2_s, isL_i, isL_r, isL_l, isL_j, ldI_0, ldI_9, ldZ_2, ldL_1, ldQ_3, stI_0, stL_1, stZ_2, gF_o, pF_o, lenA_9, oB_some, vI_i, vJ_j, vR_r, Option.map_some, List.getElem?_cons_zero, List.getElem?_cons_succ, Nat.reduceDiv, Nat.reduceMod, Int.reduceToNat, true_and, and_true, false_and, reduceIte, List.set_cons_zero, List.set_cons_succ, Option.toList_some, Option.toList_none, List.cons_append, List.nil_append, List.length_cons, List.length_nil, Nat.reduceAdd, Nat.reduceLeDiff, Nat.reduceLT, Nat.reduceEqDiff, and_self, and_false, Bool.false_eq_true, h1, h2, h3, h4, em, ea, l_or, iI_f, i32_0, i32_1, b2i_0, b2i_n, iI_add, iI_sub, iI_mul, iI_neg, iI_lt, iI_le, iI_eq, iI_in, iI_cl, i_nn, eq_self, true_or, or_true, not_true_eq_false, not_false_eq_true, Int.reduceEq, Int.reduceLT, Int.reduceLE, Int.reduceNeg]
    refine ite_t (by omega) (ite_c (fun c1 => ?_) (fun c1 => ite_c (fun c2 => ?_) (fun c2 => ?_)))
    · exact b71 (Or.inl (by omega))
    · exact b75 (by omega) (by omega)
    · exact b71 (Or.inr (Or.inl (by omega)))
