/-! The reference: where a line meets the fences. -/
def arr (R : List (Int × Int)) (j : Nat) : Int × Int := R.getD (R.length - 1 - j) (0, 0)
theorem arr_1 (A C : List (Int × Int)) {j : Nat} (h : j < C.length) : arr (A ++ C) j = arr C j := by
  unfold arr
  rw [List.getD_eq_getElem?_getD, List.getD_eq_getElem?_getD, List.length_append, List.getElem?_append_right (by omega)]
  congr 2; omega
theorem arr_2 (A C : List (Int × Int)) {i : Nat} (h : i < A.length) : arr (A ++ C) (C.length + i) = arr A i := by
  unfold arr
  rw [List.getD_eq_getElem?_getD, List.getD_eq_getElem?_getD, List.length_append, List.getElem?_append_left (by omega)]
  congr 2; omega
theorem arr_h (p : Int × Int) (t : List (Int × Int)) : arr (p :: t) t.length = p := by
  unfold arr
  rw [List.length_cons, show t.length + 1 - 1 - t.length = 0 by omega]; rfl
theorem arr_c (p : Int × Int) (t : List (Int × Int)) {j : Nat} (h : j < t.length) : arr (p :: t) j = arr t j := arr_1 [p] t h
def AR (h : fH) (R : List (Int × Int)) : Prop := ∃ U D, Row h 65 32 U ∧ Row h 66 32 D ∧ ∀ j, j < R.length → U j = (arr R j).1 ∧ D j = (arr R j).2
def insR (a b : Int) : List (Int × Int) → List (Int × Int)
  | [] => [(a, b)]
  | p :: t => if a * p.2 < p.1 * b then p :: insR a b t else (a, b) :: p :: t
theorem insR_l (a b : Int) : ∀ R : List (Int × Int), (insR a b R).length = R.length + 1
  | [] => rfl
  | p :: t => by rw [insR]; split <;> simp [insR_l a b t]
def mtB (R : List (Int × Int)) : Prop := ∀ p, p ∈ R → 0 ≤ p.1 ∧ p.1 ≤ p.2 ∧ 0 < p.2 ∧ p.2 ≤ 900
theorem insR_b {a b : Int} (h1 : 0 ≤ a) (h2 : a ≤ b) (h3 : 0 < b) (h4 : b ≤ 900) : ∀ {R : List (Int × Int)}, mtB R → mtB (insR a b R)
  | [], _ => fun p hp => by rw [insR] at hp; simp only [List.mem_singleton] at hp; subst hp; exact ⟨h1, h2, h3, h4⟩
  | q :: t, h => fun p hp => by
    rw [insR] at hp
    split at hp
    · rcases List.mem_cons.mp hp with rfl | hp
      · exact h _ (List.mem_cons_self ..)
      · exact insR_b h1 h2 h3 h4 (fun r hr => h r (List.mem_cons_of_mem _ hr)) p hp
    · rcases List.mem_cons.mp hp with rfl | hp
      · exact ⟨h1, h2, h3, h4⟩
      · exact h p hp
def meS : Nat → Prop := fun k => k = 56 ∨ k = 65 ∨ k = 66
theorem fk204 : fk 204 = 0 := rfl
set_option maxRecDepth 10000 in
theorem l_addMeet {h0 : fH} {o : MO} {a b : Int} {R : List (Int × Int)} (ha : 0 ≤ a) (hab : a ≤ b) (hb : b ≤ 900) (hR : mtB R) (hl : R.length ≤ 30) (eo : o.2.2.1 = (R.length : Int)) {Q : Option Value → fH → Prop} (hq : ∀ h' (o' : MO), o'.1 = o.1 → o'.2.2.1 = ((insR a b R).length : Int) → Mob h' o' → AR h' (insR a b R) → Fr h0 h' meS → Q none h') : ∀ (B A : List (Int × Int)) (h : fH) (U D : Nat → Int), A ++ B = R → insR a b R = A ++ insR a b B → Mob h o → Row h 65 32 U → Row h 66 32 D → (∀ j, j < B.length → U j = (arr B j).1 ∧ D j = (arr B j).2) → (∀ i, i < A.length → U (B.length + 1 + i) = (arr A i).1 ∧ D (B.length + 1 + i) = (arr A i).2) → Fr h0 h meS →
    Go 153 (blk 153 15) [.ref 56, .int (iI a), .int (iI b), .int (iI (B.length : Int))] [] h Q := by
  have fin : ∀ (B A : List (Int × Int)) (h : fH) (U D : Nat → Int), A ++ B = R → insR a b R = A ++ (a, b) :: B → Mob h o → Row h 65 32 U → Row h 66 32 D → (∀ j, j < B.length → U j = (arr B j).1 ∧ D j = (arr B j).2) → (∀ i, i < A.length → U (B.length + 1 + i) = (arr A i).1 ∧ D (B.length + 1 + i) = (arr A i).2) → Fr h0 h meS → Go 153 (blk 153 76) [.ref 56, .int (iI a), .int (iI b), .int (iI (B.length : Int))] [] h Q := by
    intro B A h U D eR eI hO hU hD hB hA hF
    have ll : A.length + B.length = R.length := by rw [← eR, List.length_append]
    have g0 := id hO
    have g1 := id hU
    have g2 := id hD
    unfold Mob at g0
    unfold Row at g1 g2
    rw [B153_76, b153_76]
    simp (disch := omega) only [g_iconst, g_lconst, g_iadd, g_isub, g_imul, g_iand, g_ior, g_ishl, g_ishr, g_iushr, g_ladd, g_lsub, g_lmul, g_land, g_lor, g_lcmp, g_ineg, g_lshl, g_lshr, g_i2l, g_l2i, g_dupi, g_dupr, g_pop, g_dup2, g_mabs_0, g_mabs_1, g_mabs_2, g_mabs_3, g_mmax_0, g_mmax_1, g_mmax_2, g_mmax_3, g_mmin_0, g_mmin_1, g_mmin_2, g_mmin_3, g_goto, g_jsr, g_icmp_eq, g_icmp_ne, g_icmp_lt, g_icmp_ge, g_icmp_gt, g_icmp_le, g_if_eq, g_if_ne, g_if_lt, g_if_ge, g_if_gt, g_if_le, g_idiv, g_irem, g_ldiv, g_iload, g_lload, g_aload, g_istore, g_astore, g_lstore, g_iinc, g_getfield, g_putfield, g_iaload, g_baload, g_laload, g_aaload, g_iastore, g_bastore, g_lastore, g_arraylength, g_call0_0, g_call0_1, g_call0_2, g_call0_3, g_call0_4, g_call1_0, g_call1_1, g_call1_2, g_call1_3, g_call1_4, g_call2_0, g_call2_1, g_call2_2, g_call2_3, g_call2_4, g_call3_0, g_call3_1, g_call3_2, g_call3_3, g_call3_4, g_call4_0, g_call4_1, g_call4_2, g_call4_3, g_call4_4, g_call5_0, g_call5_1, g_call5_2, g_call5_3, g_call5_4, g_call6_0, g_call6_1, g_call6_2, g_call6_3, g_call6_4, g_ireturn, g_lreturn, g_return, g_zreturn, sto_0, sto_s, sto2_0, sto2_s, isL_i, isL_r, isL_l, isL_j, ldI_0, ldI_9, ldZ_2, ldL_1, ldQ_3, stI_0, stL_1, stZ_2, gF_o, pF_o, lenA_9, oB_some, vI_i, vJ_j, vR_r, Option.map_some, List.getElem?_cons_zero, List.getElem?_cons_succ, Nat.reduceDiv, Nat.reduceMod, Int.reduceToNat, true_and, and_true, false_and, reduceIte, List.set_cons_zero, List.set_cons_succ, Option.toList_some, Option.toList_none, List.cons_append, List.nil_append, List.length_cons, List.length_nil, Nat.reduceAdd, Nat.reduceLeDiff, Nat.reduceLT, Nat.reduceEqDiff, and_self, and_false, Bool.false_eq_true, g0, g1, g2, eo, upd_i, fg_st_s, fg_st_n, fk204, fit_i, iI_f, i32_0, i32_1, b2i_0, b2i_n, iI_add, iI_sub, iI_mul, iI_neg, iI_lt, iI_le, iI_eq, iI_in, iI_cl, i_nn, eq_self, true_or, or_true, not_true_eq_false, not_false_eq_true, Int.reduceEq, Int.reduceLT, Int.reduceLE, Int.reduceNeg]
    refine hq _ (o.1, o.2.1, ((insR a b R).length : Int), o.2.2.2) rfl rfl ?_ ⟨updZ U B.length a, updZ D B.length b, ?_, ?_, ?_⟩ (((hF.st (a := 65) (by simp [meS])).st (a := 66) (by simp [meS])).st (a := 56) (by simp [meS]))
    · unfold Mob; rw [fg_st_s, insR_l]; push_cast; rfl
    · unfold Row; rw [fg_st_n (by omega), fg_st_n (by omega), fg_st_s]
    · unfold Row; rw [fg_st_n (by omega), fg_st_s]
    · intro j hj
      rw [eI]
      rw [insR_l] at hj
      by_cases c1 : j < B.length
      · rw [arr_1 A _ (by simp; omega), arr_c _ _ c1, updZ_n (by omega), updZ_n (by omega)]; exact hB j c1
      · by_cases c2 : j = B.length
        · subst c2; rw [arr_1 A _ (by simp), arr_h, updZ_s, updZ_s]; exact ⟨rfl, rfl⟩
        · have c3 : j = ((a, b) :: B).length + (j - B.length - 1) := by simp only [List.length_cons]; omega
          have := hA (j - B.length - 1) (by omega)
          rw [show B.length + 1 + (j - B.length - 1) = j by omega] at this
          rw [updZ_n c2, updZ_n c2, c3, arr_2 A _ (by omega)]
          rw [← c3]
          exact this
  intro B
  induction B with
  | nil =>
    intro A h U D eR eI hO hU hD hB hA hF
    have w := fin [] A h U D eR eI hO hU hD hB hA hF
    rw [B153_15, b153_15]
    simp (disch := omega) only [g_iconst, g_lconst, g_iadd, g_isub, g_imul, g_iand, g_ior, g_ishl, g_ishr, g_iushr, g_ladd, g_lsub, g_lmul, g_land, g_lor, g_lcmp, g_ineg, g_lshl, g_lshr, g_i2l, g_l2i, g_dupi, g_dupr, g_pop, g_dup2, g_mabs_0, g_mabs_1, g_mabs_2, g_mabs_3, g_mmax_0, g_mmax_1, g_mmax_2, g_mmax_3, g_mmin_0, g_mmin_1, g_mmin_2, g_mmin_3, g_goto, g_jsr, g_icmp_eq, g_icmp_ne, g_icmp_lt, g_icmp_ge, g_icmp_gt, g_icmp_le, g_if_eq, g_if_ne, g_if_lt, g_if_ge, g_if_gt, g_if_le, g_idiv, g_irem, g_ldiv, g_iload, g_lload, g_aload, g_istore, g_astore, g_lstore, g_iinc, g_getfield, g_putfield, g_iaload, g_baload, g_laload, g_aaload, g_iastore, g_bastore, g_lastore, g_arraylength, g_call0_0, g_call0_1, g_call0_2, g_call0_3, g_call0_4, g_call1_0, g_call1_1, g_call1_2, g_call1_3, g_call1_4, g_call2_0, g_call2_1, g_call2_2, g_call2_3, g_call2_4, g_call3_0, g_call3_1, g_call3_2, g_call3_3, g_call3_4, g_call4_0, g_call4_1, g_call4_2, g_call4_3, g_call4_4, g_call5_0, g_call5_1, g_call5_2, g_call5_3, g_call5_4, g_call6_0, g_call6_1, g_call6_2, g_call6_3, g_call6_4, g_ireturn, g_lreturn, g_return, g_zreturn, sto_0, sto_s, sto2_0, sto2_s, isL_i, isL_r, isL_l, isL_j, ldI_0, ldI_9, ldZ_2, ldL_1, ldQ_3, stI_0, stL_1, stZ_2, gF_o, pF_o, lenA_9, oB_some, vI_i, vJ_j, vR_r, Option.map_some, List.getElem?_cons_zero, List.getElem?_cons_succ, Nat.reduceDiv, Nat.reduceMod, Int.reduceToNat, true_and, and_true, false_and, reduceIte, List.set_cons_zero, List.set_cons_succ, Option.toList_some, Option.toList_none, List.cons_append, List.nil_append, List.length_cons, List.length_nil, Nat.reduceAdd, Nat.reduceLeDiff, Nat.reduceLT, Nat.reduceEqDiff, and_self, and_false, Bool.false_eq_true, iI_f, i32_0, i32_1, b2i_0, b2i_n, iI_add, iI_sub, iI_mul, iI_neg, iI_lt, iI_le, iI_eq, iI_in, iI_cl, i_nn, eq_self, true_or, or_true, not_true_eq_false, not_false_eq_true, Int.reduceEq, Int.reduceLT, Int.reduceLE, Int.reduceNeg]
    simp only [List.length_nil] at w ⊢
    first
      | exact ite_t (by omega) w
      | exact w
  | cons p t ih =>
    intro A h U D eR eI hO hU hD hB hA hF
    have ll : A.length + (t.length + 1) = R.length := by rw [← eR, List.length_append, List.length_cons]
    have g0 := id hO
    have g1 := id hU
    have g2 := id hD
    unfold Mob at g0
    unfold Row at g1 g2
    have hp := hB t.length (by simp)
    rw [arr_h] at hp
    obtain ⟨m1, m2, m3, m4⟩ := hR p (by rw [← eR]; simp)
    have e1 : (((p :: t).length : Int) - 1).toNat = t.length := by simp only [List.length_cons]; omega
    have e0 : ((p :: t).length : Int) = (t.length : Int) + 1 := by simp only [List.length_cons]; omega
    have e2 : ((t.length : Int) + 1 - 1).toNat = t.length := by omega
    have e3 : ((t.length : Int) + 1).toNat = t.length + 1 := by omega
    have k1 := mul_bd (a := p.1) (b := b) (M := 900) (N := 900) (by omega) (by omega) (by omega) (by omega) (by omega) (by omega)
    have k2 := mul_bd (a := a) (b := p.2) (M := 900) (N := 900) (by omega) (by omega) (by omega) (by omega) (by omega) (by omega)
    rw [e0]
    rw [B153_15, b153_15]
    simp (disch := omega) only [g_iconst, g_lconst, g_iadd, g_isub, g_imul, g_iand, g_ior, g_ishl, g_ishr, g_iushr, g_ladd, g_lsub, g_lmul, g_land, g_lor, g_lcmp, g_ineg, g_lshl, g_lshr, g_i2l, g_l2i, g_dupi, g_dupr, g_pop, g_dup2, g_mabs_0, g_mabs_1, g_mabs_2, g_mabs_3, g_mmax_0, g_mmax_1, g_mmax_2, g_mmax_3, g_mmin_0, g_mmin_1, g_mmin_2, g_mmin_3, g_goto, g_jsr, g_icmp_eq, g_icmp_ne, g_icmp_lt, g_icmp_ge, g_icmp_gt, g_icmp_le, g_if_eq, g_if_ne, g_if_lt, g_if_ge, g_if_gt, g_if_le, g_idiv, g_irem, g_ldiv, g_iload, g_lload, g_aload, g_istore, g_astore, g_lstore, g_iinc, g_getfield, g_putfield, g_iaload, g_baload, g_laload, g_aaload, g_iastore, g_bastore, g_lastore, g_arraylength, g_call0_0, g_call0_1, g_call0_2, g_call0_3, g_call0_4, g_call1_0, g_call1_1, g_call1_2, g_call1_3, g_call1_4, g_call2_0, g_call2_1, g_call2_2, g_call2_3, g_call2_4, g_call3_0, g_call3_1, g_call3_2, g_call3_3, g_call3_4, g_call4_0, g_call4_1, g_call4_2, g_call4_3, g_call4_4, g_call5_0, g_call5_1, g_call5_2, g_call5_3, g_call5_4, g_call6_0, g_call6_1, g_call6_2, g_call6_3, g_call6_4, g_ireturn, g_lreturn, g_return, g_zreturn, sto_0, sto_s, sto2_0, sto2_s, isL_i, isL_r, isL_l, isL_j, ldI_0, ldI_9, ldZ_2, ldL_1, ldQ_3, stI_0, stL_1, stZ_2, gF_o, pF_o, lenA_9, oB_some, vI_i, vJ_j, vR_r, Option.map_some, List.getElem?_cons_zero, List.getElem?_cons_succ, Nat.reduceDiv, Nat.reduceMod, Int.reduceToNat, true_and, and_true, false_and, reduceIte, List.set_cons_zero, List.set_cons_succ, Option.toList_some, Option.toList_none, List.cons_append, List.nil_append, List.length_cons, List.length_nil, Nat.reduceAdd, Nat.reduceLeDiff, Nat.reduceLT, Nat.reduceEqDiff, and_self, and_false, Bool.false_eq_true, g0, g1, g2, e2, e3, hp.1, hp.2, upd_i, fg_st_s, fg_st_n, iI_f, i32_0, i32_1, b2i_0, b2i_n, iI_add, iI_sub, iI_mul, iI_neg, iI_lt, iI_le, iI_eq, iI_in, iI_cl, i_nn, eq_self, true_or, or_true, not_true_eq_false, not_false_eq_true, Int.reduceEq, Int.reduceLT, Int.reduceLE, Int.reduceNeg]
    refine ite_f (by omega) (ite_c (fun c1 => ?_) (fun c1 => ?_))
    · have w := fin (p :: t) A h U D eR (by rw [eI, insR, if_neg (by omega)]) hO hU hD hB hA hF
      rw [e0] at w
      exact w
    · have w := ih (A ++ [p]) (f_st (f_st h 65 (.inl (0, 32, .inl (fun j => iI (updZ U (t.length + 1) p.1 j))))) 66 (.inl (0, 32, .inl (fun j => iI (updZ D (t.length + 1) p.2 j))))) (updZ U (t.length + 1) p.1) (updZ D (t.length + 1) p.2) (by rw [← eR]; simp) (by rw [eI, insR, if_pos (by omega)]; simp) (by unfold Mob; rw [fg_st_n (by omega), fg_st_n (by omega)]; exact g0) (by unfold Row; rw [fg_st_n (by omega), fg_st_s]) (by unfold Row; rw [fg_st_s]) (fun j hj => by
        rw [updZ_n (by omega), updZ_n (by omega)]
        have := hB j (by simp; omega)
        rw [arr_c _ _ hj] at this
        exact this) (fun i hi => by
        rw [List.length_append, List.length_singleton] at hi
        by_cases c2 : i = 0
        · subst c2
          have : arr (A ++ [p]) 0 = p := by rw [arr_1 A [p] (by simp)]; rfl
          rw [this, show t.length + 1 + 0 = t.length + 1 by omega, updZ_s, updZ_s]; exact ⟨rfl, rfl⟩
        · rw [updZ_n (by omega), updZ_n (by omega)]
          have := hA (i - 1) (by omega)
          have e5 := arr_2 A [p] (i := i - 1) (by omega)
          rw [List.length_singleton, show 1 + (i - 1) = i by omega] at e5
          rw [e5]
          simp only [List.length_cons] at this
          rw [show t.length + 1 + 1 + (i - 1) = t.length + 1 + i by omega] at this
          exact this) ((hF.st (a := 65) (by simp [meS])).st (a := 66) (by simp [meS]))
      rw [show (t.length : Int) + 1 + -1 = (t.length : Int) by omega]
      exact w
def adL (a b : Int) (R : List (Int × Int)) : List (Int × Int) := if a < 0 ∨ b < a then R else insR a b R
theorem adL_l (a b : Int) (R : List (Int × Int)) : (adL a b R).length ≤ R.length + 1 := by unfold adL; split <;> simp [insR_l]
theorem adL_b {a b : Int} (h3 : 0 < b) (h4 : b ≤ 900) {R : List (Int × Int)} (h : mtB R) : mtB (adL a b R) := by
  unfold adL; split
  · exact h
  · exact insR_b (by omega) (by omega) h3 h4 h
set_option maxRecDepth 10000 in
theorem m_addMeet {h : fH} {o : MO} {a b : Int} {R : List (Int × Int)} (ha : -100000 ≤ a ∧ a ≤ 100000) (hb : 0 < b ∧ b ≤ 900) (hR : mtB R) (hl : R.length ≤ 30) (hO : Mob h o) (eo : o.2.2.1 = (R.length : Int)) (hA : AR h R) {Q : Option Value → fH → Prop} (hq : ∀ h' (o' : MO), o'.1 = o.1 → o'.2.2.1 = ((adL a b R).length : Int) → Mob h' o' → AR h' (adL a b R) → Fr h h' meS → Q none h') : Call 153 [.ref 56, .int (iI a), .int (iI b)] h Q := by
  have ho := id hO
  unfold Mob at ho
  refine ⟨by simp [vOK, entL, isL, mlT, kdT, clT, isO, ho], rfl, ?_⟩
  rw [show ent 153 [.ref 56, .int (iI a), .int (iI b)] = [.ref 56, .int (iI a), .int (iI b), jk] from rfl]
  simp (disch := omega) only [B153_0, b153_0, B153_9, b153_9, g_iconst, g_lconst, g_iadd, g_isub, g_imul, g_iand, g_ior, g_ishl, g_ishr, g_iushr, g_ladd, g_lsub, g_lmul, g_land, g_lor, g_lcmp, g_ineg, g_lshl, g_lshr, g_i2l, g_l2i, g_dupi, g_dupr, g_pop, g_dup2, g_mabs_0, g_mabs_1, g_mabs_2, g_mabs_3, g_mmax_0, g_mmax_1, g_mmax_2, g_mmax_3, g_mmin_0, g_mmin_1, g_mmin_2, g_mmin_3, g_goto, g_jsr, g_icmp_eq, g_icmp_ne, g_icmp_lt, g_icmp_ge, g_icmp_gt, g_icmp_le, g_if_eq, g_if_ne, g_if_lt, g_if_ge, g_if_gt, g_if_le, g_idiv, g_irem, g_ldiv, g_iload, g_lload, g_aload, g_istore, g_astore, g_lstore, g_iinc, g_getfield, g_putfield, g_iaload, g_baload, g_laload, g_aaload, g_iastore, g_bastore, g_lastore, g_arraylength, g_call0_0, g_call0_1, g_call0_2, g_call0_3, g_call0_4, g_call1_0, g_call1_1, g_call1_2, g_call1_3, g_call1_4, g_call2_0, g_call2_1, g_call2_2, g_call2_3, g_call2_4, g_call3_0, g_call3_1, g_call3_2, g_call3_3, g_call3_4, g_call4_0, g_call4_1, g_call4_2, g_call4_3, g_call4_4, g_call5_0, g_call5_1, g_call5_2, g_call5_3, g_call5_4, g_call6_0, g_call6_1, g_call6_2, g_call6_3, g_call6_4, g_ireturn, g_lreturn, g_return, g_zreturn, sto_0, sto_s, sto2_0, sto2_s, isL_i, isL_r, isL_l, isL_j, ldI_0, ldI_9, ldZ_2, ldL_1, ldQ_3, stI_0, stL_1, stZ_2, gF_o, pF_o, lenA_9, oB_some, vI_i, vJ_j, vR_r, Option.map_some, List.getElem?_cons_zero, List.getElem?_cons_succ, Nat.reduceDiv, Nat.reduceMod, Int.reduceToNat, true_and, and_true, false_and, reduceIte, List.set_cons_zero, List.set_cons_succ, Option.toList_some, Option.toList_none, List.cons_append, List.nil_append, List.length_cons, List.length_nil, Nat.reduceAdd, Nat.reduceLeDiff, Nat.reduceLT, Nat.reduceEqDiff, and_self, and_false, Bool.false_eq_true, iI_f, i32_0, i32_1, b2i_0, b2i_n, iI_add, iI_sub, iI_mul, iI_neg, iI_lt, iI_le, iI_eq, iI_in, iI_cl, i_nn, eq_self, true_or, or_true, not_true_eq_false, not_false_eq_true, Int.reduceEq, Int.reduceLT, Int.reduceLE, Int.reduceNeg]
  refine ite_c (fun c1 => ?_) (fun c1 => ite_c (fun c2 => ?_) (fun c2 => ?_))
  · rw [adL, if_pos (Or.inl c1)] at hq
    exact hq h o rfl eo hO hA Fr.rf
  · rw [adL, if_neg (by omega)] at hq
    simp (disch := omega) only [B153_10, b153_10, g_iconst, g_lconst, g_iadd, g_isub, g_imul, g_iand, g_ior, g_ishl, g_ishr, g_iushr, g_ladd, g_lsub, g_lmul, g_land, g_lor, g_lcmp, g_ineg, g_lshl, g_lshr, g_i2l, g_l2i, g_dupi, g_dupr, g_pop, g_dup2, g_mabs_0, g_mabs_1, g_mabs_2, g_mabs_3, g_mmax_0, g_mmax_1, g_mmax_2, g_mmax_3, g_mmin_0, g_mmin_1, g_mmin_2, g_mmin_3, g_goto, g_jsr, g_icmp_eq, g_icmp_ne, g_icmp_lt, g_icmp_ge, g_icmp_gt, g_icmp_le, g_if_eq, g_if_ne, g_if_lt, g_if_ge, g_if_gt, g_if_le, g_idiv, g_irem, g_ldiv, g_iload, g_lload, g_aload, g_istore, g_astore, g_lstore, g_iinc, g_getfield, g_putfield, g_iaload, g_baload, g_laload, g_aaload, g_iastore, g_bastore, g_lastore, g_arraylength, g_call0_0, g_call0_1, g_call0_2, g_call0_3, g_call0_4, g_call1_0, g_call1_1, g_call1_2, g_call1_3, g_call1_4, g_call2_0, g_call2_1, g_call2_2, g_call2_3, g_call2_4, g_call3_0, g_call3_1, g_call3_2, g_call3_3, g_call3_4, g_call4_0, g_call4_1, g_call4_2, g_call4_3, g_call4_4, g_call5_0, g_call5_1, g_call5_2, g_call5_3, g_call5_4, g_call6_0, g_call6_1, g_call6_2, g_call6_3, g_call6_4, g_ireturn, g_lreturn, g_return, g_zreturn, sto_0, sto_s, sto2_0, sto2_s, isL_i, isL_r, isL_l, isL_j, ldI_0, ldI_9, ldZ_2, ldL_1, ldQ_3, stI_0, stL_1, stZ_2, gF_o, pF_o, lenA_9, oB_some, vI_i, vJ_j, vR_r, Option.map_some, List.getElem?_cons_zero, List.getElem?_cons_succ, Nat.reduceDiv, Nat.reduceMod, Int.reduceToNat, true_and, and_true, false_and, reduceIte, List.set_cons_zero, List.set_cons_succ, Option.toList_some, Option.toList_none, List.cons_append, List.nil_append, List.length_cons, List.length_nil, Nat.reduceAdd, Nat.reduceLeDiff, Nat.reduceLT, Nat.reduceEqDiff, and_self, and_false, Bool.false_eq_true, ho, eo, iI_f, i32_0, i32_1, b2i_0, b2i_n, iI_add, iI_sub, iI_mul, iI_neg, iI_lt, iI_le, iI_eq, iI_in, iI_cl, i_nn, eq_self, true_or, or_true, not_true_eq_false, not_false_eq_true, Int.reduceEq, Int.reduceLT, Int.reduceLE, Int.reduceNeg]
    obtain ⟨U, D, hU, hD, hj⟩ := hA
    exact l_addMeet (by omega) c2 hb.2 hR hl eo hq R [] h U D rfl rfl hO hU hD hj (fun i hi => by simp at hi) Fr.rf
  · rw [adL, if_pos (Or.inr (by omega))] at hq
    exact hq h o rfl eo hO hA Fr.rf
def lng (x y : Nat → Int) (a b : Nat) : Int := (x a - x b) * (x a - x b) + (y a - y b) * (y a - y b)
def prt (x y : Nat → Int) (a b c : Nat) : Int := (x c - x a) * (x b - x a) + (y c - y a) * (y b - y a)
/-- where the line from a to b meets the fence from c to d -/
def layL (x y : Nat → Int) (a b c d : Nat) (R : List (Int × Int)) : List (Int × Int) := if sd x y c d a = sd x y c d b then (if sd x y c d a = 0 then adL (prt x y a b d) (lng x y a b) (adL (prt x y a b c) (lng x y a b) R) else R) else if sgn (sd x y a b c) * sgn (sd x y a b d) ≤ 0 then adL (if sd x y c d a < sd x y c d b then -sd x y c d a else sd x y c d a) (if sd x y c d a < sd x y c d b then sd x y c d b - sd x y c d a else sd x y c d a - sd x y c d b) R else R
theorem lng_bd {x y : Nat → Int} {m : Nat → Nat} (hK : Fok x y m) {a b : Nat} (ha : Pl m a) (hb : Pl m b) : 0 ≤ lng x y a b ∧ lng x y a b ≤ 450 := by
  obtain ⟨-, ⟨a1, a2⟩, a3, a4⟩ := hK.at ha
  obtain ⟨-, ⟨b1, b2⟩, b3, b4⟩ := hK.at hb
  have h1 := mul_bd (a := x a - x b) (b := x a - x b) (M := 15) (N := 15) (by omega) (by omega) (by omega) (by omega) (by omega) (by omega)
  have h2 := mul_bd (a := y a - y b) (b := y a - y b) (M := 15) (N := 15) (by omega) (by omega) (by omega) (by omega) (by omega) (by omega)
  have h3 := sq_nn (x a - x b)
  have h4 := sq_nn (y a - y b)
  unfold lng
  omega
theorem prt_bd {x y : Nat → Int} {m : Nat → Nat} (hK : Fok x y m) {a b c : Nat} (ha : Pl m a) (hb : Pl m b) (hc : Pl m c) : -450 ≤ prt x y a b c ∧ prt x y a b c ≤ 450 := by
  obtain ⟨-, ⟨a1, a2⟩, a3, a4⟩ := hK.at ha
  obtain ⟨-, ⟨b1, b2⟩, b3, b4⟩ := hK.at hb
  obtain ⟨-, ⟨c1, c2⟩, c3, c4⟩ := hK.at hc
  have h1 := mul_bd (a := x c - x a) (b := x b - x a) (M := 15) (N := 15) (by omega) (by omega) (by omega) (by omega) (by omega) (by omega)
  have h2 := mul_bd (a := y c - y a) (b := y b - y a) (M := 15) (N := 15) (by omega) (by omega) (by omega) (by omega) (by omega) (by omega)
  unfold prt
  omega
theorem layL_l (x y : Nat → Int) (a b c d : Nat) (R : List (Int × Int)) : (layL x y a b c d R).length ≤ R.length + 2 := by
  unfold layL
  (repeat' split)
  all_goals first
    | omega
    | (have h1 := adL_l (prt x y a b d) (lng x y a b) (adL (prt x y a b c) (lng x y a b) R)
       have h2 := adL_l (prt x y a b c) (lng x y a b) R
       omega)
    | (have h1 := adL_l (-sd x y c d a) (sd x y c d b - sd x y c d a) R; omega)
    | (have h1 := adL_l (sd x y c d a) (sd x y c d a - sd x y c d b) R; omega)
theorem layL_b {x y : Nat → Int} {m : Nat → Nat} (hK : Fok x y m) {a b c d : Nat} (ha : Pl m a) (hb : Pl m b) (hc : Pl m c) (hd : Pl m d) (hab : 0 < lng x y a b) {R : List (Int × Int)} (h : mtB R) : mtB (layL x y a b c d R) := by
  have lb := lng_bd hK ha hb
  have s1 := fok_sd hK hc hd ha
  have s2 := fok_sd hK hc hd hb
  unfold layL
  (repeat' split)
  · exact adL_b hab (by omega) (adL_b hab (by omega) h)
  · exact h
  · exact adL_b (by omega) (by omega) h
  · exact adL_b (by omega) (by omega) h
  · exact h
set_option maxRecDepth 10000 in
theorem m_layMeet {h : fH} {o : MO} {x y : Nat → Int} {m : Nat → Nat} (hF : Fld h o x y m) (hK : Fok x y m) {a b c d : Nat} (ha : Pl m a) (hb : Pl m b) (hc : Pl m c) (hd : Pl m d) (hab : 0 < lng x y a b) {R : List (Int × Int)} (hR : mtB R) (hl : R.length ≤ 28) (eo : o.2.2.1 = (R.length : Int)) (hA : AR h R) {Q : Option Value → fH → Prop} (hq : ∀ h' (o' : MO), o'.1 = o.1 → o'.2.2.1 = ((layL x y a b c d R).length : Int) → Mob h' o' → AR h' (layL x y a b c d R) → Fr h h' meS → Q none h') : Call 154 [.ref 56, .int (iI a), .int (iI b), .int (iI c), .int (iI d)] h Q := by
  obtain ⟨ho, r1, r2, r3⟩ := id hF
  have hO := id ho
  unfold Mob at ho
  have lb := lng_bd hK ha hb
  have p1 := prt_bd hK ha hb hc
  have p2 := prt_bd hK ha hb hd
  have s1 := fok_sd hK hc hd ha
  have s2 := fok_sd hK hc hd hb
  have s3 := fok_sd hK ha hb hc
  have s4 := fok_sd hK ha hb hd
  have el : (x a - x b) * (x a - x b) + (y a - y b) * (y a - y b) = lng x y a b := rfl
  have ep : (x c - x a) * (x b - x a) + (y c - y a) * (y b - y a) = prt x y a b c := rfl
  have ep2 : (x d - x a) * (x b - x a) + (y d - y a) * (y b - y a) = prt x y a b d := rfl
  refine ⟨by simp [vOK, entL, isL, mlT, kdT, clT, isO, ho], rfl, ?_⟩
  rw [show ent 154 [.ref 56, .int (iI a), .int (iI b), .int (iI c), .int (iI d)] = [.ref 56, .int (iI a), .int (iI b), .int (iI c), .int (iI d), jk, jk, jk, jk] from rfl]
  simp (disch := omega) only [B154_0, b154_0, B154_67, b154_67, g_iconst, g_lconst, g_iadd, g_isub, g_imul, g_iand, g_ior, g_ishl, g_ishr, g_iushr, g_ladd, g_lsub, g_lmul, g_land, g_lor, g_lcmp, g_ineg, g_lshl, g_lshr, g_i2l, g_l2i, g_dupi, g_dupr, g_pop, g_dup2, g_mabs_0, g_mabs_1, g_mabs_2, g_mabs_3, g_mmax_0, g_mmax_1, g_mmax_2, g_mmax_3, g_mmin_0, g_mmin_1, g_mmin_2, g_mmin_3, g_goto, g_jsr, g_icmp_eq, g_icmp_ne, g_icmp_lt, g_icmp_ge, g_icmp_gt, g_icmp_le, g_if_eq, g_if_ne, g_if_lt, g_if_ge, g_if_gt, g_if_le, g_idiv, g_irem, g_ldiv, g_iload, g_lload, g_aload, g_istore, g_astore, g_lstore, g_iinc, g_getfield, g_putfield, g_iaload, g_baload, g_laload, g_aaload, g_iastore, g_bastore, g_lastore, g_arraylength, g_call0_0, g_call0_1, g_call0_2, g_call0_3, g_call0_4, g_call1_0, g_call1_1, g_call1_2, g_call1_3, g_call1_4, g_call2_0, g_call2_1, g_call2_2, g_call2_3, g_call2_4, g_call3_0, g_call3_1, g_call3_2, g_call3_3, g_call3_4, g_call4_0, g_call4_1, g_call4_2, g_call4_3, g_call4_4, g_call5_0, g_call5_1, g_call5_2, g_call5_3, g_call5_4, g_call6_0, g_call6_1, g_call6_2, g_call6_3, g_call6_4, g_ireturn, g_lreturn, g_return, g_zreturn, sto_0, sto_s, sto2_0, sto2_s, isL_i, isL_r, isL_l, isL_j, ldI_0, ldI_9, ldZ_2, ldL_1, ldQ_3, stI_0, stL_1, stZ_2, gF_o, pF_o, lenA_9, oB_some, vI_i, vJ_j, vR_r, Option.map_some, List.getElem?_cons_zero, List.getElem?_cons_succ, Nat.reduceDiv, Nat.reduceMod, Int.reduceToNat, true_and, and_true, false_and, reduceIte, List.set_cons_zero, List.set_cons_succ, Option.toList_some, Option.toList_none, List.cons_append, List.nil_append, List.length_cons, List.length_nil, Nat.reduceAdd, Nat.reduceLeDiff, Nat.reduceLT, Nat.reduceEqDiff, and_self, and_false, Bool.false_eq_true, m_side hF hK hc hd ha, m_side hF hK hc hd hb, m_partOf hF hK ha hb hc, m_long2 hF hK ha hb, el, ep, isL, jk, iI_f, i32_0, i32_1, b2i_0, b2i_n, iI_add, iI_sub, iI_mul, iI_neg, iI_lt, iI_le, iI_eq, iI_in, iI_cl, i_nn, eq_self, true_or, or_true, not_true_eq_false, not_false_eq_true, Int.reduceEq, Int.reduceLT, Int.reduceLE, Int.reduceNeg]
  refine ite_c (fun c1 => ?_) (fun c1 => ?_)
  · unfold layL at hq
    rw [if_neg c1] at hq
    have g1 := sgn_bd (sd x y a b c)
    have g2 := sgn_bd (sd x y a b d)
    have t1 := m_sign (h := h) (z := sd x y a b c) (by unfold I32; omega)
    have t2 := m_sign (h := h) (z := sd x y a b d) (by unfold I32; omega)
    have pb := mul_bd (M := 1) (N := 1) g1.1 g1.2 g2.1 g2.2 (by omega) (by omega)
    simp (disch := omega) only [B154_68, b154_68, B154_140, b154_140, g_iconst, g_lconst, g_iadd, g_isub, g_imul, g_iand, g_ior, g_ishl, g_ishr, g_iushr, g_ladd, g_lsub, g_lmul, g_land, g_lor, g_lcmp, g_ineg, g_lshl, g_lshr, g_i2l, g_l2i, g_dupi, g_dupr, g_pop, g_dup2, g_mabs_0, g_mabs_1, g_mabs_2, g_mabs_3, g_mmax_0, g_mmax_1, g_mmax_2, g_mmax_3, g_mmin_0, g_mmin_1, g_mmin_2, g_mmin_3, g_goto, g_jsr, g_icmp_eq, g_icmp_ne, g_icmp_lt, g_icmp_ge, g_icmp_gt, g_icmp_le, g_if_eq, g_if_ne, g_if_lt, g_if_ge, g_if_gt, g_if_le, g_idiv, g_irem, g_ldiv, g_iload, g_lload, g_aload, g_istore, g_astore, g_lstore, g_iinc, g_getfield, g_putfield, g_iaload, g_baload, g_laload, g_aaload, g_iastore, g_bastore, g_lastore, g_arraylength, g_call0_0, g_call0_1, g_call0_2, g_call0_3, g_call0_4, g_call1_0, g_call1_1, g_call1_2, g_call1_3, g_call1_4, g_call2_0, g_call2_1, g_call2_2, g_call2_3, g_call2_4, g_call3_0, g_call3_1, g_call3_2, g_call3_3, g_call3_4, g_call4_0, g_call4_1, g_call4_2, g_call4_3, g_call4_4, g_call5_0, g_call5_1, g_call5_2, g_call5_3, g_call5_4, g_call6_0, g_call6_1, g_call6_2, g_call6_3, g_call6_4, g_ireturn, g_lreturn, g_return, g_zreturn, sto_0, sto_s, sto2_0, sto2_s, isL_i, isL_r, isL_l, isL_j, ldI_0, ldI_9, ldZ_2, ldL_1, ldQ_3, stI_0, stL_1, stZ_2, gF_o, pF_o, lenA_9, oB_some, vI_i, vJ_j, vR_r, Option.map_some, List.getElem?_cons_zero, List.getElem?_cons_succ, Nat.reduceDiv, Nat.reduceMod, Int.reduceToNat, true_and, and_true, false_and, reduceIte, List.set_cons_zero, List.set_cons_succ, Option.toList_some, Option.toList_none, List.cons_append, List.nil_append, List.length_cons, List.length_nil, Nat.reduceAdd, Nat.reduceLeDiff, Nat.reduceLT, Nat.reduceEqDiff, and_self, and_false, Bool.false_eq_true, m_side hF hK ha hb hc, m_side hF hK ha hb hd, t1, t2, isL, jk, iI_f, i32_0, i32_1, b2i_0, b2i_n, iI_add, iI_sub, iI_mul, iI_neg, iI_lt, iI_le, iI_eq, iI_in, iI_cl, i_nn, eq_self, true_or, or_true, not_true_eq_false, not_false_eq_true, Int.reduceEq, Int.reduceLT, Int.reduceLE, Int.reduceNeg]
    refine ite_c (fun c2 => ?_) (fun c2 => ?_)
    · rw [if_neg (by omega)] at hq
      exact hq h o rfl eo hO hA Fr.rf
    · rw [if_pos (by omega)] at hq
      refine ite_c (fun c3 => ?_) (fun c3 => ?_)
      · rw [if_neg (by omega), if_neg (by omega)] at hq
        simp (disch := omega) only [B154_115, b154_115, B154_117, b154_117, B154_132, b154_132, B154_137, b154_137, g_iconst, g_lconst, g_iadd, g_isub, g_imul, g_iand, g_ior, g_ishl, g_ishr, g_iushr, g_ladd, g_lsub, g_lmul, g_land, g_lor, g_lcmp, g_ineg, g_lshl, g_lshr, g_i2l, g_l2i, g_dupi, g_dupr, g_pop, g_dup2, g_mabs_0, g_mabs_1, g_mabs_2, g_mabs_3, g_mmax_0, g_mmax_1, g_mmax_2, g_mmax_3, g_mmin_0, g_mmin_1, g_mmin_2, g_mmin_3, g_goto, g_jsr, g_icmp_eq, g_icmp_ne, g_icmp_lt, g_icmp_ge, g_icmp_gt, g_icmp_le, g_if_eq, g_if_ne, g_if_lt, g_if_ge, g_if_gt, g_if_le, g_idiv, g_irem, g_ldiv, g_iload, g_lload, g_aload, g_istore, g_astore, g_lstore, g_iinc, g_getfield, g_putfield, g_iaload, g_baload, g_laload, g_aaload, g_iastore, g_bastore, g_lastore, g_arraylength, g_call0_0, g_call0_1, g_call0_2, g_call0_3, g_call0_4, g_call1_0, g_call1_1, g_call1_2, g_call1_3, g_call1_4, g_call2_0, g_call2_1, g_call2_2, g_call2_3, g_call2_4, g_call3_0, g_call3_1, g_call3_2, g_call3_3, g_call3_4, g_call4_0, g_call4_1, g_call4_2, g_call4_3, g_call4_4, g_call5_0, g_call5_1, g_call5_2, g_call5_3, g_call5_4, g_call6_0, g_call6_1, g_call6_2, g_call6_3, g_call6_4, g_ireturn, g_lreturn, g_return, g_zreturn, sto_0, sto_s, sto2_0, sto2_s, isL_i, isL_r, isL_l, isL_j, ldI_0, ldI_9, ldZ_2, ldL_1, ldQ_3, stI_0, stL_1, stZ_2, gF_o, pF_o, lenA_9, oB_some, vI_i, vJ_j, vR_r, Option.map_some, List.getElem?_cons_zero, List.getElem?_cons_succ, Nat.reduceDiv, Nat.reduceMod, Int.reduceToNat, true_and, and_true, false_and, reduceIte, List.set_cons_zero, List.set_cons_succ, Option.toList_some, Option.toList_none, List.cons_append, List.nil_append, List.length_cons, List.length_nil, Nat.reduceAdd, Nat.reduceLeDiff, Nat.reduceLT, Nat.reduceEqDiff, and_self, and_false, Bool.false_eq_true, iI_f, i32_0, i32_1, b2i_0, b2i_n, iI_add, iI_sub, iI_mul, iI_neg, iI_lt, iI_le, iI_eq, iI_in, iI_cl, i_nn, eq_self, true_or, or_true, not_true_eq_false, not_false_eq_true, Int.reduceEq, Int.reduceLT, Int.reduceLE, Int.reduceNeg]
        refine ite_t (by omega) ?_
        refine m_addMeet (by omega) (by omega) hR (by omega) hO eo hA (fun h' o' e1 e2 e3 e4 e5 => ?_)
        simp only [B154_140, b154_140, g_iconst, g_lconst, g_iadd, g_isub, g_imul, g_iand, g_ior, g_ishl, g_ishr, g_iushr, g_ladd, g_lsub, g_lmul, g_land, g_lor, g_lcmp, g_ineg, g_lshl, g_lshr, g_i2l, g_l2i, g_dupi, g_dupr, g_pop, g_dup2, g_mabs_0, g_mabs_1, g_mabs_2, g_mabs_3, g_mmax_0, g_mmax_1, g_mmax_2, g_mmax_3, g_mmin_0, g_mmin_1, g_mmin_2, g_mmin_3, g_goto, g_jsr, g_icmp_eq, g_icmp_ne, g_icmp_lt, g_icmp_ge, g_icmp_gt, g_icmp_le, g_if_eq, g_if_ne, g_if_lt, g_if_ge, g_if_gt, g_if_le, g_idiv, g_irem, g_ldiv, g_iload, g_lload, g_aload, g_istore, g_astore, g_lstore, g_iinc, g_getfield, g_putfield, g_iaload, g_baload, g_laload, g_aaload, g_iastore, g_bastore, g_lastore, g_arraylength, g_call0_0, g_call0_1, g_call0_2, g_call0_3, g_call0_4, g_call1_0, g_call1_1, g_call1_2, g_call1_3, g_call1_4, g_call2_0, g_call2_1, g_call2_2, g_call2_3, g_call2_4, g_call3_0, g_call3_1, g_call3_2, g_call3_3, g_call3_4, g_call4_0, g_call4_1, g_call4_2, g_call4_3, g_call4_4, g_call5_0, g_call5_1, g_call5_2, g_call5_3, g_call5_4, g_call6_0, g_call6_1, g_call6_2, g_call6_3, g_call6_4, g_ireturn, g_lreturn, g_return, g_zreturn, sto_0, sto_s, sto2_0, sto2_s, isL_i, isL_r, isL_l, isL_j, ldI_0, ldI_9, ldZ_2, ldL_1, ldQ_3, stI_0, stL_1, stZ_2, gF_o, pF_o, lenA_9, oB_some, vI_i, vJ_j, vR_r, Option.map_some, List.getElem?_cons_zero, List.getElem?_cons_succ, Nat.reduceDiv, Nat.reduceMod, Int.reduceToNat, true_and, and_true, false_and, reduceIte, List.set_cons_zero, List.set_cons_succ, Option.toList_some, Option.toList_none, List.cons_append, List.nil_append, List.length_cons, List.length_nil, Nat.reduceAdd, Nat.reduceLeDiff, Nat.reduceLT, Nat.reduceEqDiff, and_self, and_false, Bool.false_eq_true]
        exact hq h' o' e1 e2 e3 e4 e5
      · rw [if_pos (by omega), if_pos (by omega)] at hq
        simp (disch := omega) only [B154_115, b154_115, B154_117, b154_117, B154_132, b154_132, B154_137, b154_137, g_iconst, g_lconst, g_iadd, g_isub, g_imul, g_iand, g_ior, g_ishl, g_ishr, g_iushr, g_ladd, g_lsub, g_lmul, g_land, g_lor, g_lcmp, g_ineg, g_lshl, g_lshr, g_i2l, g_l2i, g_dupi, g_dupr, g_pop, g_dup2, g_mabs_0, g_mabs_1, g_mabs_2, g_mabs_3, g_mmax_0, g_mmax_1, g_mmax_2, g_mmax_3, g_mmin_0, g_mmin_1, g_mmin_2, g_mmin_3, g_goto, g_jsr, g_icmp_eq, g_icmp_ne, g_icmp_lt, g_icmp_ge, g_icmp_gt, g_icmp_le, g_if_eq, g_if_ne, g_if_lt, g_if_ge, g_if_gt, g_if_le, g_idiv, g_irem, g_ldiv, g_iload, g_lload, g_aload, g_istore, g_astore, g_lstore, g_iinc, g_getfield, g_putfield, g_iaload, g_baload, g_laload, g_aaload, g_iastore, g_bastore, g_lastore, g_arraylength, g_call0_0, g_call0_1, g_call0_2, g_call0_3, g_call0_4, g_call1_0, g_call1_1, g_call1_2, g_call1_3, g_call1_4, g_call2_0, g_call2_1, g_call2_2, g_call2_3, g_call2_4, g_call3_0, g_call3_1, g_call3_2, g_call3_3, g_call3_4, g_call4_0, g_call4_1, g_call4_2, g_call4_3, g_call4_4, g_call5_0, g_call5_1, g_call5_2, g_call5_3, g_call5_4, g_call6_0, g_call6_1, g_call6_2, g_call6_3, g_call6_4, g_ireturn, g_lreturn, g_return, g_zreturn, sto_0, sto_s, sto2_0, sto2_s, isL_i, isL_r, isL_l, isL_j, ldI_0, ldI_9, ldZ_2, ldL_1, ldQ_3, stI_0, stL_1, stZ_2, gF_o, pF_o, lenA_9, oB_some, vI_i, vJ_j, vR_r, Option.map_some, List.getElem?_cons_zero, List.getElem?_cons_succ, Nat.reduceDiv, Nat.reduceMod, Int.reduceToNat, true_and, and_true, false_and, reduceIte, List.set_cons_zero, List.set_cons_succ, Option.toList_some, Option.toList_none, List.cons_append, List.nil_append, List.length_cons, List.length_nil, Nat.reduceAdd, Nat.reduceLeDiff, Nat.reduceLT, Nat.reduceEqDiff, and_self, and_false, Bool.false_eq_true, iI_f, i32_0, i32_1, b2i_0, b2i_n, iI_add, iI_sub, iI_mul, iI_neg, iI_lt, iI_le, iI_eq, iI_in, iI_cl, i_nn, eq_self, true_or, or_true, not_true_eq_false, not_false_eq_true, Int.reduceEq, Int.reduceLT, Int.reduceLE, Int.reduceNeg]
        refine ite_f (by omega) ?_
        refine m_addMeet (by omega) (by omega) hR (by omega) hO eo hA (fun h' o' e1 e2 e3 e4 e5 => ?_)
        simp only [B154_140, b154_140, g_iconst, g_lconst, g_iadd, g_isub, g_imul, g_iand, g_ior, g_ishl, g_ishr, g_iushr, g_ladd, g_lsub, g_lmul, g_land, g_lor, g_lcmp, g_ineg, g_lshl, g_lshr, g_i2l, g_l2i, g_dupi, g_dupr, g_pop, g_dup2, g_mabs_0, g_mabs_1, g_mabs_2, g_mabs_3, g_mmax_0, g_mmax_1, g_mmax_2, g_mmax_3, g_mmin_0, g_mmin_1, g_mmin_2, g_mmin_3, g_goto, g_jsr, g_icmp_eq, g_icmp_ne, g_icmp_lt, g_icmp_ge, g_icmp_gt, g_icmp_le, g_if_eq, g_if_ne, g_if_lt, g_if_ge, g_if_gt, g_if_le, g_idiv, g_irem, g_ldiv, g_iload, g_lload, g_aload, g_istore, g_astore, g_lstore, g_iinc, g_getfield, g_putfield, g_iaload, g_baload, g_laload, g_aaload, g_iastore, g_bastore, g_lastore, g_arraylength, g_call0_0, g_call0_1, g_call0_2, g_call0_3, g_call0_4, g_call1_0, g_call1_1, g_call1_2, g_call1_3, g_call1_4, g_call2_0, g_call2_1, g_call2_2, g_call2_3, g_call2_4, g_call3_0, g_call3_1, g_call3_2, g_call3_3, g_call3_4, g_call4_0, g_call4_1, g_call4_2, g_call4_3, g_call4_4, g_call5_0, g_call5_1, g_call5_2, g_call5_3, g_call5_4, g_call6_0, g_call6_1, g_call6_2, g_call6_3, g_call6_4, g_ireturn, g_lreturn, g_return, g_zreturn, sto_0, sto_s, sto2_0, sto2_s, isL_i, isL_r, isL_l, isL_j, ldI_0, ldI_9, ldZ_2, ldL_1, ldQ_3, stI_0, stL_1, stZ_2, gF_o, pF_o, lenA_9, oB_some, vI_i, vJ_j, vR_r, Option.map_some, List.getElem?_cons_zero, List.getElem?_cons_succ, Nat.reduceDiv, Nat.reduceMod, Int.reduceToNat, true_and, and_true, false_and, reduceIte, List.set_cons_zero, List.set_cons_succ, Option.toList_some, Option.toList_none, List.cons_append, List.nil_append, List.length_cons, List.length_nil, Nat.reduceAdd, Nat.reduceLeDiff, Nat.reduceLT, Nat.reduceEqDiff, and_self, and_false, Bool.false_eq_true]
        exact hq h' o' e1 e2 e3 e4 e5
  · have c1' := Classical.byContradiction c1
    unfold layL at hq
    rw [if_pos c1'] at hq
    refine ite_c (fun c2 => ?_) (fun c2 => ?_)
    · rw [if_neg c2] at hq
      exact hq h o rfl eo hO hA Fr.rf
    · rw [if_pos (Classical.byContradiction c2)] at hq
      refine m_addMeet (by omega) (by omega) hR (by omega) hO eo hA (fun h1 o1 e1 e2 e3 e4 e5 => ?_)
      have hF1 : Fld h1 o1 x y m := ⟨e3, r1.of e5 (by simp [meS]), r2.of e5 (by simp [meS]), r3.of e5 (by simp [meS])⟩
      have ll := adL_l (prt x y a b c) (lng x y a b) R
      simp (disch := omega) only [B154_67, b154_67, g_iconst, g_lconst, g_iadd, g_isub, g_imul, g_iand, g_ior, g_ishl, g_ishr, g_iushr, g_ladd, g_lsub, g_lmul, g_land, g_lor, g_lcmp, g_ineg, g_lshl, g_lshr, g_i2l, g_l2i, g_dupi, g_dupr, g_pop, g_dup2, g_mabs_0, g_mabs_1, g_mabs_2, g_mabs_3, g_mmax_0, g_mmax_1, g_mmax_2, g_mmax_3, g_mmin_0, g_mmin_1, g_mmin_2, g_mmin_3, g_goto, g_jsr, g_icmp_eq, g_icmp_ne, g_icmp_lt, g_icmp_ge, g_icmp_gt, g_icmp_le, g_if_eq, g_if_ne, g_if_lt, g_if_ge, g_if_gt, g_if_le, g_idiv, g_irem, g_ldiv, g_iload, g_lload, g_aload, g_istore, g_astore, g_lstore, g_iinc, g_getfield, g_putfield, g_iaload, g_baload, g_laload, g_aaload, g_iastore, g_bastore, g_lastore, g_arraylength, g_call0_0, g_call0_1, g_call0_2, g_call0_3, g_call0_4, g_call1_0, g_call1_1, g_call1_2, g_call1_3, g_call1_4, g_call2_0, g_call2_1, g_call2_2, g_call2_3, g_call2_4, g_call3_0, g_call3_1, g_call3_2, g_call3_3, g_call3_4, g_call4_0, g_call4_1, g_call4_2, g_call4_3, g_call4_4, g_call5_0, g_call5_1, g_call5_2, g_call5_3, g_call5_4, g_call6_0, g_call6_1, g_call6_2, g_call6_3, g_call6_4, g_ireturn, g_lreturn, g_return, g_zreturn, sto_0, sto_s, sto2_0, sto2_s, isL_i, isL_r, isL_l, isL_j, ldI_0, ldI_9, ldZ_2, ldL_1, ldQ_3, stI_0, stL_1, stZ_2, gF_o, pF_o, lenA_9, oB_some, vI_i, vJ_j, vR_r, Option.map_some, List.getElem?_cons_zero, List.getElem?_cons_succ, Nat.reduceDiv, Nat.reduceMod, Int.reduceToNat, true_and, and_true, false_and, reduceIte, List.set_cons_zero, List.set_cons_succ, Option.toList_some, Option.toList_none, List.cons_append, List.nil_append, List.length_cons, List.length_nil, Nat.reduceAdd, Nat.reduceLeDiff, Nat.reduceLT, Nat.reduceEqDiff, and_self, and_false, Bool.false_eq_true, m_partOf hF1 hK ha hb hd, m_long2 hF1 hK ha hb, el, ep2, isL, jk, iI_f, i32_0, i32_1, b2i_0, b2i_n, iI_add, iI_sub, iI_mul, iI_neg, iI_lt, iI_le, iI_eq, iI_in, iI_cl, i_nn, eq_self, true_or, or_true, not_true_eq_false, not_false_eq_true, Int.reduceEq, Int.reduceLT, Int.reduceLE, Int.reduceNeg]
      refine m_addMeet (by omega) (by omega) (adL_b hab (by omega) hR) (by omega) e3 e2 e4 (fun h2 o2 f1 f2 f3 f4 f5 => ?_)
      simp only [B154_67, b154_67, g_iconst, g_lconst, g_iadd, g_isub, g_imul, g_iand, g_ior, g_ishl, g_ishr, g_iushr, g_ladd, g_lsub, g_lmul, g_land, g_lor, g_lcmp, g_ineg, g_lshl, g_lshr, g_i2l, g_l2i, g_dupi, g_dupr, g_pop, g_dup2, g_mabs_0, g_mabs_1, g_mabs_2, g_mabs_3, g_mmax_0, g_mmax_1, g_mmax_2, g_mmax_3, g_mmin_0, g_mmin_1, g_mmin_2, g_mmin_3, g_goto, g_jsr, g_icmp_eq, g_icmp_ne, g_icmp_lt, g_icmp_ge, g_icmp_gt, g_icmp_le, g_if_eq, g_if_ne, g_if_lt, g_if_ge, g_if_gt, g_if_le, g_idiv, g_irem, g_ldiv, g_iload, g_lload, g_aload, g_istore, g_astore, g_lstore, g_iinc, g_getfield, g_putfield, g_iaload, g_baload, g_laload, g_aaload, g_iastore, g_bastore, g_lastore, g_arraylength, g_call0_0, g_call0_1, g_call0_2, g_call0_3, g_call0_4, g_call1_0, g_call1_1, g_call1_2, g_call1_3, g_call1_4, g_call2_0, g_call2_1, g_call2_2, g_call2_3, g_call2_4, g_call3_0, g_call3_1, g_call3_2, g_call3_3, g_call3_4, g_call4_0, g_call4_1, g_call4_2, g_call4_3, g_call4_4, g_call5_0, g_call5_1, g_call5_2, g_call5_3, g_call5_4, g_call6_0, g_call6_1, g_call6_2, g_call6_3, g_call6_4, g_ireturn, g_lreturn, g_return, g_zreturn, sto_0, sto_s, sto2_0, sto2_s, isL_i, isL_r, isL_l, isL_j, ldI_0, ldI_9, ldZ_2, ldL_1, ldQ_3, stI_0, stL_1, stZ_2, gF_o, pF_o, lenA_9, oB_some, vI_i, vJ_j, vR_r, Option.map_some, List.getElem?_cons_zero, List.getElem?_cons_succ, Nat.reduceDiv, Nat.reduceMod, Int.reduceToNat, true_and, and_true, false_and, reduceIte, List.set_cons_zero, List.set_cons_succ, Option.toList_some, Option.toList_none, List.cons_append, List.nil_append, List.length_cons, List.length_nil, Nat.reduceAdd, Nat.reduceLeDiff, Nat.reduceLT, Nat.reduceEqDiff, and_self, and_false, Bool.false_eq_true]
      exact hq h2 o2 (f1.trans e1) f2 f3 f4 (e5.tr f5 (fun _ q => q) (fun _ q => q))
