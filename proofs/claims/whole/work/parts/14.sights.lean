/-! Sights: who sees whom, as bits. -/
def Sgt (h : fH) (s n : Nat) (N S : Nat → Int) : Prop := f_get h s = .inr (3, [.ref (s + 1), .ref (s + 2), .int (iI n)]) ∧ f_get h (s + 1) = .inl (0, 10, .inl (fun j => iI (N j))) ∧ f_get h (s + 2) = .inl (0, 10, .inl (fun j => iI (S j)))
theorem Sgt.N {h : fH} {s n : Nat} {N S : Nat → Int} (hG : Sgt h s n N S) (N' : Nat → Int) : Sgt (f_st h (s + 1) (.inl (0, 10, .inl (fun j => iI (N' j))))) s n N' S := ⟨by rw [fg_st_n (by omega)]; exact hG.1, by rw [fg_st_s], by rw [fg_st_n (by omega)]; exact hG.2.2⟩
theorem Sgt.S {h : fH} {s n : Nat} {N S : Nat → Int} (hG : Sgt h s n N S) (S' : Nat → Int) : Sgt (f_st h (s + 2) (.inl (0, 10, .inl (fun j => iI (S' j))))) s n N S' := ⟨by rw [fg_st_n (by omega)]; exact hG.1, by rw [fg_st_n (by omega)]; exact hG.2.1, by rw [fg_st_s]⟩
theorem Sgt.of {h h' : fH} {s n : Nat} {N S : Nat → Int} (hG : Sgt h s n N S) {T : Nat → Prop} (hF : Fr h h' T) (hS : ∀ k, oS s k → ¬ T k) : Sgt h' s n N S := ⟨by rw [hF.2.2 s (hS _ ⟨by omega, by omega⟩)]; exact hG.1, by rw [hF.2.2 _ (hS _ ⟨by omega, by omega⟩)]; exact hG.2.1, by rw [hF.2.2 _ (hS _ ⟨by omega, by omega⟩)]; exact hG.2.2⟩
theorem fk98 : fk 98 = 0 := rfl
def svC (X Y : Nat → Int) (n a b : Nat) : Bool := stripC X Y n a b || seenC X Y n a b
/-- pairs that come before (a, b) -/
def dn (a b i j : Nat) : Bool := decide (i < a ∨ (i = a ∧ j < b))
def sBx (X Y : Nat → Int) (n a b i j : Nat) : Bool := decide (i < j ∧ j < n) && dn a b i j && stripC X Y n i j
def vBx (X Y : Nat → Int) (n a b i j : Nat) : Bool := decide (i ≠ j ∧ i < n ∧ j < n) && dn a b (min i j) (max i j) && svC X Y n (min i j) (max i j)
def sI (X Y : Nat → Int) (n a b : Nat) (N S : Nat → Int) : Prop := ∀ i, i < n → S i = (bits (sBx X Y n a b i) : Int) ∧ N i = (bits (vBx X Y n a b i) : Int)
set_option maxRecDepth 10000 in
theorem l_look0 {h0 : fH} {o s n : Nat} (hn : n ≤ 10) {Q : Option Value → fH → Prop} : ∀ (d i : Nat) (h : fH) (N S : Nat → Int), i + d = n → Sgt h s n N S → (∀ j, j < i → N j = 0 ∧ S j = 0) → Fr h0 h (oS s) →
    (∀ h' N' S', Sgt h' s n N' S' → (∀ j, j < n → N' j = 0 ∧ S' j = 0) → Fr h0 h' (oS s) → Go 53 (blk 53 38) [.ref s, .ref o, .int (iI n), jk, jk] [] h' Q) →
    Go 53 (blk 53 10) [.ref s, .ref o, .int (iI i), jk, jk] [] h Q := by
  intro d
  induction d with
  | zero =>
    intro i h N S hi hG hz hF k
    obtain ⟨h1, h2, h3⟩ := id hG
    obtain rfl : i = n := by omega
    rw [B53_10, b53_10]
    simp (disch := omega) only [g_iconst, g_lconst, g_iadd, g_isub, g_imul, g_iand, g_ior, g_ishl, g_ishr, g_iushr, g_ladd, g_lsub, g_lmul, g_land, g_lor, g_lcmp, g_ineg, g_lshl, g_lshr, g_i2l, g_l2i, g_dupi, g_dupr, g_pop, g_dup2, g_mabs_0, g_mabs_1, g_mabs_2, g_mabs_3, g_mmax_0, g_mmax_1, g_mmax_2, g_mmax_3, g_mmin_0, g_mmin_1, g_mmin_2, g_mmin_3, g_goto, g_jsr, g_icmp_eq, g_icmp_ne, g_icmp_lt, g_icmp_ge, g_icmp_gt, g_icmp_le, g_if_eq, g_if_ne, g_if_lt, g_if_ge, g_if_gt, g_if_le, g_idiv, g_irem, g_ldiv, g_iload, g_lload, g_aload, g_istore, g_astore, g_lstore, g_iinc, g_getfield, g_putfield, g_iaload, g_baload, g_laload, g_aaload, g_iastore, g_bastore, g_lastore, g_arraylength, g_call0_0, g_call0_1, g_call0_2, g_call0_3, g_call0_4, g_call1_0, g_call1_1, g_call1_2, g_call1_3, g_call1_4, g_call2_0, g_call2_1, g_call2_2, g_call2_3, g_call2_4, g_call3_0, g_call3_1, g_call3_2, g_call3_3, g_call3_4, g_call4_0, g_call4_1, g_call4_2, g_call4_3, g_call4_4, g_call5_0, g_call5_1, g_call5_2, g_call5_3, g_call5_4, g_call6_0, g_call6_1, g_call6_2, g_call6_3, g_call6_4, g_ireturn, g_lreturn, g_return, g_zreturn, sto_0, sto_s, sto2_0, sto2_s, isL_i, isL_r, isL_l, isL_j, ldI_0, ldI_9, ldZ_2, ldL_1, ldQ_3, stI_0, stL_1, stZ_2, gF_o, pF_o, lenA_9, oB_some, vI_i, vJ_j, vR_r, Option.map_some, List.getElem?_cons_zero, List.getElem?_cons_succ, Nat.reduceDiv, Nat.reduceMod, Int.reduceToNat, true_and, and_true, false_and, reduceIte, List.set_cons_zero, List.set_cons_succ, Option.toList_some, Option.toList_none, List.cons_append, List.nil_append, List.length_cons, List.length_nil, Nat.reduceAdd, Nat.reduceLeDiff, Nat.reduceLT, Nat.reduceEqDiff, and_self, and_false, Bool.false_eq_true, h1, h2, h3, iI_f, i32_0, i32_1, b2i_0, b2i_n, iI_add, iI_sub, iI_mul, iI_neg, iI_lt, iI_le, iI_eq, iI_in, iI_cl, i_nn, eq_self, true_or, or_true, not_true_eq_false, not_false_eq_true, Int.reduceEq, Int.reduceLT, Int.reduceLE, Int.reduceNeg]
    exact ite_t (by omega) (k h N S hG hz hF)
  | succ d ih =>
    intro i h N S hi hG hz hF k
    obtain ⟨h1, h2, h3⟩ := id hG
    rw [B53_10, b53_10]
    simp (disch := omega) only [g_iconst, g_lconst, g_iadd, g_isub, g_imul, g_iand, g_ior, g_ishl, g_ishr, g_iushr, g_ladd, g_lsub, g_lmul, g_land, g_lor, g_lcmp, g_ineg, g_lshl, g_lshr, g_i2l, g_l2i, g_dupi, g_dupr, g_pop, g_dup2, g_mabs_0, g_mabs_1, g_mabs_2, g_mabs_3, g_mmax_0, g_mmax_1, g_mmax_2, g_mmax_3, g_mmin_0, g_mmin_1, g_mmin_2, g_mmin_3, g_goto, g_jsr, g_icmp_eq, g_icmp_ne, g_icmp_lt, g_icmp_ge, g_icmp_gt, g_icmp_le, g_if_eq, g_if_ne, g_if_lt, g_if_ge, g_if_gt, g_if_le, g_idiv, g_irem, g_ldiv, g_iload, g_lload, g_aload, g_istore, g_astore, g_lstore, g_iinc, g_getfield, g_putfield, g_iaload, g_baload, g_laload, g_aaload, g_iastore, g_bastore, g_lastore, g_arraylength, g_call0_0, g_call0_1, g_call0_2, g_call0_3, g_call0_4, g_call1_0, g_call1_1, g_call1_2, g_call1_3, g_call1_4, g_call2_0, g_call2_1, g_call2_2, g_call2_3, g_call2_4, g_call3_0, g_call3_1, g_call3_2, g_call3_3, g_call3_4, g_call4_0, g_call4_1, g_call4_2, g_call4_3, g_call4_4, g_call5_0, g_call5_1, g_call5_2, g_call5_3, g_call5_4, g_call6_0, g_call6_1, g_call6_2, g_call6_3, g_call6_4, g_ireturn, g_lreturn, g_return, g_zreturn, sto_0, sto_s, sto2_0, sto2_s, isL_i, isL_r, isL_l, isL_j, ldI_0, ldI_9, ldZ_2, ldL_1, ldQ_3, stI_0, stL_1, stZ_2, gF_o, pF_o, lenA_9, oB_some, vI_i, vJ_j, vR_r, Option.map_some, List.getElem?_cons_zero, List.getElem?_cons_succ, Nat.reduceDiv, Nat.reduceMod, Int.reduceToNat, true_and, and_true, false_and, reduceIte, List.set_cons_zero, List.set_cons_succ, Option.toList_some, Option.toList_none, List.cons_append, List.nil_append, List.length_cons, List.length_nil, Nat.reduceAdd, Nat.reduceLeDiff, Nat.reduceLT, Nat.reduceEqDiff, and_self, and_false, Bool.false_eq_true, h1, h2, h3, upd_i, fg_st_s, fg_st_n, iI_f, i32_0, i32_1, b2i_0, b2i_n, iI_add, iI_sub, iI_mul, iI_neg, iI_lt, iI_le, iI_eq, iI_in, iI_cl, i_nn, eq_self, true_or, or_true, not_true_eq_false, not_false_eq_true, Int.reduceEq, Int.reduceLT, Int.reduceLE, Int.reduceNeg]
    refine ite_f (by omega) ?_
    have w := ih (i + 1) _ (updZ N i 0) (updZ S i 0) (by omega) ((hG.N (updZ N i 0)).S (updZ S i 0)) (fun j hj => by
      by_cases hji : j = i
      · subst hji; rw [updZ_s, updZ_s]; exact ⟨rfl, rfl⟩
      · rw [updZ_n hji, updZ_n hji]; exact hz j (by omega)) ((hF.st (a := s + 1) ⟨by omega, by omega⟩).st (a := s + 2) ⟨by omega, by omega⟩) k
    push_cast at w
    exact w
theorem dn_s {a b i j : Nat} : dn a (b + 1) i j = (dn a b i j || (decide (i = a) && decide (j = b))) := by
  simp only [dn]
  by_cases h1 : i < a
  · simp [h1]
  · by_cases h2 : i = a
    · subst h2
      by_cases h3 : j < b
      · simp [h3, show j < b + 1 by omega]
      · by_cases h4 : j = b
        · subst h4; simp
        · simp [h3, h4, show ¬ j < b + 1 by omega]
    · simp [h1, h2]
/-- one pair more -/
theorem sI_step {X Y : Nat → Int} {n a b : Nat} {N S N' S' : Nat → Int} (hn : n ≤ 10) (hab : a < b) (hb : b < n) (hI : sI X Y n a b N S)
    (hS : ∀ i, i < n → S' i = if i = a ∧ stripC X Y n a b = true then ((bits (sBx X Y n a b i) ||| 2 ^ b : Nat) : Int) else S i)
    (hN : ∀ i, i < n → N' i = if i = a ∧ svC X Y n a b = true then ((bits (vBx X Y n a b i) ||| 2 ^ b : Nat) : Int) else if i = b ∧ svC X Y n a b = true then ((bits (vBx X Y n a b i) ||| 2 ^ a : Nat) : Int) else N i) : sI X Y n a (b + 1) N' S' := by
  intro i hi
  obtain ⟨g1, g2⟩ := hI i hi
  constructor
  · rw [hS i hi]
    by_cases hc : i = a ∧ stripC X Y n a b = true
    · rw [if_pos hc, bits_or _ (by omega)]
      congr 1
      apply bits_congr
      intro j hj
      obtain ⟨rfl, hst⟩ := hc
      simp only [sBx, dn_s]
      by_cases hjb : j = b
      · subst hjb; simp [hab, hb, hst]
      · simp [hjb]
    · rw [if_neg hc, g1]
      congr 1
      apply bits_congr
      intro j hj
      simp only [sBx, dn_s]
      by_cases h1 : i = a
      · subst h1
        by_cases hjb : j = b
        · subst hjb
          have hst : stripC X Y n i j = false := by
            cases hq : stripC X Y n i j
            · rfl
            · exact absurd ⟨rfl, hq⟩ hc
          simp [hst]
        · simp [hjb]
      · simp [h1]
  · rw [hN i hi]
    by_cases hv : svC X Y n a b = true
    · by_cases h1 : i = a
      · rw [if_pos ⟨h1, hv⟩, bits_or _ (by omega)]
        congr 1
        apply bits_congr
        intro j hj
        subst h1
        simp only [vBx, dn_s]
        by_cases hjb : j = b
        · subst hjb
          simp [show min i j = i by omega, show max i j = j by omega, hv, hi, hb, show i ≠ j by omega]
        · by_cases h2 : min i j = i ∧ max i j = b
          · exfalso; omega
          · have : (decide (min i j = i) && decide (max i j = b)) = false := by
              by_cases q : min i j = i
              · simp [q]; exact fun z => h2 ⟨q, z⟩
              · simp [q]
            simp [this, hjb]
      · by_cases h2 : i = b
        · rw [if_neg (fun q => h1 q.1), if_pos ⟨h2, hv⟩, bits_or _ (by omega)]
          congr 1
          apply bits_congr
          intro j hj
          subst h2
          simp only [vBx, dn_s]
          by_cases hja : j = a
          · subst hja
            simp [show min i j = j by omega, show max i j = i by omega, hv, hi, show j < n by omega, show i ≠ j by omega]
          · by_cases h3 : min i j = a ∧ max i j = i
            · exfalso; omega
            · have : (decide (min i j = a) && decide (max i j = i)) = false := by
                by_cases q : min i j = a
                · simp [q]; exact fun z => h3 ⟨q, z⟩
                · simp [q]
              simp [this, hja]
        · rw [if_neg (fun q => h1 q.1), if_neg (fun q => h2 q.1), g2]
          congr 1
          apply bits_congr
          intro j hj
          simp only [vBx, dn_s]
          have : (decide (min i j = a) && decide (max i j = b)) = false := by
            by_cases q : min i j = a ∧ max i j = b
            · exfalso; omega
            · by_cases q1 : min i j = a
              · simp [q1]; exact fun z => q ⟨q1, z⟩
              · simp [q1]
          simp [this]
    · rw [if_neg (fun q => hv q.2), if_neg (fun q => hv q.2), g2]
      congr 1
      apply bits_congr
      intro j hj
      simp only [vBx, dn_s]
      by_cases q : min i j = a ∧ max i j = b
      · obtain ⟨q1, q2⟩ := q
        have : svC X Y n a b = false := by cases hq : svC X Y n a b; rfl; exact absurd hq hv
        simp [q1, q2, this]
      · have : (decide (min i j = a) && decide (max i j = b)) = false := by
          by_cases q1 : min i j = a
          · simp [q1]; exact fun z => q ⟨q1, z⟩
          · simp [q1]
        simp [this]
set_option maxRecDepth 10000 in
theorem l_look2 {h0 : fH} {o s n a : Nat} {X Y : Nat → Int} (hn : n ≤ 10) (hR : Rg n X Y) (hos : o + 3 ≤ s ∨ s + 3 ≤ o) (ha : a < n) {Q : Option Value → fH → Prop} : ∀ (d b : Nat) (h : fH) (N S : Nat → Int) (z : Value), b + d = n → a < b → isL z = false → Out h o n X Y → Sgt h s n N S → sI X Y n a b N S → Fr h0 h (oS s) →
    (∀ h' N' S' z', isL z' = false → Out h' o n X Y → Sgt h' s n N' S' → sI X Y n a n N' S' → Fr h0 h' (oS s) → Go 53 (blk 53 129) [.ref s, .ref o, .int (iI a), .int (iI n), z'] [] h' Q) →
    Go 53 (blk 53 52) [.ref s, .ref o, .int (iI a), .int (iI b), z] [] h Q := by
  intro d
  induction d with
  | zero =>
    intro b h N S z hb hab hz hO hG hI hF k
    obtain ⟨h1, h2, h3⟩ := id hG
    obtain rfl : b = n := by omega
    rw [B53_52, b53_52]
    simp (disch := omega) only [g_iconst, g_lconst, g_iadd, g_isub, g_imul, g_iand, g_ior, g_ishl, g_ishr, g_iushr, g_ladd, g_lsub, g_lmul, g_land, g_lor, g_lcmp, g_ineg, g_lshl, g_lshr, g_i2l, g_l2i, g_dupi, g_dupr, g_pop, g_dup2, g_mabs_0, g_mabs_1, g_mabs_2, g_mabs_3, g_mmax_0, g_mmax_1, g_mmax_2, g_mmax_3, g_mmin_0, g_mmin_1, g_mmin_2, g_mmin_3, g_goto, g_jsr, g_icmp_eq, g_icmp_ne, g_icmp_lt, g_icmp_ge, g_icmp_gt, g_icmp_le, g_if_eq, g_if_ne, g_if_lt, g_if_ge, g_if_gt, g_if_le, g_idiv, g_irem, g_ldiv, g_iload, g_lload, g_aload, g_istore, g_astore, g_lstore, g_iinc, g_getfield, g_putfield, g_iaload, g_baload, g_laload, g_aaload, g_iastore, g_bastore, g_lastore, g_arraylength, g_call0_0, g_call0_1, g_call0_2, g_call0_3, g_call0_4, g_call1_0, g_call1_1, g_call1_2, g_call1_3, g_call1_4, g_call2_0, g_call2_1, g_call2_2, g_call2_3, g_call2_4, g_call3_0, g_call3_1, g_call3_2, g_call3_3, g_call3_4, g_call4_0, g_call4_1, g_call4_2, g_call4_3, g_call4_4, g_call5_0, g_call5_1, g_call5_2, g_call5_3, g_call5_4, g_call6_0, g_call6_1, g_call6_2, g_call6_3, g_call6_4, g_ireturn, g_lreturn, g_return, g_zreturn, sto_0, sto_s, sto2_0, sto2_s, isL_i, isL_r, isL_l, isL_j, ldI_0, ldI_9, ldZ_2, ldL_1, ldQ_3, stI_0, stL_1, stZ_2, gF_o, pF_o, lenA_9, oB_some, vI_i, vJ_j, vR_r, Option.map_some, List.getElem?_cons_zero, List.getElem?_cons_succ, Nat.reduceDiv, Nat.reduceMod, Int.reduceToNat, true_and, and_true, false_and, reduceIte, List.set_cons_zero, List.set_cons_succ, Option.toList_some, Option.toList_none, List.cons_append, List.nil_append, List.length_cons, List.length_nil, Nat.reduceAdd, Nat.reduceLeDiff, Nat.reduceLT, Nat.reduceEqDiff, and_self, and_false, Bool.false_eq_true, h1, h2, h3, iI_f, i32_0, i32_1, b2i_0, b2i_n, iI_add, iI_sub, iI_mul, iI_neg, iI_lt, iI_le, iI_eq, iI_in, iI_cl, i_nn, eq_self, true_or, or_true, not_true_eq_false, not_false_eq_true, Int.reduceEq, Int.reduceLT, Int.reduceLE, Int.reduceNeg]
    exact ite_t (by omega) (k h N S z hz hO hG hI hF)
  | succ d ih =>
    intro b h N S z hb hab hz hO hG hI hF k
    obtain ⟨h1, h2, h3⟩ := id hG
    have hbn : b < n := by omega
    obtain ⟨ia1, ia2⟩ := hI a ha
    obtain ⟨ib1, ib2⟩ := hI b hbn
    have fin : ∀ (h' : fH) (N' S' : Nat → Int) (z' : Value), isL z' = false → Out h' o n X Y → Sgt h' s n N' S' → sI X Y n a (b + 1) N' S' → Fr h0 h' (oS s) → Go 53 (blk 53 123) [.ref s, .ref o, .int (iI a), .int (iI b), z'] [] h' Q := by
      intro h' N' S' z' q0 q1 q2 q3 q4
      obtain ⟨e1, e2, e3⟩ := id q2
      have w := ih (b + 1) h' N' S' z' (by omega) (by omega) q0 q1 q2 q3 q4 k
      rw [B53_123, b53_123]
      simp (disch := omega) only [g_iconst, g_lconst, g_iadd, g_isub, g_imul, g_iand, g_ior, g_ishl, g_ishr, g_iushr, g_ladd, g_lsub, g_lmul, g_land, g_lor, g_lcmp, g_ineg, g_lshl, g_lshr, g_i2l, g_l2i, g_dupi, g_dupr, g_pop, g_dup2, g_mabs_0, g_mabs_1, g_mabs_2, g_mabs_3, g_mmax_0, g_mmax_1, g_mmax_2, g_mmax_3, g_mmin_0, g_mmin_1, g_mmin_2, g_mmin_3, g_goto, g_jsr, g_icmp_eq, g_icmp_ne, g_icmp_lt, g_icmp_ge, g_icmp_gt, g_icmp_le, g_if_eq, g_if_ne, g_if_lt, g_if_ge, g_if_gt, g_if_le, g_idiv, g_irem, g_ldiv, g_iload, g_lload, g_aload, g_istore, g_astore, g_lstore, g_iinc, g_getfield, g_putfield, g_iaload, g_baload, g_laload, g_aaload, g_iastore, g_bastore, g_lastore, g_arraylength, g_call0_0, g_call0_1, g_call0_2, g_call0_3, g_call0_4, g_call1_0, g_call1_1, g_call1_2, g_call1_3, g_call1_4, g_call2_0, g_call2_1, g_call2_2, g_call2_3, g_call2_4, g_call3_0, g_call3_1, g_call3_2, g_call3_3, g_call3_4, g_call4_0, g_call4_1, g_call4_2, g_call4_3, g_call4_4, g_call5_0, g_call5_1, g_call5_2, g_call5_3, g_call5_4, g_call6_0, g_call6_1, g_call6_2, g_call6_3, g_call6_4, g_ireturn, g_lreturn, g_return, g_zreturn, sto_0, sto_s, sto2_0, sto2_s, isL_i, isL_r, isL_l, isL_j, ldI_0, ldI_9, ldZ_2, ldL_1, ldQ_3, stI_0, stL_1, stZ_2, gF_o, pF_o, lenA_9, oB_some, vI_i, vJ_j, vR_r, Option.map_some, List.getElem?_cons_zero, List.getElem?_cons_succ, Nat.reduceDiv, Nat.reduceMod, Int.reduceToNat, true_and, and_true, false_and, reduceIte, List.set_cons_zero, List.set_cons_succ, Option.toList_some, Option.toList_none, List.cons_append, List.nil_append, List.length_cons, List.length_nil, Nat.reduceAdd, Nat.reduceLeDiff, Nat.reduceLT, Nat.reduceEqDiff, and_self, and_false, Bool.false_eq_true, e1, e2, e3, iI_f, i32_0, i32_1, b2i_0, b2i_n, iI_add, iI_sub, iI_mul, iI_neg, iI_lt, iI_le, iI_eq, iI_in, iI_cl, i_nn, eq_self, true_or, or_true, not_true_eq_false, not_false_eq_true, Int.reduceEq, Int.reduceLT, Int.reduceLE, Int.reduceNeg]
      push_cast at w
      exact w
    have dis : ∀ k2, oS o k2 → ¬ oS s k2 := fun k2 hk z => by have := hk.1; have := hk.2; have := z.1; have := z.2; omega
    -- the end of a pair that is seen
    have see : ∀ (h' : fH) (S' : Nat → Int) (z' : Value), isL z' = false → Out h' o n X Y → Sgt h' s n N S' → svC X Y n a b = true → (∀ i, i < n → S' i = if i = a ∧ stripC X Y n a b = true then ((bits (sBx X Y n a b i) ||| 2 ^ b : Nat) : Int) else S i) → Fr h0 h' (oS s) → Go 53 (blk 53 99) [.ref s, .ref o, .int (iI a), .int (iI b), z'] [] h' Q := by
      intro h' S' z' q0 q1 q2 q3 q4 q5
      obtain ⟨e1, e2, e3⟩ := id q2
      rw [B53_99, b53_99]
      have eN : updZ N a ((bits (vBx X Y n a b a) ||| 2 ^ b : Nat) : Int) b = (bits (vBx X Y n a b b) : Int) := by rw [updZ_n (by omega), ib2]
      simp (disch := omega) only [g_iconst, g_lconst, g_iadd, g_isub, g_imul, g_iand, g_ior, g_ishl, g_ishr, g_iushr, g_ladd, g_lsub, g_lmul, g_land, g_lor, g_lcmp, g_ineg, g_lshl, g_lshr, g_i2l, g_l2i, g_dupi, g_dupr, g_pop, g_dup2, g_mabs_0, g_mabs_1, g_mabs_2, g_mabs_3, g_mmax_0, g_mmax_1, g_mmax_2, g_mmax_3, g_mmin_0, g_mmin_1, g_mmin_2, g_mmin_3, g_goto, g_jsr, g_icmp_eq, g_icmp_ne, g_icmp_lt, g_icmp_ge, g_icmp_gt, g_icmp_le, g_if_eq, g_if_ne, g_if_lt, g_if_ge, g_if_gt, g_if_le, g_idiv, g_irem, g_ldiv, g_iload, g_lload, g_aload, g_istore, g_astore, g_lstore, g_iinc, g_getfield, g_putfield, g_iaload, g_baload, g_laload, g_aaload, g_iastore, g_bastore, g_lastore, g_arraylength, g_call0_0, g_call0_1, g_call0_2, g_call0_3, g_call0_4, g_call1_0, g_call1_1, g_call1_2, g_call1_3, g_call1_4, g_call2_0, g_call2_1, g_call2_2, g_call2_3, g_call2_4, g_call3_0, g_call3_1, g_call3_2, g_call3_3, g_call3_4, g_call4_0, g_call4_1, g_call4_2, g_call4_3, g_call4_4, g_call5_0, g_call5_1, g_call5_2, g_call5_3, g_call5_4, g_call6_0, g_call6_1, g_call6_2, g_call6_3, g_call6_4, g_ireturn, g_lreturn, g_return, g_zreturn, sto_0, sto_s, sto2_0, sto2_s, isL_i, isL_r, isL_l, isL_j, ldI_0, ldI_9, ldZ_2, ldL_1, ldQ_3, stI_0, stL_1, stZ_2, gF_o, pF_o, lenA_9, oB_some, vI_i, vJ_j, vR_r, Option.map_some, List.getElem?_cons_zero, List.getElem?_cons_succ, Nat.reduceDiv, Nat.reduceMod, Int.reduceToNat, true_and, and_true, false_and, reduceIte, List.set_cons_zero, List.set_cons_succ, Option.toList_some, Option.toList_none, List.cons_append, List.nil_append, List.length_cons, List.length_nil, Nat.reduceAdd, Nat.reduceLeDiff, Nat.reduceLT, Nat.reduceEqDiff, and_self, and_false, Bool.false_eq_true, e1, e2, e3, ia2, i_shl, i_or, upd_i, fg_st_s, fg_st_n, eN, iI_f, i32_0, i32_1, b2i_0, b2i_n, iI_add, iI_sub, iI_mul, iI_neg, iI_lt, iI_le, iI_eq, iI_in, iI_cl, i_nn, eq_self, true_or, or_true, not_true_eq_false, not_false_eq_true, Int.reduceEq, Int.reduceLT, Int.reduceLE, Int.reduceNeg]
      refine fin _ _ _ z' q0 ?_ ((q2.N (updZ N a ((bits (vBx X Y n a b a) ||| 2 ^ b : Nat) : Int))).N (updZ (updZ N a ((bits (vBx X Y n a b a) ||| 2 ^ b : Nat) : Int)) b ((bits (vBx X Y n a b b) ||| 2 ^ a : Nat) : Int))) ?_ ((q5.st (a := s + 1) ⟨by omega, by omega⟩).st (a := s + 1) ⟨by omega, by omega⟩)
      · exact q1.of ((Fr.rf.st (a := s + 1) (S := oS s) ⟨by omega, by omega⟩).st (a := s + 1) ⟨by omega, by omega⟩) dis
      · refine sI_step hn hab hbn hI q4 (fun i hi => ?_)
        by_cases h4 : i = b
        · subst h4; rw [updZ_s, if_neg (by omega), if_pos ⟨rfl, q3⟩]
        · rw [updZ_n h4]
          by_cases h5 : i = a
          · subst h5; rw [updZ_s, if_pos ⟨rfl, q3⟩]
          · rw [updZ_n h5, if_neg (fun q => h5 q.1), if_neg (fun q => h4 q.1)]
    rw [B53_52, b53_52]
    simp (disch := omega) only [g_iconst, g_lconst, g_iadd, g_isub, g_imul, g_iand, g_ior, g_ishl, g_ishr, g_iushr, g_ladd, g_lsub, g_lmul, g_land, g_lor, g_lcmp, g_ineg, g_lshl, g_lshr, g_i2l, g_l2i, g_dupi, g_dupr, g_pop, g_dup2, g_mabs_0, g_mabs_1, g_mabs_2, g_mabs_3, g_mmax_0, g_mmax_1, g_mmax_2, g_mmax_3, g_mmin_0, g_mmin_1, g_mmin_2, g_mmin_3, g_goto, g_jsr, g_icmp_eq, g_icmp_ne, g_icmp_lt, g_icmp_ge, g_icmp_gt, g_icmp_le, g_if_eq, g_if_ne, g_if_lt, g_if_ge, g_if_gt, g_if_le, g_idiv, g_irem, g_ldiv, g_iload, g_lload, g_aload, g_istore, g_astore, g_lstore, g_iinc, g_getfield, g_putfield, g_iaload, g_baload, g_laload, g_aaload, g_iastore, g_bastore, g_lastore, g_arraylength, g_call0_0, g_call0_1, g_call0_2, g_call0_3, g_call0_4, g_call1_0, g_call1_1, g_call1_2, g_call1_3, g_call1_4, g_call2_0, g_call2_1, g_call2_2, g_call2_3, g_call2_4, g_call3_0, g_call3_1, g_call3_2, g_call3_3, g_call3_4, g_call4_0, g_call4_1, g_call4_2, g_call4_3, g_call4_4, g_call5_0, g_call5_1, g_call5_2, g_call5_3, g_call5_4, g_call6_0, g_call6_1, g_call6_2, g_call6_3, g_call6_4, g_ireturn, g_lreturn, g_return, g_zreturn, sto_0, sto_s, sto2_0, sto2_s, isL_i, isL_r, isL_l, isL_j, ldI_0, ldI_9, ldZ_2, ldL_1, ldQ_3, stI_0, stL_1, stZ_2, gF_o, pF_o, lenA_9, oB_some, vI_i, vJ_j, vR_r, Option.map_some, List.getElem?_cons_zero, List.getElem?_cons_succ, Nat.reduceDiv, Nat.reduceMod, Int.reduceToNat, true_and, and_true, false_and, reduceIte, List.set_cons_zero, List.set_cons_succ, Option.toList_some, Option.toList_none, List.cons_append, List.nil_append, List.length_cons, List.length_nil, Nat.reduceAdd, Nat.reduceLeDiff, Nat.reduceLT, Nat.reduceEqDiff, and_self, and_false, Bool.false_eq_true, h1, h2, h3, hz, c_isStrip hO hn hR, iI_f, i32_0, i32_1, b2i_0, b2i_n, iI_add, iI_sub, iI_mul, iI_neg, iI_lt, iI_le, iI_eq, iI_in, iI_cl, i_nn, eq_self, true_or, or_true, not_true_eq_false, not_false_eq_true, Int.reduceEq, Int.reduceLT, Int.reduceLE, Int.reduceNeg]
    refine ite_f (by omega) (ite_c (fun c1 => ?_) (fun c1 => ?_))
    · rw [B53_85, b53_85]
      simp (disch := omega) only [g_iconst, g_lconst, g_iadd, g_isub, g_imul, g_iand, g_ior, g_ishl, g_ishr, g_iushr, g_ladd, g_lsub, g_lmul, g_land, g_lor, g_lcmp, g_ineg, g_lshl, g_lshr, g_i2l, g_l2i, g_dupi, g_dupr, g_pop, g_dup2, g_mabs_0, g_mabs_1, g_mabs_2, g_mabs_3, g_mmax_0, g_mmax_1, g_mmax_2, g_mmax_3, g_mmin_0, g_mmin_1, g_mmin_2, g_mmin_3, g_goto, g_jsr, g_icmp_eq, g_icmp_ne, g_icmp_lt, g_icmp_ge, g_icmp_gt, g_icmp_le, g_if_eq, g_if_ne, g_if_lt, g_if_ge, g_if_gt, g_if_le, g_idiv, g_irem, g_ldiv, g_iload, g_lload, g_aload, g_istore, g_astore, g_lstore, g_iinc, g_getfield, g_putfield, g_iaload, g_baload, g_laload, g_aaload, g_iastore, g_bastore, g_lastore, g_arraylength, g_call0_0, g_call0_1, g_call0_2, g_call0_3, g_call0_4, g_call1_0, g_call1_1, g_call1_2, g_call1_3, g_call1_4, g_call2_0, g_call2_1, g_call2_2, g_call2_3, g_call2_4, g_call3_0, g_call3_1, g_call3_2, g_call3_3, g_call3_4, g_call4_0, g_call4_1, g_call4_2, g_call4_3, g_call4_4, g_call5_0, g_call5_1, g_call5_2, g_call5_3, g_call5_4, g_call6_0, g_call6_1, g_call6_2, g_call6_3, g_call6_4, g_ireturn, g_lreturn, g_return, g_zreturn, sto_0, sto_s, sto2_0, sto2_s, isL_i, isL_r, isL_l, isL_j, ldI_0, ldI_9, ldZ_2, ldL_1, ldQ_3, stI_0, stL_1, stZ_2, gF_o, pF_o, lenA_9, oB_some, vI_i, vJ_j, vR_r, Option.map_some, List.getElem?_cons_zero, List.getElem?_cons_succ, Nat.reduceDiv, Nat.reduceMod, Int.reduceToNat, true_and, and_true, false_and, reduceIte, List.set_cons_zero, List.set_cons_succ, Option.toList_some, Option.toList_none, List.cons_append, List.nil_append, List.length_cons, List.length_nil, Nat.reduceAdd, Nat.reduceLeDiff, Nat.reduceLT, Nat.reduceEqDiff, and_self, and_false, Bool.false_eq_true, h1, h2, h3, c_isSeen hO hn hR, c1, iI_f, i32_0, i32_1, b2i_0, b2i_n, iI_add, iI_sub, iI_mul, iI_neg, iI_lt, iI_le, iI_eq, iI_in, iI_cl, i_nn, eq_self, true_or, or_true, not_true_eq_false, not_false_eq_true, Int.reduceEq, Int.reduceLT, Int.reduceLE, Int.reduceNeg]
      refine ite_c (fun c2 => ?_) (fun c2 => ?_)
      · refine fin h N S _ rfl hO hG (sI_step hn hab hbn hI (fun i hi => by rw [if_neg (fun q => by rw [c1] at q; exact absurd q.2 (by decide))]) (fun i hi => ?_)) hF
        have e : svC X Y n a b = false := by simp [svC, c1, c2]
        rw [if_neg (fun q => by rw [e] at q; exact absurd q.2 (by decide)), if_neg (fun q => by rw [e] at q; exact absurd q.2 (by decide))]
      · rw [b2i_n] at c2
        refine see h S _ rfl hO hG (by simp [svC, c2]) (fun i hi => ?_) hF
        rw [if_neg (fun q => by rw [c1] at q; exact absurd q.2 (by decide))]
    · rw [b2i_n] at c1
      simp (disch := omega) only [g_iconst, g_lconst, g_iadd, g_isub, g_imul, g_iand, g_ior, g_ishl, g_ishr, g_iushr, g_ladd, g_lsub, g_lmul, g_land, g_lor, g_lcmp, g_ineg, g_lshl, g_lshr, g_i2l, g_l2i, g_dupi, g_dupr, g_pop, g_dup2, g_mabs_0, g_mabs_1, g_mabs_2, g_mabs_3, g_mmax_0, g_mmax_1, g_mmax_2, g_mmax_3, g_mmin_0, g_mmin_1, g_mmin_2, g_mmin_3, g_goto, g_jsr, g_icmp_eq, g_icmp_ne, g_icmp_lt, g_icmp_ge, g_icmp_gt, g_icmp_le, g_if_eq, g_if_ne, g_if_lt, g_if_ge, g_if_gt, g_if_le, g_idiv, g_irem, g_ldiv, g_iload, g_lload, g_aload, g_istore, g_astore, g_lstore, g_iinc, g_getfield, g_putfield, g_iaload, g_baload, g_laload, g_aaload, g_iastore, g_bastore, g_lastore, g_arraylength, g_call0_0, g_call0_1, g_call0_2, g_call0_3, g_call0_4, g_call1_0, g_call1_1, g_call1_2, g_call1_3, g_call1_4, g_call2_0, g_call2_1, g_call2_2, g_call2_3, g_call2_4, g_call3_0, g_call3_1, g_call3_2, g_call3_3, g_call3_4, g_call4_0, g_call4_1, g_call4_2, g_call4_3, g_call4_4, g_call5_0, g_call5_1, g_call5_2, g_call5_3, g_call5_4, g_call6_0, g_call6_1, g_call6_2, g_call6_3, g_call6_4, g_ireturn, g_lreturn, g_return, g_zreturn, sto_0, sto_s, sto2_0, sto2_s, isL_i, isL_r, isL_l, isL_j, ldI_0, ldI_9, ldZ_2, ldL_1, ldQ_3, stI_0, stL_1, stZ_2, gF_o, pF_o, lenA_9, oB_some, vI_i, vJ_j, vR_r, Option.map_some, List.getElem?_cons_zero, List.getElem?_cons_succ, Nat.reduceDiv, Nat.reduceMod, Int.reduceToNat, true_and, and_true, false_and, reduceIte, List.set_cons_zero, List.set_cons_succ, Option.toList_some, Option.toList_none, List.cons_append, List.nil_append, List.length_cons, List.length_nil, Nat.reduceAdd, Nat.reduceLeDiff, Nat.reduceLT, Nat.reduceEqDiff, and_self, and_false, Bool.false_eq_true, h1, h2, h3, ia1, i_shl, i_or, upd_i, fg_st_s, fg_st_n, iI_f, i32_0, i32_1, b2i_0, b2i_n, iI_add, iI_sub, iI_mul, iI_neg, iI_lt, iI_le, iI_eq, iI_in, iI_cl, i_nn, eq_self, true_or, or_true, not_true_eq_false, not_false_eq_true, Int.reduceEq, Int.reduceLT, Int.reduceLE, Int.reduceNeg]
      rw [B53_85, b53_85]
      simp (disch := omega) only [g_iconst, g_lconst, g_iadd, g_isub, g_imul, g_iand, g_ior, g_ishl, g_ishr, g_iushr, g_ladd, g_lsub, g_lmul, g_land, g_lor, g_lcmp, g_ineg, g_lshl, g_lshr, g_i2l, g_l2i, g_dupi, g_dupr, g_pop, g_dup2, g_mabs_0, g_mabs_1, g_mabs_2, g_mabs_3, g_mmax_0, g_mmax_1, g_mmax_2, g_mmax_3, g_mmin_0, g_mmin_1, g_mmin_2, g_mmin_3, g_goto, g_jsr, g_icmp_eq, g_icmp_ne, g_icmp_lt, g_icmp_ge, g_icmp_gt, g_icmp_le, g_if_eq, g_if_ne, g_if_lt, g_if_ge, g_if_gt, g_if_le, g_idiv, g_irem, g_ldiv, g_iload, g_lload, g_aload, g_istore, g_astore, g_lstore, g_iinc, g_getfield, g_putfield, g_iaload, g_baload, g_laload, g_aaload, g_iastore, g_bastore, g_lastore, g_arraylength, g_call0_0, g_call0_1, g_call0_2, g_call0_3, g_call0_4, g_call1_0, g_call1_1, g_call1_2, g_call1_3, g_call1_4, g_call2_0, g_call2_1, g_call2_2, g_call2_3, g_call2_4, g_call3_0, g_call3_1, g_call3_2, g_call3_3, g_call3_4, g_call4_0, g_call4_1, g_call4_2, g_call4_3, g_call4_4, g_call5_0, g_call5_1, g_call5_2, g_call5_3, g_call5_4, g_call6_0, g_call6_1, g_call6_2, g_call6_3, g_call6_4, g_ireturn, g_lreturn, g_return, g_zreturn, sto_0, sto_s, sto2_0, sto2_s, isL_i, isL_r, isL_l, isL_j, ldI_0, ldI_9, ldZ_2, ldL_1, ldQ_3, stI_0, stL_1, stZ_2, gF_o, pF_o, lenA_9, oB_some, vI_i, vJ_j, vR_r, Option.map_some, List.getElem?_cons_zero, List.getElem?_cons_succ, Nat.reduceDiv, Nat.reduceMod, Int.reduceToNat, true_and, and_true, false_and, reduceIte, List.set_cons_zero, List.set_cons_succ, Option.toList_some, Option.toList_none, List.cons_append, List.nil_append, List.length_cons, List.length_nil, Nat.reduceAdd, Nat.reduceLeDiff, Nat.reduceLT, Nat.reduceEqDiff, and_self, and_false, Bool.false_eq_true, c1, iI_f, i32_0, i32_1, b2i_0, b2i_n, iI_add, iI_sub, iI_mul, iI_neg, iI_lt, iI_le, iI_eq, iI_in, iI_cl, i_nn, eq_self, true_or, or_true, not_true_eq_false, not_false_eq_true, Int.reduceEq, Int.reduceLT, Int.reduceLE, Int.reduceNeg]
      refine see _ _ _ rfl (hO.of (Fr.rf.st (a := s + 2) (S := oS s) ⟨by omega, by omega⟩) dis) (hG.S (updZ S a ((bits (sBx X Y n a b a) ||| 2 ^ b : Nat) : Int))) (by simp [svC, c1]) (fun i hi => ?_) (hF.st (a := s + 2) ⟨by omega, by omega⟩)
      by_cases h5 : i = a
      · subst h5; rw [updZ_s, if_pos ⟨rfl, c1⟩]
      · rw [updZ_n h5, if_neg (fun q => h5 q.1)]
set_option maxRecDepth 10000 in
theorem l_look1 {h0 : fH} {o s n : Nat} {X Y : Nat → Int} (hn : n ≤ 10) (hR : Rg n X Y) (hos : o + 3 ≤ s ∨ s + 3 ≤ o) {Q : Option Value → fH → Prop} : ∀ (d a : Nat) (h : fH) (N S : Nat → Int) (z z2 : Value), a + d = n → isL z = false → isL z2 = false → Out h o n X Y → Sgt h s n N S → sI X Y n a 0 N S → Fr h0 h (oS s) →
    (∀ h' N' S', Sgt h' s n N' S' → sI X Y n n 0 N' S' → Fr h0 h' (oS s) → Q none h') →
    Go 53 (blk 53 40) [.ref s, .ref o, .int (iI a), z, z2] [] h Q := by
  intro d
  induction d with
  | zero =>
    intro a h N S z z2 hb hz hz2 hO hG hI hF k
    obtain ⟨h1, h2, h3⟩ := id hG
    obtain rfl : a = n := by omega
    rw [B53_40, b53_40]
    simp (disch := omega) only [B53_135, b53_135, g_iconst, g_lconst, g_iadd, g_isub, g_imul, g_iand, g_ior, g_ishl, g_ishr, g_iushr, g_ladd, g_lsub, g_lmul, g_land, g_lor, g_lcmp, g_ineg, g_lshl, g_lshr, g_i2l, g_l2i, g_dupi, g_dupr, g_pop, g_dup2, g_mabs_0, g_mabs_1, g_mabs_2, g_mabs_3, g_mmax_0, g_mmax_1, g_mmax_2, g_mmax_3, g_mmin_0, g_mmin_1, g_mmin_2, g_mmin_3, g_goto, g_jsr, g_icmp_eq, g_icmp_ne, g_icmp_lt, g_icmp_ge, g_icmp_gt, g_icmp_le, g_if_eq, g_if_ne, g_if_lt, g_if_ge, g_if_gt, g_if_le, g_idiv, g_irem, g_ldiv, g_iload, g_lload, g_aload, g_istore, g_astore, g_lstore, g_iinc, g_getfield, g_putfield, g_iaload, g_baload, g_laload, g_aaload, g_iastore, g_bastore, g_lastore, g_arraylength, g_call0_0, g_call0_1, g_call0_2, g_call0_3, g_call0_4, g_call1_0, g_call1_1, g_call1_2, g_call1_3, g_call1_4, g_call2_0, g_call2_1, g_call2_2, g_call2_3, g_call2_4, g_call3_0, g_call3_1, g_call3_2, g_call3_3, g_call3_4, g_call4_0, g_call4_1, g_call4_2, g_call4_3, g_call4_4, g_call5_0, g_call5_1, g_call5_2, g_call5_3, g_call5_4, g_call6_0, g_call6_1, g_call6_2, g_call6_3, g_call6_4, g_ireturn, g_lreturn, g_return, g_zreturn, sto_0, sto_s, sto2_0, sto2_s, isL_i, isL_r, isL_l, isL_j, ldI_0, ldI_9, ldZ_2, ldL_1, ldQ_3, stI_0, stL_1, stZ_2, gF_o, pF_o, lenA_9, oB_some, vI_i, vJ_j, vR_r, Option.map_some, List.getElem?_cons_zero, List.getElem?_cons_succ, Nat.reduceDiv, Nat.reduceMod, Int.reduceToNat, true_and, and_true, false_and, reduceIte, List.set_cons_zero, List.set_cons_succ, Option.toList_some, Option.toList_none, List.cons_append, List.nil_append, List.length_cons, List.length_nil, Nat.reduceAdd, Nat.reduceLeDiff, Nat.reduceLT, Nat.reduceEqDiff, and_self, and_false, Bool.false_eq_true, h1, h2, h3, iI_f, i32_0, i32_1, b2i_0, b2i_n, iI_add, iI_sub, iI_mul, iI_neg, iI_lt, iI_le, iI_eq, iI_in, iI_cl, i_nn, eq_self, true_or, or_true, not_true_eq_false, not_false_eq_true, Int.reduceEq, Int.reduceLT, Int.reduceLE, Int.reduceNeg]
    exact ite_t (by omega) (k h N S hG hI hF)
  | succ d ih =>
    intro a h N S z z2 hb hz hz2 hO hG hI hF k
    obtain ⟨h1, h2, h3⟩ := id hG
    rw [B53_40, b53_40]
    simp (disch := omega) only [g_iconst, g_lconst, g_iadd, g_isub, g_imul, g_iand, g_ior, g_ishl, g_ishr, g_iushr, g_ladd, g_lsub, g_lmul, g_land, g_lor, g_lcmp, g_ineg, g_lshl, g_lshr, g_i2l, g_l2i, g_dupi, g_dupr, g_pop, g_dup2, g_mabs_0, g_mabs_1, g_mabs_2, g_mabs_3, g_mmax_0, g_mmax_1, g_mmax_2, g_mmax_3, g_mmin_0, g_mmin_1, g_mmin_2, g_mmin_3, g_goto, g_jsr, g_icmp_eq, g_icmp_ne, g_icmp_lt, g_icmp_ge, g_icmp_gt, g_icmp_le, g_if_eq, g_if_ne, g_if_lt, g_if_ge, g_if_gt, g_if_le, g_idiv, g_irem, g_ldiv, g_iload, g_lload, g_aload, g_istore, g_astore, g_lstore, g_iinc, g_getfield, g_putfield, g_iaload, g_baload, g_laload, g_aaload, g_iastore, g_bastore, g_lastore, g_arraylength, g_call0_0, g_call0_1, g_call0_2, g_call0_3, g_call0_4, g_call1_0, g_call1_1, g_call1_2, g_call1_3, g_call1_4, g_call2_0, g_call2_1, g_call2_2, g_call2_3, g_call2_4, g_call3_0, g_call3_1, g_call3_2, g_call3_3, g_call3_4, g_call4_0, g_call4_1, g_call4_2, g_call4_3, g_call4_4, g_call5_0, g_call5_1, g_call5_2, g_call5_3, g_call5_4, g_call6_0, g_call6_1, g_call6_2, g_call6_3, g_call6_4, g_ireturn, g_lreturn, g_return, g_zreturn, sto_0, sto_s, sto2_0, sto2_s, isL_i, isL_r, isL_l, isL_j, ldI_0, ldI_9, ldZ_2, ldL_1, ldQ_3, stI_0, stL_1, stZ_2, gF_o, pF_o, lenA_9, oB_some, vI_i, vJ_j, vR_r, Option.map_some, List.getElem?_cons_zero, List.getElem?_cons_succ, Nat.reduceDiv, Nat.reduceMod, Int.reduceToNat, true_and, and_true, false_and, reduceIte, List.set_cons_zero, List.set_cons_succ, Option.toList_some, Option.toList_none, List.cons_append, List.nil_append, List.length_cons, List.length_nil, Nat.reduceAdd, Nat.reduceLeDiff, Nat.reduceLT, Nat.reduceEqDiff, and_self, and_false, Bool.false_eq_true, h1, h2, h3, hz, hz2, iI_f, i32_0, i32_1, b2i_0, b2i_n, iI_add, iI_sub, iI_mul, iI_neg, iI_lt, iI_le, iI_eq, iI_in, iI_cl, i_nn, eq_self, true_or, or_true, not_true_eq_false, not_false_eq_true, Int.reduceEq, Int.reduceLT, Int.reduceLE, Int.reduceNeg]
    refine ite_f (by omega) ?_
    have hI2 : sI X Y n a (a + 1) N S := fun i hi => by
      obtain ⟨g1, g2⟩ := hI i hi
      refine ⟨?_, ?_⟩
      · rw [g1]; congr 1; apply bits_congr; intro j hj
        simp only [sBx, dn]
        by_cases h4 : i < j
        · have : (i < a ∨ i = a ∧ j < 0) ↔ (i < a ∨ i = a ∧ j < a + 1) := by omega
          simp only [this]
        · simp [h4]
      · rw [g2]; congr 1; apply bits_congr; intro j hj
        simp only [vBx, dn]
        by_cases h4 : i = j
        · simp [h4]
        · have : (min i j < a ∨ min i j = a ∧ max i j < 0) ↔ (min i j < a ∨ min i j = a ∧ max i j < a + 1) := by omega
          simp only [this]
    have w := l_look2 (h0 := h0) hn hR hos (show a < n by omega) (Q := Q) (n - (a + 1)) (a + 1) h N S z2 (by omega) (by omega) hz2 hO hG hI2 hF (fun h' N' S' z' q0 q1 q2 q3 q4 => ?_)
    · push_cast at w; exact w
    · obtain ⟨e1, e2, e3⟩ := id q2
      rw [B53_129, b53_129]
      simp (disch := omega) only [g_iconst, g_lconst, g_iadd, g_isub, g_imul, g_iand, g_ior, g_ishl, g_ishr, g_iushr, g_ladd, g_lsub, g_lmul, g_land, g_lor, g_lcmp, g_ineg, g_lshl, g_lshr, g_i2l, g_l2i, g_dupi, g_dupr, g_pop, g_dup2, g_mabs_0, g_mabs_1, g_mabs_2, g_mabs_3, g_mmax_0, g_mmax_1, g_mmax_2, g_mmax_3, g_mmin_0, g_mmin_1, g_mmin_2, g_mmin_3, g_goto, g_jsr, g_icmp_eq, g_icmp_ne, g_icmp_lt, g_icmp_ge, g_icmp_gt, g_icmp_le, g_if_eq, g_if_ne, g_if_lt, g_if_ge, g_if_gt, g_if_le, g_idiv, g_irem, g_ldiv, g_iload, g_lload, g_aload, g_istore, g_astore, g_lstore, g_iinc, g_getfield, g_putfield, g_iaload, g_baload, g_laload, g_aaload, g_iastore, g_bastore, g_lastore, g_arraylength, g_call0_0, g_call0_1, g_call0_2, g_call0_3, g_call0_4, g_call1_0, g_call1_1, g_call1_2, g_call1_3, g_call1_4, g_call2_0, g_call2_1, g_call2_2, g_call2_3, g_call2_4, g_call3_0, g_call3_1, g_call3_2, g_call3_3, g_call3_4, g_call4_0, g_call4_1, g_call4_2, g_call4_3, g_call4_4, g_call5_0, g_call5_1, g_call5_2, g_call5_3, g_call5_4, g_call6_0, g_call6_1, g_call6_2, g_call6_3, g_call6_4, g_ireturn, g_lreturn, g_return, g_zreturn, sto_0, sto_s, sto2_0, sto2_s, isL_i, isL_r, isL_l, isL_j, ldI_0, ldI_9, ldZ_2, ldL_1, ldQ_3, stI_0, stL_1, stZ_2, gF_o, pF_o, lenA_9, oB_some, vI_i, vJ_j, vR_r, Option.map_some, List.getElem?_cons_zero, List.getElem?_cons_succ, Nat.reduceDiv, Nat.reduceMod, Int.reduceToNat, true_and, and_true, false_and, reduceIte, List.set_cons_zero, List.set_cons_succ, Option.toList_some, Option.toList_none, List.cons_append, List.nil_append, List.length_cons, List.length_nil, Nat.reduceAdd, Nat.reduceLeDiff, Nat.reduceLT, Nat.reduceEqDiff, and_self, and_false, Bool.false_eq_true, e1, e2, e3, iI_f, i32_0, i32_1, b2i_0, b2i_n, iI_add, iI_sub, iI_mul, iI_neg, iI_lt, iI_le, iI_eq, iI_in, iI_cl, i_nn, eq_self, true_or, or_true, not_true_eq_false, not_false_eq_true, Int.reduceEq, Int.reduceLT, Int.reduceLE, Int.reduceNeg]
      have hI3 : sI X Y n (a + 1) 0 N' S' := fun i hi => by
        obtain ⟨g1, g2⟩ := q3 i hi
        refine ⟨?_, ?_⟩
        · rw [g1]; congr 1; apply bits_congr; intro j hj
          simp only [sBx, dn]
          by_cases h4 : i < j ∧ j < n
          · have : (i < a ∨ i = a ∧ j < n) ↔ (i < a + 1 ∨ i = a + 1 ∧ j < 0) := by omega
            simp only [this]
          · simp [h4]
        · rw [g2]; congr 1; apply bits_congr; intro j hj
          simp only [vBx, dn]
          by_cases h4 : i ≠ j ∧ i < n ∧ j < n
          · have : (min i j < a ∨ min i j = a ∧ max i j < n) ↔ (min i j < a + 1 ∨ min i j = a + 1 ∧ max i j < 0) := by omega
            simp only [this]
          · simp [h4]
      have w := ih (a + 1) h' N' S' (.int (iI n)) z' (by omega) rfl q0 q1 q2 hI3 q4 k
      push_cast at w
      exact w
def sB (X Y : Nat → Int) (n i j : Nat) : Bool := decide (i < j ∧ j < n) && stripC X Y n i j
def vB (X Y : Nat → Int) (n i j : Nat) : Bool := decide (i ≠ j ∧ i < n ∧ j < n) && svC X Y n (min i j) (max i j)
def sF (X Y : Nat → Int) (n : Nat) (N S : Nat → Int) : Prop := ∀ i, i < n → S i = (bits (sB X Y n i) : Int) ∧ N i = (bits (vB X Y n i) : Int)
set_option maxRecDepth 10000 in
theorem c_lookAt {h : fH} {o n : Nat} {X Y : Nat → Int} (hO : Out h o n X Y) (hn : n ≤ 10) (hR : Rg n X Y) {s m : Nat} {N S : Nat → Int} (hG : Sgt h s m N S) (hos : o + 3 ≤ s ∨ s + 3 ≤ o) {Q : Option Value → fH → Prop} (hq : ∀ h' N' S', Sgt h' s n N' S' → sF X Y n N' S' → Fr h h' (oS s) → Q none h') : Call 53 [.ref s, .ref o] h Q := by
  obtain ⟨h1, h2, h3⟩ := id hG
  obtain ⟨g1, g2, g3⟩ := id hO
  refine ⟨by simp [vOK, entL, isL, mlT, kdT, clT, isO, h1], rfl, ?_⟩
  rw [show ent 53 [.ref s, .ref o] = [.ref s, .ref o, jk, jk, jk] from rfl]
  simp (disch := omega) only [B53_0, b53_0, g_iconst, g_lconst, g_iadd, g_isub, g_imul, g_iand, g_ior, g_ishl, g_ishr, g_iushr, g_ladd, g_lsub, g_lmul, g_land, g_lor, g_lcmp, g_ineg, g_lshl, g_lshr, g_i2l, g_l2i, g_dupi, g_dupr, g_pop, g_dup2, g_mabs_0, g_mabs_1, g_mabs_2, g_mabs_3, g_mmax_0, g_mmax_1, g_mmax_2, g_mmax_3, g_mmin_0, g_mmin_1, g_mmin_2, g_mmin_3, g_goto, g_jsr, g_icmp_eq, g_icmp_ne, g_icmp_lt, g_icmp_ge, g_icmp_gt, g_icmp_le, g_if_eq, g_if_ne, g_if_lt, g_if_ge, g_if_gt, g_if_le, g_idiv, g_irem, g_ldiv, g_iload, g_lload, g_aload, g_istore, g_astore, g_lstore, g_iinc, g_getfield, g_putfield, g_iaload, g_baload, g_laload, g_aaload, g_iastore, g_bastore, g_lastore, g_arraylength, g_call0_0, g_call0_1, g_call0_2, g_call0_3, g_call0_4, g_call1_0, g_call1_1, g_call1_2, g_call1_3, g_call1_4, g_call2_0, g_call2_1, g_call2_2, g_call2_3, g_call2_4, g_call3_0, g_call3_1, g_call3_2, g_call3_3, g_call3_4, g_call4_0, g_call4_1, g_call4_2, g_call4_3, g_call4_4, g_call5_0, g_call5_1, g_call5_2, g_call5_3, g_call5_4, g_call6_0, g_call6_1, g_call6_2, g_call6_3, g_call6_4, g_ireturn, g_lreturn, g_return, g_zreturn, sto_0, sto_s, sto2_0, sto2_s, isL_i, isL_r, isL_l, isL_j, ldI_0, ldI_9, ldZ_2, ldL_1, ldQ_3, stI_0, stL_1, stZ_2, gF_o, pF_o, lenA_9, oB_some, vI_i, vJ_j, vR_r, Option.map_some, List.getElem?_cons_zero, List.getElem?_cons_succ, Nat.reduceDiv, Nat.reduceMod, Int.reduceToNat, true_and, and_true, false_and, reduceIte, List.set_cons_zero, List.set_cons_succ, Option.toList_some, Option.toList_none, List.cons_append, List.nil_append, List.length_cons, List.length_nil, Nat.reduceAdd, Nat.reduceLeDiff, Nat.reduceLT, Nat.reduceEqDiff, and_self, and_false, Bool.false_eq_true, h1, h2, h3, g1, fk98, fit_i, iI_f, i32_0, i32_1, b2i_0, b2i_n, iI_add, iI_sub, iI_mul, iI_neg, iI_lt, iI_le, iI_eq, iI_in, iI_cl, i_nn, eq_self, true_or, or_true, not_true_eq_false, not_false_eq_true, Int.reduceEq, Int.reduceLT, Int.reduceLE, Int.reduceNeg]
  have dis : ∀ k2, oS o k2 → ¬ oS s k2 := fun k2 hk z => by have := hk.1; have := hk.2; have := z.1; have := z.2; omega
  have hG2 : Sgt (f_st h s (.inr (3, [.ref (s + 1), .ref (s + 2), .int (iI n)]))) s n N S := ⟨by rw [fg_st_s], by rw [fg_st_n (by omega)]; exact h2, by rw [fg_st_n (by omega)]; exact h3⟩
  have hF : Fr h (f_st h s (.inr (3, [.ref (s + 1), .ref (s + 2), .int (iI n)]))) (oS s) := Fr.rf.st ⟨by omega, by omega⟩
  refine l_look0 (h0 := h) hn n 0 _ N S (by omega) hG2 (fun j hj => by omega) hF (fun h' N' S' q1 q2 q3 => ?_)
  obtain ⟨e1, e2, e3⟩ := id q1
  rw [B53_38, b53_38]
  simp (disch := omega) only [g_iconst, g_lconst, g_iadd, g_isub, g_imul, g_iand, g_ior, g_ishl, g_ishr, g_iushr, g_ladd, g_lsub, g_lmul, g_land, g_lor, g_lcmp, g_ineg, g_lshl, g_lshr, g_i2l, g_l2i, g_dupi, g_dupr, g_pop, g_dup2, g_mabs_0, g_mabs_1, g_mabs_2, g_mabs_3, g_mmax_0, g_mmax_1, g_mmax_2, g_mmax_3, g_mmin_0, g_mmin_1, g_mmin_2, g_mmin_3, g_goto, g_jsr, g_icmp_eq, g_icmp_ne, g_icmp_lt, g_icmp_ge, g_icmp_gt, g_icmp_le, g_if_eq, g_if_ne, g_if_lt, g_if_ge, g_if_gt, g_if_le, g_idiv, g_irem, g_ldiv, g_iload, g_lload, g_aload, g_istore, g_astore, g_lstore, g_iinc, g_getfield, g_putfield, g_iaload, g_baload, g_laload, g_aaload, g_iastore, g_bastore, g_lastore, g_arraylength, g_call0_0, g_call0_1, g_call0_2, g_call0_3, g_call0_4, g_call1_0, g_call1_1, g_call1_2, g_call1_3, g_call1_4, g_call2_0, g_call2_1, g_call2_2, g_call2_3, g_call2_4, g_call3_0, g_call3_1, g_call3_2, g_call3_3, g_call3_4, g_call4_0, g_call4_1, g_call4_2, g_call4_3, g_call4_4, g_call5_0, g_call5_1, g_call5_2, g_call5_3, g_call5_4, g_call6_0, g_call6_1, g_call6_2, g_call6_3, g_call6_4, g_ireturn, g_lreturn, g_return, g_zreturn, sto_0, sto_s, sto2_0, sto2_s, isL_i, isL_r, isL_l, isL_j, ldI_0, ldI_9, ldZ_2, ldL_1, ldQ_3, stI_0, stL_1, stZ_2, gF_o, pF_o, lenA_9, oB_some, vI_i, vJ_j, vR_r, Option.map_some, List.getElem?_cons_zero, List.getElem?_cons_succ, Nat.reduceDiv, Nat.reduceMod, Int.reduceToNat, true_and, and_true, false_and, reduceIte, List.set_cons_zero, List.set_cons_succ, Option.toList_some, Option.toList_none, List.cons_append, List.nil_append, List.length_cons, List.length_nil, Nat.reduceAdd, Nat.reduceLeDiff, Nat.reduceLT, Nat.reduceEqDiff, and_self, and_false, Bool.false_eq_true, e1, e2, e3, iI_f, i32_0, i32_1, b2i_0, b2i_n, iI_add, iI_sub, iI_mul, iI_neg, iI_lt, iI_le, iI_eq, iI_in, iI_cl, i_nn, eq_self, true_or, or_true, not_true_eq_false, not_false_eq_true, Int.reduceEq, Int.reduceLT, Int.reduceLE, Int.reduceNeg]
  refine l_look1 (h0 := h) hn hR hos n 0 h' N' S' jk jk (by omega) rfl rfl (hO.of q3 dis) q1 (fun i hi => ?_) q3 (fun h2 N2 S2 r1 r2 r3 => hq h2 N2 S2 r1 (fun i hi => ?_) r3)
  · obtain ⟨z1, z2⟩ := q2 i hi
    have zz : bits (fun _ => false) = 0 := by decide
    constructor
    · rw [z2, show bits (sBx X Y n 0 0 i) = bits (fun _ => false) from bits_congr (fun j _ => by simp [sBx, dn]), zz]; rfl
    · rw [z1, show bits (vBx X Y n 0 0 i) = bits (fun _ => false) from bits_congr (fun j _ => by simp [vBx, dn]), zz]; rfl
  · obtain ⟨z1, z2⟩ := r2 i hi
    constructor
    · rw [z1]; congr 1; apply bits_congr; intro j hj
      simp [sBx, sB, dn, hi]
    · rw [z2]; congr 1; apply bits_congr; intro j hj
      simp only [vBx, vB, dn]
      by_cases h4 : i ≠ j ∧ i < n ∧ j < n
      · simp [h4, show min i j < n by omega]
      · simp [h4]
