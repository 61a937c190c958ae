/-! The reference: is a field sound. -/
theorem nx2_mod {n i : Nat} (h : i < n) (hn : 2 < n) : (i + 2) % n = nx n (nx n i) := by
  unfold nx
  by_cases h1 : i + 1 < n
  · rw [if_pos h1]
    by_cases h2 : i + 1 + 1 < n
    · rw [if_pos h2]; exact Nat.mod_eq_of_lt (by omega)
    · rw [if_neg h2, show i + 2 = n by omega]; exact Nat.mod_self n
  · rw [if_neg h1, if_pos (by omega), show i + 2 = n + 1 by omega, Nat.add_mod_left]; exact Nat.mod_eq_of_lt (by omega)
def alM (X Y : Nat → Int) (n a : Nat) : Bool := decide (sd X Y a (nx n a) (nx n (nx n a)) = 0) && decide (0 < dt X Y (nx n a) a (nx n (nx n a)))
def mtM (X Y : Nat → Int) (n a b : Nat) : Bool := !decide (nx n b = a) && meM X Y a (nx n a) b (nx n b)
def snM (X Y : Nat → Int) (n : Nat) : Bool := decide (2 < n) && !anyF (fun a => alM X Y n a || anyF (mtM X Y n a) (a + 2) (n - (a + 2))) 0 n
theorem dt_bdM {x y : Nat → Int} {m : Nat → Nat} (hK : Fok x y m) {a b c : Nat} (ha : Pl m a) (hb : Pl m b) (hc : Pl m c) : -450 ≤ dt x y c a b ∧ dt x y c a b ≤ 450 := by
  obtain ⟨-, ⟨a1, a2⟩, a3, a4⟩ := hK.at ha
  obtain ⟨-, ⟨b1, b2⟩, b3, b4⟩ := hK.at hb
  obtain ⟨-, ⟨c1, c2⟩, c3, c4⟩ := hK.at hc
  have h1 := mul_bd (a := x a - x c) (b := x b - x c) (M := 15) (N := 15) (by omega) (by omega) (by omega) (by omega) (by omega) (by omega)
  have h2 := mul_bd (a := y a - y c) (b := y b - y c) (M := 15) (N := 15) (by omega) (by omega) (by omega) (by omega) (by omega) (by omega)
  unfold dt
  omega
set_option maxRecDepth 10000 in
theorem l_mS2 {h : fH} {o : MO} {x y : Nat → Int} {m : Nat → Nat} (hF : Fld h o x y m) (hK : Fok x y m) {f a : Nat} (hf : f < 4) (ha : a < m f) {z7 z8 : Value} (l8 : isL z8 = false) {Q : Option Value → fH → Prop} {S : Bool} (hq : ∀ z, isL z = false → Go 135 (blk 135 225) [.ref 56, .int (iI f), .int (iI (m f)), .int (iI (b2i S)), .int (iI a), .int (iI ((10 * f + a : Nat) : Int)), .int (iI ((10 * f + nx (m f) a : Nat) : Int)), z7, z8, z] [] h Q) : ∀ (d b : Nat) (s : Bool), (b + d = m f ∨ (d = 0 ∧ m f ≤ b ∧ b ≤ 12)) → S = (s && !anyF (mtM (fw x f) (fw y f) (m f) a) b d) →
    Go 135 (blk 135 165) [.ref 56, .int (iI f), .int (iI (m f)), .int (iI (b2i s)), .int (iI a), .int (iI ((10 * f + a : Nat) : Int)), .int (iI ((10 * f + nx (m f) a : Nat) : Int)), z7, z8, .int (iI b)] [] h Q := by
  have mp := (hK f hf).1
  intro d
  induction d with
  | zero =>
    intro b s hb es
    rw [B135_165, b135_165]
    simp (disch := omega) only [g_iconst, g_lconst, g_iadd, g_isub, g_imul, g_iand, g_ior, g_ishl, g_ishr, g_iushr, g_ladd, g_lsub, g_lmul, g_land, g_lor, g_lcmp, g_ineg, g_lshl, g_lshr, g_i2l, g_l2i, g_dupi, g_dupr, g_pop, g_dup2, g_mabs_0, g_mabs_1, g_mabs_2, g_mabs_3, g_mmax_0, g_mmax_1, g_mmax_2, g_mmax_3, g_mmin_0, g_mmin_1, g_mmin_2, g_mmin_3, g_goto, g_jsr, g_icmp_eq, g_icmp_ne, g_icmp_lt, g_icmp_ge, g_icmp_gt, g_icmp_le, g_if_eq, g_if_ne, g_if_lt, g_if_ge, g_if_gt, g_if_le, g_idiv, g_irem, g_ldiv, g_iload, g_lload, g_aload, g_istore, g_astore, g_lstore, g_iinc, g_getfield, g_putfield, g_iaload, g_baload, g_laload, g_aaload, g_iastore, g_bastore, g_lastore, g_arraylength, g_call0_0, g_call0_1, g_call0_2, g_call0_3, g_call0_4, g_call1_0, g_call1_1, g_call1_2, g_call1_3, g_call1_4, g_call2_0, g_call2_1, g_call2_2, g_call2_3, g_call2_4, g_call3_0, g_call3_1, g_call3_2, g_call3_3, g_call3_4, g_call4_0, g_call4_1, g_call4_2, g_call4_3, g_call4_4, g_call5_0, g_call5_1, g_call5_2, g_call5_3, g_call5_4, g_call6_0, g_call6_1, g_call6_2, g_call6_3, g_call6_4, g_ireturn, g_lreturn, g_return, g_zreturn, sto_0, sto_s, sto2_0, sto2_s, isL_i, isL_r, isL_l, isL_j, ldI_0, ldI_9, ldZ_2, ldL_1, ldQ_3, stI_0, stL_1, stZ_2, gF_o, pF_o, lenA_9, oB_some, vI_i, vJ_j, vR_r, Option.map_some, List.getElem?_cons_zero, List.getElem?_cons_succ, Nat.reduceDiv, Nat.reduceMod, Int.reduceToNat, true_and, and_true, false_and, reduceIte, List.set_cons_zero, List.set_cons_succ, Option.toList_some, Option.toList_none, List.cons_append, List.nil_append, List.length_cons, List.length_nil, Nat.reduceAdd, Nat.reduceLeDiff, Nat.reduceLT, Nat.reduceEqDiff, and_self, and_false, Bool.false_eq_true, iI_f, i32_0, i32_1, b2i_0, b2i_n, iI_add, iI_sub, iI_mul, iI_neg, iI_lt, iI_le, iI_eq, iI_in, iI_cl, i_nn, eq_self, true_or, or_true, not_true_eq_false, not_false_eq_true, Int.reduceEq, Int.reduceLT, Int.reduceLE, Int.reduceNeg]
    refine ite_t (by omega) ?_
    have e : S = s := by rw [es, anyF]; simp
    rw [← e]
    exact hq _ rfl
  | succ d ih =>
    intro b s hb es
    have hbn : b < m f := by omega
    have em : ((b : Int) + 1).tmod (m f : Int) = ((nx (m f) b : Nat) : Int) := by
      rw [show (b : Int) + 1 = ((b + 1 : Nat) : Int) by omega, tm_n, nx_mod hbn]
    have hnb := nx_lt hbn
    have hna := nx_lt ha
    have cm := m_meet hF hK (Pl.of hf ha mp) (Pl.of hf hna mp) (Pl.of hf hbn mp) (Pl.of hf hnb mp)
    rw [show meM x y (10 * f + a) (10 * f + nx (m f) a) (10 * f + b) (10 * f + nx (m f) b) = meM (fw x f) (fw y f) a (nx (m f) a) b (nx (m f) b) from rfl] at cm
    have w1 := ih (b + 1) true (by omega)
    have w0 := ih (b + 1) false (by omega)
    rw [show b2i true = 1 from rfl] at w1
    rw [show b2i false = 0 from rfl] at w0
    push_cast at w1 w0
    rw [anyF] at es
    rw [B135_165, b135_165]
    simp (disch := omega) only [B135_213, b135_213, B135_217, b135_217, B135_218, b135_218, g_iconst, g_lconst, g_iadd, g_isub, g_imul, g_iand, g_ior, g_ishl, g_ishr, g_iushr, g_ladd, g_lsub, g_lmul, g_land, g_lor, g_lcmp, g_ineg, g_lshl, g_lshr, g_i2l, g_l2i, g_dupi, g_dupr, g_pop, g_dup2, g_mabs_0, g_mabs_1, g_mabs_2, g_mabs_3, g_mmax_0, g_mmax_1, g_mmax_2, g_mmax_3, g_mmin_0, g_mmin_1, g_mmin_2, g_mmin_3, g_goto, g_jsr, g_icmp_eq, g_icmp_ne, g_icmp_lt, g_icmp_ge, g_icmp_gt, g_icmp_le, g_if_eq, g_if_ne, g_if_lt, g_if_ge, g_if_gt, g_if_le, g_idiv, g_irem, g_ldiv, g_iload, g_lload, g_aload, g_istore, g_astore, g_lstore, g_iinc, g_getfield, g_putfield, g_iaload, g_baload, g_laload, g_aaload, g_iastore, g_bastore, g_lastore, g_arraylength, g_call0_0, g_call0_1, g_call0_2, g_call0_3, g_call0_4, g_call1_0, g_call1_1, g_call1_2, g_call1_3, g_call1_4, g_call2_0, g_call2_1, g_call2_2, g_call2_3, g_call2_4, g_call3_0, g_call3_1, g_call3_2, g_call3_3, g_call3_4, g_call4_0, g_call4_1, g_call4_2, g_call4_3, g_call4_4, g_call5_0, g_call5_1, g_call5_2, g_call5_3, g_call5_4, g_call6_0, g_call6_1, g_call6_2, g_call6_3, g_call6_4, g_ireturn, g_lreturn, g_return, g_zreturn, sto_0, sto_s, sto2_0, sto2_s, isL_i, isL_r, isL_l, isL_j, ldI_0, ldI_9, ldZ_2, ldL_1, ldQ_3, stI_0, stL_1, stZ_2, gF_o, pF_o, lenA_9, oB_some, vI_i, vJ_j, vR_r, Option.map_some, List.getElem?_cons_zero, List.getElem?_cons_succ, Nat.reduceDiv, Nat.reduceMod, Int.reduceToNat, true_and, and_true, false_and, reduceIte, List.set_cons_zero, List.set_cons_succ, Option.toList_some, Option.toList_none, List.cons_append, List.nil_append, List.length_cons, List.length_nil, Nat.reduceAdd, Nat.reduceLeDiff, Nat.reduceLT, Nat.reduceEqDiff, and_self, and_false, Bool.false_eq_true, l8, iI_rem, em, m_placeI hF hK hf hbn, m_placeN hF hK hf hbn, cm, iI_f, i32_0, i32_1, b2i_0, b2i_n, iI_add, iI_sub, iI_mul, iI_neg, iI_lt, iI_le, iI_eq, iI_in, iI_cl, i_nn, eq_self, true_or, or_true, not_true_eq_false, not_false_eq_true, Int.reduceEq, Int.reduceLT, Int.reduceLE, Int.reduceNeg]
    refine ite_f (by omega) (ite_c (fun c1 => ?_) (fun c1 => ?_))
    · have e : S = s := by rw [es, c1]; rfl
      rw [← e]
      exact hq _ rfl
    · rw [b2i_n] at c1
      refine ⟨by omega, ite_c (fun c2 => ?_) (fun c2 => ite_c (fun c3 => ?_) (fun c3 => ?_))⟩
      · exact w1 (by rw [es, c1]; simp only [mtM, decide_eq_true (show nx (m f) b = a by omega)]; simp)
      · exact w0 (by rw [es]; simp only [mtM, decide_eq_false (show ¬ nx (m f) b = a by omega), c3]; simp)
      · exact w1 (by rw [es, c1]; simp only [mtM, show meM (fw x f) (fw y f) a (nx (m f) a) b (nx (m f) b) = false by simpa using c3]; simp)
set_option maxRecDepth 10000 in
theorem l_mS1 {h : fH} {o : MO} {x y : Nat → Int} {m : Nat → Nat} (hF : Fld h o x y m) (hK : Fok x y m) {f : Nat} (hf : f < 4) {Q : Option Value → fH → Prop} {S : Bool} (hq : Q (some (.int (iI (b2i S)))) h) : ∀ (d a : Nat) (s : Bool) (z5 z6 z7 z8 z9 : Value), a + d = m f → isL z5 = false → isL z6 = false → isL z7 = false → isL z8 = false → isL z9 = false → (s = true → 2 < m f) → S = (s && !anyF (fun a => alM (fw x f) (fw y f) (m f) a || anyF (mtM (fw x f) (fw y f) (m f) a) (a + 2) (m f - (a + 2))) a d) →
    Go 135 (blk 135 21) [.ref 56, .int (iI f), .int (iI (m f)), .int (iI (b2i s)), .int (iI a), z5, z6, z7, z8, z9] [] h Q := by
  obtain ⟨ho, h1, h2, h3⟩ := id hF; unfold Mob at ho; unfold Row at h1 h2 h3
  have mp := (hK f hf).1
  intro d
  induction d with
  | zero =>
    intro a s z5 z6 z7 z8 z9 hi l5 l6 l7 l8 l9 hs es
    have e : S = s := by rw [es, anyF]; simp
    subst e
    rw [B135_21, b135_21]
    simp (disch := omega) only [B135_231, b135_231, g_iconst, g_lconst, g_iadd, g_isub, g_imul, g_iand, g_ior, g_ishl, g_ishr, g_iushr, g_ladd, g_lsub, g_lmul, g_land, g_lor, g_lcmp, g_ineg, g_lshl, g_lshr, g_i2l, g_l2i, g_dupi, g_dupr, g_pop, g_dup2, g_mabs_0, g_mabs_1, g_mabs_2, g_mabs_3, g_mmax_0, g_mmax_1, g_mmax_2, g_mmax_3, g_mmin_0, g_mmin_1, g_mmin_2, g_mmin_3, g_goto, g_jsr, g_icmp_eq, g_icmp_ne, g_icmp_lt, g_icmp_ge, g_icmp_gt, g_icmp_le, g_if_eq, g_if_ne, g_if_lt, g_if_ge, g_if_gt, g_if_le, g_idiv, g_irem, g_ldiv, g_iload, g_lload, g_aload, g_istore, g_astore, g_lstore, g_iinc, g_getfield, g_putfield, g_iaload, g_baload, g_laload, g_aaload, g_iastore, g_bastore, g_lastore, g_arraylength, g_call0_0, g_call0_1, g_call0_2, g_call0_3, g_call0_4, g_call1_0, g_call1_1, g_call1_2, g_call1_3, g_call1_4, g_call2_0, g_call2_1, g_call2_2, g_call2_3, g_call2_4, g_call3_0, g_call3_1, g_call3_2, g_call3_3, g_call3_4, g_call4_0, g_call4_1, g_call4_2, g_call4_3, g_call4_4, g_call5_0, g_call5_1, g_call5_2, g_call5_3, g_call5_4, g_call6_0, g_call6_1, g_call6_2, g_call6_3, g_call6_4, g_ireturn, g_lreturn, g_return, g_zreturn, sto_0, sto_s, sto2_0, sto2_s, isL_i, isL_r, isL_l, isL_j, ldI_0, ldI_9, ldZ_2, ldL_1, ldQ_3, stI_0, stL_1, stZ_2, gF_o, pF_o, lenA_9, oB_some, vI_i, vJ_j, vR_r, Option.map_some, List.getElem?_cons_zero, List.getElem?_cons_succ, Nat.reduceDiv, Nat.reduceMod, Int.reduceToNat, true_and, and_true, false_and, reduceIte, List.set_cons_zero, List.set_cons_succ, Option.toList_some, Option.toList_none, List.cons_append, List.nil_append, List.length_cons, List.length_nil, Nat.reduceAdd, Nat.reduceLeDiff, Nat.reduceLT, Nat.reduceEqDiff, and_self, and_false, Bool.false_eq_true, iI_f, i32_0, i32_1, b2i_0, b2i_n, iI_add, iI_sub, iI_mul, iI_neg, iI_lt, iI_le, iI_eq, iI_in, iI_cl, i_nn, eq_self, true_or, or_true, not_true_eq_false, not_false_eq_true, Int.reduceEq, Int.reduceLT, Int.reduceLE, Int.reduceNeg]
    refine ite_t (by omega) ⟨by cases S <;> decide, hq⟩
  | succ d ih =>
    intro a s z5 z6 z7 z8 z9 hi l5 l6 l7 l8 l9 hs es
    have han : a < m f := by omega
    rw [B135_21, b135_21]
    cases hs' : s with
    | false =>
      have e : S = false := by rw [es, hs']; rfl
      simp (disch := omega) only [B135_231, b135_231, g_iconst, g_lconst, g_iadd, g_isub, g_imul, g_iand, g_ior, g_ishl, g_ishr, g_iushr, g_ladd, g_lsub, g_lmul, g_land, g_lor, g_lcmp, g_ineg, g_lshl, g_lshr, g_i2l, g_l2i, g_dupi, g_dupr, g_pop, g_dup2, g_mabs_0, g_mabs_1, g_mabs_2, g_mabs_3, g_mmax_0, g_mmax_1, g_mmax_2, g_mmax_3, g_mmin_0, g_mmin_1, g_mmin_2, g_mmin_3, g_goto, g_jsr, g_icmp_eq, g_icmp_ne, g_icmp_lt, g_icmp_ge, g_icmp_gt, g_icmp_le, g_if_eq, g_if_ne, g_if_lt, g_if_ge, g_if_gt, g_if_le, g_idiv, g_irem, g_ldiv, g_iload, g_lload, g_aload, g_istore, g_astore, g_lstore, g_iinc, g_getfield, g_putfield, g_iaload, g_baload, g_laload, g_aaload, g_iastore, g_bastore, g_lastore, g_arraylength, g_call0_0, g_call0_1, g_call0_2, g_call0_3, g_call0_4, g_call1_0, g_call1_1, g_call1_2, g_call1_3, g_call1_4, g_call2_0, g_call2_1, g_call2_2, g_call2_3, g_call2_4, g_call3_0, g_call3_1, g_call3_2, g_call3_3, g_call3_4, g_call4_0, g_call4_1, g_call4_2, g_call4_3, g_call4_4, g_call5_0, g_call5_1, g_call5_2, g_call5_3, g_call5_4, g_call6_0, g_call6_1, g_call6_2, g_call6_3, g_call6_4, g_ireturn, g_lreturn, g_return, g_zreturn, sto_0, sto_s, sto2_0, sto2_s, isL_i, isL_r, isL_l, isL_j, ldI_0, ldI_9, ldZ_2, ldL_1, ldQ_3, stI_0, stL_1, stZ_2, gF_o, pF_o, lenA_9, oB_some, vI_i, vJ_j, vR_r, Option.map_some, List.getElem?_cons_zero, List.getElem?_cons_succ, Nat.reduceDiv, Nat.reduceMod, Int.reduceToNat, true_and, and_true, false_and, reduceIte, List.set_cons_zero, List.set_cons_succ, Option.toList_some, Option.toList_none, List.cons_append, List.nil_append, List.length_cons, List.length_nil, Nat.reduceAdd, Nat.reduceLeDiff, Nat.reduceLT, Nat.reduceEqDiff, and_self, and_false, Bool.false_eq_true, iI_f, i32_0, i32_1, b2i_0, b2i_n, iI_add, iI_sub, iI_mul, iI_neg, iI_lt, iI_le, iI_eq, iI_in, iI_cl, i_nn, eq_self, true_or, or_true, not_true_eq_false, not_false_eq_true, Int.reduceEq, Int.reduceLT, Int.reduceLE, Int.reduceNeg]
      refine ite_f (by omega) ?_
      rw [e] at hq
      first
        | exact ⟨by decide, hq⟩
        | exact ite_t rfl ⟨by decide, hq⟩
        | exact hq
    | true =>
      have h2n := hs hs'
      have hna := nx_lt han
      have hnn := nx_lt hna
      have c2 := m_place hF hK hf (i := a + 2) (by omega) (by omega)
      rw [nx2_mod han h2n, show ((a + 2 : Nat) : Int) = (a : Int) + 2 by omega] at c2
      have cs := m_side hF hK (Pl.of hf han mp) (Pl.of hf hna mp) (Pl.of hf hnn mp)
      have sb := fok_sd hK (Pl.of hf han mp) (Pl.of hf hna mp) (Pl.of hf hnn mp)
      have db := dt_bdM hK (Pl.of hf han mp) (Pl.of hf hnn mp) (Pl.of hf hna mp)
      have fin : ∀ t : Bool, t = alM (fw x f) (fw y f) (m f) a → Go 135 (blk 135 146) [.ref 56, .int (iI f), .int (iI (m f)), .int (iI (b2i true)), .int (iI a), .int (iI ((10 * f + a : Nat) : Int)), .int (iI ((10 * f + nx (m f) a : Nat) : Int)), .int (iI ((10 * f + nx (m f) (nx (m f) a) : Nat) : Int)), z8, z9] [.int (iI (b2i t))] h Q := by
        intro t ht
        rw [anyF] at es
        rw [← ht, hs', Bool.true_and] at es
        have nxt : ∀ z (S' : Bool), S' = (!t && !anyF (mtM (fw x f) (fw y f) (m f) a) (a + 2) (m f - (a + 2))) → isL z = false → Go 135 (blk 135 225) [.ref 56, .int (iI f), .int (iI (m f)), .int (iI (b2i S')), .int (iI a), .int (iI ((10 * f + a : Nat) : Int)), .int (iI ((10 * f + nx (m f) a : Nat) : Int)), .int (iI ((10 * f + nx (m f) (nx (m f) a) : Nat) : Int)), .int (iI (b2i t)), z] [] h Q := by
          intro z S' e1 lz
          have w := ih (a + 1) S' (.int (iI ((10 * f + a : Nat) : Int))) (.int (iI ((10 * f + nx (m f) a : Nat) : Int))) (.int (iI ((10 * f + nx (m f) (nx (m f) a) : Nat) : Int))) (.int (iI (b2i t))) z (by omega) rfl rfl rfl rfl lz (fun _ => h2n) (by rw [es, e1, Bool.not_or, Bool.not_or, Bool.and_assoc])
          push_cast at w
          rw [B135_225, b135_225]
          simp (disch := omega) only [g_iconst, g_lconst, g_iadd, g_isub, g_imul, g_iand, g_ior, g_ishl, g_ishr, g_iushr, g_ladd, g_lsub, g_lmul, g_land, g_lor, g_lcmp, g_ineg, g_lshl, g_lshr, g_i2l, g_l2i, g_dupi, g_dupr, g_pop, g_dup2, g_mabs_0, g_mabs_1, g_mabs_2, g_mabs_3, g_mmax_0, g_mmax_1, g_mmax_2, g_mmax_3, g_mmin_0, g_mmin_1, g_mmin_2, g_mmin_3, g_goto, g_jsr, g_icmp_eq, g_icmp_ne, g_icmp_lt, g_icmp_ge, g_icmp_gt, g_icmp_le, g_if_eq, g_if_ne, g_if_lt, g_if_ge, g_if_gt, g_if_le, g_idiv, g_irem, g_ldiv, g_iload, g_lload, g_aload, g_istore, g_astore, g_lstore, g_iinc, g_getfield, g_putfield, g_iaload, g_baload, g_laload, g_aaload, g_iastore, g_bastore, g_lastore, g_arraylength, g_call0_0, g_call0_1, g_call0_2, g_call0_3, g_call0_4, g_call1_0, g_call1_1, g_call1_2, g_call1_3, g_call1_4, g_call2_0, g_call2_1, g_call2_2, g_call2_3, g_call2_4, g_call3_0, g_call3_1, g_call3_2, g_call3_3, g_call3_4, g_call4_0, g_call4_1, g_call4_2, g_call4_3, g_call4_4, g_call5_0, g_call5_1, g_call5_2, g_call5_3, g_call5_4, g_call6_0, g_call6_1, g_call6_2, g_call6_3, g_call6_4, g_ireturn, g_lreturn, g_return, g_zreturn, sto_0, sto_s, sto2_0, sto2_s, isL_i, isL_r, isL_l, isL_j, ldI_0, ldI_9, ldZ_2, ldL_1, ldQ_3, stI_0, stL_1, stZ_2, gF_o, pF_o, lenA_9, oB_some, vI_i, vJ_j, vR_r, Option.map_some, List.getElem?_cons_zero, List.getElem?_cons_succ, Nat.reduceDiv, Nat.reduceMod, Int.reduceToNat, true_and, and_true, false_and, reduceIte, List.set_cons_zero, List.set_cons_succ, Option.toList_some, Option.toList_none, List.cons_append, List.nil_append, List.length_cons, List.length_nil, Nat.reduceAdd, Nat.reduceLeDiff, Nat.reduceLT, Nat.reduceEqDiff, and_self, and_false, Bool.false_eq_true, iI_f, i32_0, i32_1, b2i_0, b2i_n, iI_add, iI_sub, iI_mul, iI_neg, iI_lt, iI_le, iI_eq, iI_in, iI_cl, i_nn, eq_self, true_or, or_true, not_true_eq_false, not_false_eq_true, Int.reduceEq, Int.reduceLT, Int.reduceLE, Int.reduceNeg]
          push_cast
          exact w
        simp (disch := omega) only [B135_146, b135_146, B135_157, b135_157, B135_158, b135_158, g_iconst, g_lconst, g_iadd, g_isub, g_imul, g_iand, g_ior, g_ishl, g_ishr, g_iushr, g_ladd, g_lsub, g_lmul, g_land, g_lor, g_lcmp, g_ineg, g_lshl, g_lshr, g_i2l, g_l2i, g_dupi, g_dupr, g_pop, g_dup2, g_mabs_0, g_mabs_1, g_mabs_2, g_mabs_3, g_mmax_0, g_mmax_1, g_mmax_2, g_mmax_3, g_mmin_0, g_mmin_1, g_mmin_2, g_mmin_3, g_goto, g_jsr, g_icmp_eq, g_icmp_ne, g_icmp_lt, g_icmp_ge, g_icmp_gt, g_icmp_le, g_if_eq, g_if_ne, g_if_lt, g_if_ge, g_if_gt, g_if_le, g_idiv, g_irem, g_ldiv, g_iload, g_lload, g_aload, g_istore, g_astore, g_lstore, g_iinc, g_getfield, g_putfield, g_iaload, g_baload, g_laload, g_aaload, g_iastore, g_bastore, g_lastore, g_arraylength, g_call0_0, g_call0_1, g_call0_2, g_call0_3, g_call0_4, g_call1_0, g_call1_1, g_call1_2, g_call1_3, g_call1_4, g_call2_0, g_call2_1, g_call2_2, g_call2_3, g_call2_4, g_call3_0, g_call3_1, g_call3_2, g_call3_3, g_call3_4, g_call4_0, g_call4_1, g_call4_2, g_call4_3, g_call4_4, g_call5_0, g_call5_1, g_call5_2, g_call5_3, g_call5_4, g_call6_0, g_call6_1, g_call6_2, g_call6_3, g_call6_4, g_ireturn, g_lreturn, g_return, g_zreturn, sto_0, sto_s, sto2_0, sto2_s, isL_i, isL_r, isL_l, isL_j, ldI_0, ldI_9, ldZ_2, ldL_1, ldQ_3, stI_0, stL_1, stZ_2, gF_o, pF_o, lenA_9, oB_some, vI_i, vJ_j, vR_r, Option.map_some, List.getElem?_cons_zero, List.getElem?_cons_succ, Nat.reduceDiv, Nat.reduceMod, Int.reduceToNat, true_and, and_true, false_and, reduceIte, List.set_cons_zero, List.set_cons_succ, Option.toList_some, Option.toList_none, List.cons_append, List.nil_append, List.length_cons, List.length_nil, Nat.reduceAdd, Nat.reduceLeDiff, Nat.reduceLT, Nat.reduceEqDiff, and_self, and_false, Bool.false_eq_true, l8, l9, iI_f, i32_0, i32_1, b2i_0, b2i_n, iI_add, iI_sub, iI_mul, iI_neg, iI_lt, iI_le, iI_eq, iI_in, iI_cl, i_nn, eq_self, true_or, or_true, not_true_eq_false, not_false_eq_true, Int.reduceEq, Int.reduceLT, Int.reduceLE, Int.reduceNeg]
        have w : ∀ s : Bool, s = !t → Go 135 (blk 135 165) [.ref 56, .int (iI f), .int (iI (m f)), .int (iI (b2i s)), .int (iI a), .int (iI ((10 * f + a : Nat) : Int)), .int (iI ((10 * f + nx (m f) a : Nat) : Int)), .int (iI ((10 * f + nx (m f) (nx (m f) a) : Nat) : Int)), .int (iI (b2i t)), .int (iI ((a + 2 : Nat) : Int))] [] h Q := fun s e =>
          l_mS2 hF hK hf han rfl (S := (!t && !anyF (mtM (fw x f) (fw y f) (m f) a) (a + 2) (m f - (a + 2)))) (fun z lz => nxt z _ rfl lz) (m f - (a + 2)) (a + 2) s (by omega) (by rw [e])
        have w1 := w true
        have w0 := w false
        rw [show b2i true = 1 from rfl] at w1
        rw [show b2i false = 0 from rfl] at w0
        push_cast at w1 w0
        push_cast
        cases t with
        | true => exact ite_t rfl (w0 rfl)
        | false => exact ite_f (by decide) (w1 rfl)
      have f1 := fin true
      have f0 := fin false
      rw [show b2i true = 1 from rfl] at f1
      rw [show b2i false = 0 from rfl] at f0
      simp only [show b2i true = 1 from rfl] at f0
      have edt : (x (10 * f + a) - x (10 * f + nx (m f) a)) * (x (10 * f + nx (m f) (nx (m f) a)) - x (10 * f + nx (m f) a)) + (y (10 * f + a) - y (10 * f + nx (m f) a)) * (y (10 * f + nx (m f) (nx (m f) a)) - y (10 * f + nx (m f) a)) = dt x y (10 * f + nx (m f) a) (10 * f + a) (10 * f + nx (m f) (nx (m f) a)) := rfl
      have p1 := (hK.at (Pl.of hf han mp)).1
      have p2 := (hK.at (Pl.of hf hna mp)).1
      have p3 := (hK.at (Pl.of hf hnn mp)).1
      simp (disch := omega) only [B135_145, b135_145, g_iconst, g_lconst, g_iadd, g_isub, g_imul, g_iand, g_ior, g_ishl, g_ishr, g_iushr, g_ladd, g_lsub, g_lmul, g_land, g_lor, g_lcmp, g_ineg, g_lshl, g_lshr, g_i2l, g_l2i, g_dupi, g_dupr, g_pop, g_dup2, g_mabs_0, g_mabs_1, g_mabs_2, g_mabs_3, g_mmax_0, g_mmax_1, g_mmax_2, g_mmax_3, g_mmin_0, g_mmin_1, g_mmin_2, g_mmin_3, g_goto, g_jsr, g_icmp_eq, g_icmp_ne, g_icmp_lt, g_icmp_ge, g_icmp_gt, g_icmp_le, g_if_eq, g_if_ne, g_if_lt, g_if_ge, g_if_gt, g_if_le, g_idiv, g_irem, g_ldiv, g_iload, g_lload, g_aload, g_istore, g_astore, g_lstore, g_iinc, g_getfield, g_putfield, g_iaload, g_baload, g_laload, g_aaload, g_iastore, g_bastore, g_lastore, g_arraylength, g_call0_0, g_call0_1, g_call0_2, g_call0_3, g_call0_4, g_call1_0, g_call1_1, g_call1_2, g_call1_3, g_call1_4, g_call2_0, g_call2_1, g_call2_2, g_call2_3, g_call2_4, g_call3_0, g_call3_1, g_call3_2, g_call3_3, g_call3_4, g_call4_0, g_call4_1, g_call4_2, g_call4_3, g_call4_4, g_call5_0, g_call5_1, g_call5_2, g_call5_3, g_call5_4, g_call6_0, g_call6_1, g_call6_2, g_call6_3, g_call6_4, g_ireturn, g_lreturn, g_return, g_zreturn, sto_0, sto_s, sto2_0, sto2_s, isL_i, isL_r, isL_l, isL_j, ldI_0, ldI_9, ldZ_2, ldL_1, ldQ_3, stI_0, stL_1, stZ_2, gF_o, pF_o, lenA_9, oB_some, vI_i, vJ_j, vR_r, Option.map_some, List.getElem?_cons_zero, List.getElem?_cons_succ, Nat.reduceDiv, Nat.reduceMod, Int.reduceToNat, true_and, and_true, false_and, reduceIte, List.set_cons_zero, List.set_cons_succ, Option.toList_some, Option.toList_none, List.cons_append, List.nil_append, List.length_cons, List.length_nil, Nat.reduceAdd, Nat.reduceLeDiff, Nat.reduceLT, Nat.reduceEqDiff, and_self, and_false, Bool.false_eq_true, ho, h1, h2, l5, l6, l7, l8, m_placeI hF hK hf han, m_placeN hF hK hf han, c2, cs, edt, show b2i true = 1 from rfl, iI_f, i32_0, i32_1, b2i_0, b2i_n, iI_add, iI_sub, iI_mul, iI_neg, iI_lt, iI_le, iI_eq, iI_in, iI_cl, i_nn, eq_self, true_or, or_true, not_true_eq_false, not_false_eq_true, Int.reduceEq, Int.reduceLT, Int.reduceLE, Int.reduceNeg]
      refine ite_f (by omega) (ite_c (fun c3 => ?_) (fun c3 => ite_c (fun c4 => ?_) (fun c4 => ?_)))
      · exact f0 (by unfold alM; rw [decide_eq_false (p := sd (fw x f) (fw y f) a (nx (m f) a) (nx (m f) (nx (m f) a)) = 0) c3]; rfl)
      · exact f0 (by unfold alM; rw [decide_eq_false (p := 0 < dt (fw x f) (fw y f) (nx (m f) a) a (nx (m f) (nx (m f) a))) (Int.not_lt.mpr c4), Bool.and_false])
      · exact f1 (by unfold alM; rw [decide_eq_true (p := 0 < dt (fw x f) (fw y f) (nx (m f) a) a (nx (m f) (nx (m f) a))) (Int.not_le.mp c4), decide_eq_true (p := sd (fw x f) (fw y f) a (nx (m f) a) (nx (m f) (nx (m f) a)) = 0) (Classical.byContradiction c3)]; rfl)
set_option maxRecDepth 10000 in
theorem m_isSound {h : fH} {o : MO} {x y : Nat → Int} {m : Nat → Nat} (hF : Fld h o x y m) (hK : Fok x y m) {f : Nat} (hf : f < 4) (Q : Option Value → fH → Prop) : Call 135 [.ref 56, .int (iI f)] h Q ↔ Q (some (.int (iI (b2i (snM (fw x f) (fw y f) (m f)))))) h := by
  obtain ⟨ho, h1, h2, h3⟩ := id hF; unfold Mob at ho; unfold Row at h1 h2 h3
  have mp := (hK f hf).1
  refine Call.iff ⟨by simp [vOK, entL, isL, mlT, kdT, clT, isO, ho], rfl, ?_⟩ Q
  rw [show ent 135 [.ref 56, .int (iI f)] = [.ref 56, .int (iI f), jk, jk, jk, jk, jk, jk, jk, jk] from rfl]
  simp (disch := omega) only [B135_0, b135_0, B135_16, b135_16, B135_17, b135_17, g_iconst, g_lconst, g_iadd, g_isub, g_imul, g_iand, g_ior, g_ishl, g_ishr, g_iushr, g_ladd, g_lsub, g_lmul, g_land, g_lor, g_lcmp, g_ineg, g_lshl, g_lshr, g_i2l, g_l2i, g_dupi, g_dupr, g_pop, g_dup2, g_mabs_0, g_mabs_1, g_mabs_2, g_mabs_3, g_mmax_0, g_mmax_1, g_mmax_2, g_mmax_3, g_mmin_0, g_mmin_1, g_mmin_2, g_mmin_3, g_goto, g_jsr, g_icmp_eq, g_icmp_ne, g_icmp_lt, g_icmp_ge, g_icmp_gt, g_icmp_le, g_if_eq, g_if_ne, g_if_lt, g_if_ge, g_if_gt, g_if_le, g_idiv, g_irem, g_ldiv, g_iload, g_lload, g_aload, g_istore, g_astore, g_lstore, g_iinc, g_getfield, g_putfield, g_iaload, g_baload, g_laload, g_aaload, g_iastore, g_bastore, g_lastore, g_arraylength, g_call0_0, g_call0_1, g_call0_2, g_call0_3, g_call0_4, g_call1_0, g_call1_1, g_call1_2, g_call1_3, g_call1_4, g_call2_0, g_call2_1, g_call2_2, g_call2_3, g_call2_4, g_call3_0, g_call3_1, g_call3_2, g_call3_3, g_call3_4, g_call4_0, g_call4_1, g_call4_2, g_call4_3, g_call4_4, g_call5_0, g_call5_1, g_call5_2, g_call5_3, g_call5_4, g_call6_0, g_call6_1, g_call6_2, g_call6_3, g_call6_4, g_ireturn, g_lreturn, g_return, g_zreturn, sto_0, sto_s, sto2_0, sto2_s, isL_i, isL_r, isL_l, isL_j, ldI_0, ldI_9, ldZ_2, ldL_1, ldQ_3, stI_0, stL_1, stZ_2, gF_o, pF_o, lenA_9, oB_some, vI_i, vJ_j, vR_r, Option.map_some, List.getElem?_cons_zero, List.getElem?_cons_succ, Nat.reduceDiv, Nat.reduceMod, Int.reduceToNat, true_and, and_true, false_and, reduceIte, List.set_cons_zero, List.set_cons_succ, Option.toList_some, Option.toList_none, List.cons_append, List.nil_append, List.length_cons, List.length_nil, Nat.reduceAdd, Nat.reduceLeDiff, Nat.reduceLT, Nat.reduceEqDiff, and_self, and_false, Bool.false_eq_true, ho, h3, isL, jk, iI_f, i32_0, i32_1, b2i_0, b2i_n, iI_add, iI_sub, iI_mul, iI_neg, iI_lt, iI_le, iI_eq, iI_in, iI_cl, i_nn, eq_self, true_or, or_true, not_true_eq_false, not_false_eq_true, Int.reduceEq, Int.reduceLT, Int.reduceLE, Int.reduceNeg]
  refine ite_c (fun c1 => ?_) (fun c1 => ?_)
  · have e : snM (fw x f) (fw y f) (m f) = false := by unfold snM; rw [decide_eq_false (by omega)]; rfl
    have w := l_mS1 (Q := fun v h2 => v = some (.int (iI (b2i (snM (fw x f) (fw y f) (m f))))) ∧ h2 = h) hF hK hf (S := false) ⟨by rw [e], rfl⟩ (m f) 0 false jk jk jk jk jk (by omega) rfl rfl rfl rfl rfl (fun q => by cases q) rfl
    exact w
  · exact l_mS1 (Q := fun v h2 => v = some (.int (iI (b2i (snM (fw x f) (fw y f) (m f))))) ∧ h2 = h) hF hK hf (S := snM (fw x f) (fw y f) (m f)) ⟨rfl, rfl⟩ (m f) 0 true jk jk jk jk jk (by omega) rfl rfl rfl rfl rfl (fun _ => by omega) (by unfold snM; rw [decide_eq_true (by omega)])
