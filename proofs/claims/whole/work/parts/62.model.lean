/-! The reference: maps, alike, mirrored. -/
theorem f_st_2 (h : fH) (a : Nat) (e e' : fE) : f_st (f_st h a e) a e' = f_st h a e' := by
  unfold f_st
  refine Prod.ext rfl (Prod.ext rfl ?_)
  funext j
  simp only [f_up]
  split <;> rfl
theorem fk211 : fk 211 = 0 := rfl
theorem fk212 : fk 212 = 0 := rfl
theorem fk213 : fk 213 = 0 := rfl
theorem fk214 : fk 214 = 0 := rfl
theorem fk215 : fk 215 = 0 := rfl
theorem dv_b {a b : Int} (h : -450 ≤ a ∧ a ≤ 450) : -450 ≤ a.tdiv b ∧ a.tdiv b ≤ 450 := tdv_bd h.1 h.2
theorem tm_b {a b : Int} (h : -450 ≤ a ∧ a ≤ 450) : -450 ≤ a.tmod b ∧ a.tmod b ≤ 450 := by
  have h1 : (a.tmod b).natAbs ≤ a.natAbs := by rw [Int.natAbs_tmod]; exact Nat.mod_le _ _
  omega
set_option maxRecDepth 10000 in
set_option maxHeartbeats 2000000 in
theorem l_map3 {h : fH} {o : MO} {x y : Nat → Int} {m : Nat → Nat} (hF : Fld h o x y m) (hK : Fok x y m) {f g T q s t : Nat} (hf : f < 4) (hg : g < 4) (emg : m g = m f) (h1n : 1 < m f) (hT : T < m f) (hq' : q < m g) (hs' : s < m g) (ht' : t < m g) {fr st r : Int} (hfr : 0 ≤ fr ∧ fr < m f) (hst : st = 1 ∨ st = -1) (hK0 : (sd (fw x f) (fw y f) 0 1 T) ≠ 0) (eA : o.2.2.2 = ((mpA (fw y f) (fw x g) T q s t), (mpB (fw x f) (fw x g) T q s t), (mpA (fw y f) (fw y g) T q s t), (mpB (fw x f) (fw y g) T q s t), (sd (fw x f) (fw y f) 0 1 T))) {S : Bool} {Q : Option Value → fH → Prop} (hq : Q (some (.int (iI (b2i S)))) h) : ∀ (d c : Nat) (b : Bool) (z13 z16 z17 z18 z19 : Value), c + d = m f → isL z16 = false → isL z17 = false → isL z18 = false → S = (b && !anyF (fun c => !mpE (fw x f) (fw y f) (fw x g) (fw y g) T q s t (sd (fw x f) (fw y f) 0 1 T) (sd (fw x f) (fw y f) 0 1 T) c (plz (m f) (fr + st * c))) c d) →
    Go 175 (blk 175 489) [.ref 56, .int (iI f), .int (iI g), .int (iI fr), .int (iI st), .int (iI r), .int (iI T), .int (iI ((10 * f + 0 : Nat) : Int)), .int (iI ((10 * f + 1 : Nat) : Int)), .int (iI ((10 * f + T : Nat) : Int)), .int (iI ((10 * g + q : Nat) : Int)), .int (iI ((10 * g + s : Nat) : Int)), .int (iI ((10 * g + t : Nat) : Int)), z13, .int (iI (b2i b)), .int (iI c), z16, z17, z18, z19] [] h Q := by
  obtain ⟨ho, h1, h2, h3⟩ := id hF; unfold Mob at ho; unfold Row at h1 h2 h3
  have mp := (hK f hf).1
  obtain ⟨A1, C1, B1, D1⟩ := mpA_bd hK hf hg h1n hT hq' hs' ht'
  have kb := fok_sd hK (Pl.of hf (show 0 < m f by omega) mp) (Pl.of hf h1n mp) (Pl.of hf hT mp)
  have ek : sd x y (10 * f + 0) (10 * f + 1) (10 * f + T) = (sd (fw x f) (fw y f) 0 1 T) := rfl
  rw [ek] at kb
  have a1 := dv_b (b := (sd (fw x f) (fw y f) 0 1 T)) A1
  have b1 := dv_b (b := (sd (fw x f) (fw y f) 0 1 T)) B1
  have c1 := dv_b (b := (sd (fw x f) (fw y f) 0 1 T)) C1
  have d1 := dv_b (b := (sd (fw x f) (fw y f) 0 1 T)) D1
  have hK0' : ((sd (fw x f) (fw y f) 0 1 T) = 0) ↔ False := ⟨hK0, False.elim⟩
  have eA1 : o.2.2.2.1 = (mpA (fw y f) (fw x g) T q s t) := by rw [eA]
  have eA2 : o.2.2.2.2.1 = (mpB (fw x f) (fw x g) T q s t) := by rw [eA]
  have eA3 : o.2.2.2.2.2.1 = (mpA (fw y f) (fw y g) T q s t) := by rw [eA]
  have eA4 : o.2.2.2.2.2.2.1 = (mpB (fw x f) (fw y g) T q s t) := by rw [eA]
  have eA5 : o.2.2.2.2.2.2.2 = (sd (fw x f) (fw y f) 0 1 T) := by rw [eA]
  rw [eA1, eA2, eA3, eA4, eA5] at ho
  have pq := (hK.at (Pl.of hg hq' (hK g hg).1)).1
  have p0 := (hK.at (Pl.of hf (show 0 < m f by omega) mp)).1
  intro d
  induction d with
  | zero =>
    intro c b z13 z16 z17 z18 z19 hc l16 l17 l18 es
    rw [anyF, Bool.not_false, Bool.and_true] at es
    subst es
    rw [B175_489, b175_489]
    simp (disch := omega) only [B175_661, b175_661, g_iconst, g_lconst, g_iadd, g_isub, g_imul, g_iand, g_ior, g_ishl, g_ishr, g_iushr, g_ladd, g_lsub, g_lmul, g_land, g_lor, g_lcmp, g_ineg, g_lshl, g_lshr, g_i2l, g_l2i, g_dupi, g_dupr, g_pop, g_dup2, g_mabs_0, g_mabs_1, g_mabs_2, g_mabs_3, g_mmax_0, g_mmax_1, g_mmax_2, g_mmax_3, g_mmin_0, g_mmin_1, g_mmin_2, g_mmin_3, g_goto, g_jsr, g_icmp_eq, g_icmp_ne, g_icmp_lt, g_icmp_ge, g_icmp_gt, g_icmp_le, g_if_eq, g_if_ne, g_if_lt, g_if_ge, g_if_gt, g_if_le, g_idiv, g_irem, g_ldiv, g_iload, g_lload, g_aload, g_istore, g_astore, g_lstore, g_iinc, g_getfield, g_putfield, g_iaload, g_baload, g_laload, g_aaload, g_iastore, g_bastore, g_lastore, g_arraylength, g_call0_0, g_call0_1, g_call0_2, g_call0_3, g_call0_4, g_call1_0, g_call1_1, g_call1_2, g_call1_3, g_call1_4, g_call2_0, g_call2_1, g_call2_2, g_call2_3, g_call2_4, g_call3_0, g_call3_1, g_call3_2, g_call3_3, g_call3_4, g_call4_0, g_call4_1, g_call4_2, g_call4_3, g_call4_4, g_call5_0, g_call5_1, g_call5_2, g_call5_3, g_call5_4, g_call6_0, g_call6_1, g_call6_2, g_call6_3, g_call6_4, g_ireturn, g_lreturn, g_return, g_zreturn, sto_0, sto_s, sto2_0, sto2_s, isL_i, isL_r, isL_l, isL_j, ldI_0, ldI_9, ldZ_2, ldL_1, ldQ_3, stI_0, stL_1, stZ_2, gF_o, pF_o, lenA_9, oB_some, vI_i, vJ_j, vR_r, Option.map_some, List.getElem?_cons_zero, List.getElem?_cons_succ, Nat.reduceDiv, Nat.reduceMod, Int.reduceToNat, true_and, and_true, false_and, reduceIte, List.set_cons_zero, List.set_cons_succ, Option.toList_some, Option.toList_none, List.cons_append, List.nil_append, List.length_cons, List.length_nil, Nat.reduceAdd, Nat.reduceLeDiff, Nat.reduceLT, Nat.reduceEqDiff, and_self, and_false, Bool.false_eq_true, ho, h3, iI_f, i32_0, i32_1, b2i_0, b2i_n, iI_add, iI_sub, iI_mul, iI_neg, iI_lt, iI_le, iI_eq, iI_in, iI_cl, i_nn, eq_self, true_or, or_true, not_true_eq_false, not_false_eq_true, Int.reduceEq, Int.reduceLT, Int.reduceLE, Int.reduceNeg]
    exact ite_t (by omega) ⟨by cases S <;> decide, hq⟩
  | succ d ih =>
    intro c b z13 z16 z17 z18 z19 hc l16 l17 l18 es
    rw [anyF] at es
    have hcn : c < m f := by omega
    rw [B175_489, b175_489]
    cases hb : b with
    | false =>
      rw [hb] at es
      have e : S = false := by rw [es]; rfl
      rw [e] at hq
      simp (disch := omega) only [B175_661, b175_661, g_iconst, g_lconst, g_iadd, g_isub, g_imul, g_iand, g_ior, g_ishl, g_ishr, g_iushr, g_ladd, g_lsub, g_lmul, g_land, g_lor, g_lcmp, g_ineg, g_lshl, g_lshr, g_i2l, g_l2i, g_dupi, g_dupr, g_pop, g_dup2, g_mabs_0, g_mabs_1, g_mabs_2, g_mabs_3, g_mmax_0, g_mmax_1, g_mmax_2, g_mmax_3, g_mmin_0, g_mmin_1, g_mmin_2, g_mmin_3, g_goto, g_jsr, g_icmp_eq, g_icmp_ne, g_icmp_lt, g_icmp_ge, g_icmp_gt, g_icmp_le, g_if_eq, g_if_ne, g_if_lt, g_if_ge, g_if_gt, g_if_le, g_idiv, g_irem, g_ldiv, g_iload, g_lload, g_aload, g_istore, g_astore, g_lstore, g_iinc, g_getfield, g_putfield, g_iaload, g_baload, g_laload, g_aaload, g_iastore, g_bastore, g_lastore, g_arraylength, g_call0_0, g_call0_1, g_call0_2, g_call0_3, g_call0_4, g_call1_0, g_call1_1, g_call1_2, g_call1_3, g_call1_4, g_call2_0, g_call2_1, g_call2_2, g_call2_3, g_call2_4, g_call3_0, g_call3_1, g_call3_2, g_call3_3, g_call3_4, g_call4_0, g_call4_1, g_call4_2, g_call4_3, g_call4_4, g_call5_0, g_call5_1, g_call5_2, g_call5_3, g_call5_4, g_call6_0, g_call6_1, g_call6_2, g_call6_3, g_call6_4, g_ireturn, g_lreturn, g_return, g_zreturn, sto_0, sto_s, sto2_0, sto2_s, isL_i, isL_r, isL_l, isL_j, ldI_0, ldI_9, ldZ_2, ldL_1, ldQ_3, stI_0, stL_1, stZ_2, gF_o, pF_o, lenA_9, oB_some, vI_i, vJ_j, vR_r, Option.map_some, List.getElem?_cons_zero, List.getElem?_cons_succ, Nat.reduceDiv, Nat.reduceMod, Int.reduceToNat, true_and, and_true, false_and, reduceIte, List.set_cons_zero, List.set_cons_succ, Option.toList_some, Option.toList_none, List.cons_append, List.nil_append, List.length_cons, List.length_nil, Nat.reduceAdd, Nat.reduceLeDiff, Nat.reduceLT, Nat.reduceEqDiff, and_self, and_false, Bool.false_eq_true, ho, h3, iI_f, i32_0, i32_1, b2i_0, b2i_n, iI_add, iI_sub, iI_mul, iI_neg, iI_lt, iI_le, iI_eq, iI_in, iI_cl, i_nn, eq_self, true_or, or_true, not_true_eq_false, not_false_eq_true, Int.reduceEq, Int.reduceLT, Int.reduceLE, Int.reduceNeg]
      refine ite_f (by omega) ?_
      first
        | exact ⟨by decide, hq⟩
        | exact ite_t rfl ⟨by decide, hq⟩
        | exact hq
    | true =>
      rw [hb, Bool.true_and] at es
      have e0 : st * (c : Int) = (c : Int) ∨ st * (c : Int) = -(c : Int) := by
        rcases hst with e | e
        · left; rw [e, Int.one_mul]
        · right; rw [e, Int.neg_mul, Int.one_mul]
      have pz := m_placeZ hF hK hg (k := fr + st * (c : Int)) (by omega) (by omega) (by omega)
      rw [emg] at pz
      have tl := plz_lt (show 0 < m f by omega) (fr + st * (c : Int))
      have qc := (hK f hf).2 c hcn
      have q0 := (hK f hf).2 0 (by omega)
      have qq := (hK g hg).2 q hq'
      have qt := (hK g hg).2 (plz (m f) (fr + st * (c : Int))) (by omega)
      have pc := (hK.at (Pl.of hf hcn mp)).1
      have pt := (hK.at (Pl.of hg (show plz (m f) (fr + st * (c : Int)) < m g by omega) (hK g hg).1)).1
      have k1 := mul_bd (a := (mpA (fw y f) (fw x g) T q s t).tdiv (sd (fw x f) (fw y f) 0 1 T)) (b := x (10 * f + c) - x (10 * f + 0)) (M := 450) (N := 15) (by omega) (by omega) (by omega) (by omega) (by omega) (by omega)
      have k2 := mul_bd (a := (mpB (fw x f) (fw x g) T q s t).tdiv (sd (fw x f) (fw y f) 0 1 T)) (b := y (10 * f + c) - y (10 * f + 0)) (M := 450) (N := 15) (by omega) (by omega) (by omega) (by omega) (by omega) (by omega)
      have k3 := mul_bd (a := (mpA (fw y f) (fw y g) T q s t).tdiv (sd (fw x f) (fw y f) 0 1 T)) (b := x (10 * f + c) - x (10 * f + 0)) (M := 450) (N := 15) (by omega) (by omega) (by omega) (by omega) (by omega) (by omega)
      have k4 := mul_bd (a := (mpB (fw x f) (fw y g) T q s t).tdiv (sd (fw x f) (fw y f) 0 1 T)) (b := y (10 * f + c) - y (10 * f + 0)) (M := 450) (N := 15) (by omega) (by omega) (by omega) (by omega) (by omega) (by omega)
      have w1 := fun z13 => ih (c + 1) true z13 (.int (iI ((10 * f + c : Nat) : Int))) (.int (iI ((10 * g + plz (m f) (fr + st * (c : Int)) : Nat) : Int))) (.int (iI (x (10 * f + c) - x (10 * f + 0)))) (.int (iI (y (10 * f + c) - y (10 * f + 0)))) (by omega) rfl rfl rfl
      have w0 := fun z13 => ih (c + 1) false z13 (.int (iI ((10 * f + c : Nat) : Int))) (.int (iI ((10 * g + plz (m f) (fr + st * (c : Int)) : Nat) : Int))) (.int (iI (x (10 * f + c) - x (10 * f + 0)))) (.int (iI (y (10 * f + c) - y (10 * f + 0)))) (by omega) rfl rfl rfl
      simp only [show b2i true = 1 from rfl, show ((c + 1 : Nat) : Int) = (c : Int) + 1 by omega] at w1
      simp only [show b2i false = 0 from rfl, show ((c + 1 : Nat) : Int) = (c : Int) + 1 by omega] at w0
      simp (maxSteps := 2000000) (disch := omega) only [B175_652, b175_652, B175_653, b175_653, g_iconst, g_lconst, g_iadd, g_isub, g_imul, g_iand, g_ior, g_ishl, g_ishr, g_iushr, g_ladd, g_lsub, g_lmul, g_land, g_lor, g_lcmp, g_ineg, g_lshl, g_lshr, g_i2l, g_l2i, g_dupi, g_dupr, g_pop, g_dup2, g_mabs_0, g_mabs_1, g_mabs_2, g_mabs_3, g_mmax_0, g_mmax_1, g_mmax_2, g_mmax_3, g_mmin_0, g_mmin_1, g_mmin_2, g_mmin_3, g_goto, g_jsr, g_icmp_eq, g_icmp_ne, g_icmp_lt, g_icmp_ge, g_icmp_gt, g_icmp_le, g_if_eq, g_if_ne, g_if_lt, g_if_ge, g_if_gt, g_if_le, g_idiv, g_irem, g_ldiv, g_iload, g_lload, g_aload, g_istore, g_astore, g_lstore, g_iinc, g_getfield, g_putfield, g_iaload, g_baload, g_laload, g_aaload, g_iastore, g_bastore, g_lastore, g_arraylength, g_call0_0, g_call0_1, g_call0_2, g_call0_3, g_call0_4, g_call1_0, g_call1_1, g_call1_2, g_call1_3, g_call1_4, g_call2_0, g_call2_1, g_call2_2, g_call2_3, g_call2_4, g_call3_0, g_call3_1, g_call3_2, g_call3_3, g_call3_4, g_call4_0, g_call4_1, g_call4_2, g_call4_3, g_call4_4, g_call5_0, g_call5_1, g_call5_2, g_call5_3, g_call5_4, g_call6_0, g_call6_1, g_call6_2, g_call6_3, g_call6_4, g_ireturn, g_lreturn, g_return, g_zreturn, sto_0, sto_s, sto2_0, sto2_s, isL_i, isL_r, isL_l, isL_j, ldI_0, ldI_9, ldZ_2, ldL_1, ldQ_3, stI_0, stL_1, stZ_2, gF_o, pF_o, lenA_9, oB_some, vI_i, vJ_j, vR_r, Option.map_some, List.getElem?_cons_zero, List.getElem?_cons_succ, Nat.reduceDiv, Nat.reduceMod, Int.reduceToNat, true_and, and_true, false_and, reduceIte, List.set_cons_zero, List.set_cons_succ, Option.toList_some, Option.toList_none, List.cons_append, List.nil_append, List.length_cons, List.length_nil, Nat.reduceAdd, Nat.reduceLeDiff, Nat.reduceLT, Nat.reduceEqDiff, and_self, and_false, Bool.false_eq_true, ho, h1, h2, h3, l16, l17, l18, m_placeI hF hK hf hcn, pz, iI_div, hK0', show b2i true = 1 from rfl, iI_f, i32_0, i32_1, b2i_0, b2i_n, iI_add, iI_sub, iI_mul, iI_neg, iI_lt, iI_le, iI_eq, iI_in, iI_cl, i_nn, eq_self, true_or, or_true, not_true_eq_false, not_false_eq_true, Int.reduceEq, Int.reduceLT, Int.reduceLE, Int.reduceNeg]
      refine ite_f (by omega) (ite_c (fun c2 => ?_) (fun c2 => ite_c (fun c3 => ?_) (fun c3 => ?_)))
      · exact w0 _ (by
          have e : mpE (fw x f) (fw y f) (fw x g) (fw y g) T q s t (sd (fw x f) (fw y f) 0 1 T) (sd (fw x f) (fw y f) 0 1 T) c (plz (m f) (fr + st * (c : Int))) = false := by unfold mpE; rw [decide_eq_false (show ¬ (mpA (fw y f) (fw x g) T q s t).tdiv (sd (fw x f) (fw y f) 0 1 T) * (fw x f c - fw x f 0) + (mpB (fw x f) (fw x g) T q s t).tdiv (sd (fw x f) (fw y f) 0 1 T) * (fw y f c - fw y f 0) = fw x g (plz (m f) (fr + st * (c : Int))) - fw x g q from c2)]; rfl
          rw [es, e]; rfl)
      · exact w0 _ (by
          have e : mpE (fw x f) (fw y f) (fw x g) (fw y g) T q s t (sd (fw x f) (fw y f) 0 1 T) (sd (fw x f) (fw y f) 0 1 T) c (plz (m f) (fr + st * (c : Int))) = false := by unfold mpE; rw [decide_eq_false (show ¬ (mpA (fw y f) (fw y g) T q s t).tdiv (sd (fw x f) (fw y f) 0 1 T) * (fw x f c - fw x f 0) + (mpB (fw x f) (fw y g) T q s t).tdiv (sd (fw x f) (fw y f) 0 1 T) * (fw y f c - fw y f 0) = fw y g (plz (m f) (fr + st * (c : Int))) - fw y g q from c3), Bool.and_false]
          rw [es, e]; rfl)
      · exact w1 _ (by
          have e : mpE (fw x f) (fw y f) (fw x g) (fw y g) T q s t (sd (fw x f) (fw y f) 0 1 T) (sd (fw x f) (fw y f) 0 1 T) c (plz (m f) (fr + st * (c : Int))) = true := by unfold mpE; rw [decide_eq_true (show (mpA (fw y f) (fw x g) T q s t).tdiv (sd (fw x f) (fw y f) 0 1 T) * (fw x f c - fw x f 0) + (mpB (fw x f) (fw x g) T q s t).tdiv (sd (fw x f) (fw y f) 0 1 T) * (fw y f c - fw y f 0) = fw x g (plz (m f) (fr + st * (c : Int))) - fw x g q from Classical.byContradiction c2), decide_eq_true (show (mpA (fw y f) (fw y g) T q s t).tdiv (sd (fw x f) (fw y f) 0 1 T) * (fw x f c - fw x f 0) + (mpB (fw x f) (fw y g) T q s t).tdiv (sd (fw x f) (fw y f) 0 1 T) * (fw y f c - fw y f 0) = fw y g (plz (m f) (fr + st * (c : Int))) - fw y g q from Classical.byContradiction c3)]; rfl
          rw [es, e]; simp)
