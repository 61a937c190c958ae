/-! The reference: maps of one field onto another. -/
/-- the corner that is k steps on -/
def plz (n : Nat) (k : Int) : Nat := (k + (n : Int)).toNat % n
theorem plz_lt {n : Nat} (h : 0 < n) (k : Int) : plz n k < n := Nat.mod_lt _ h
set_option maxRecDepth 10000 in
theorem m_placeZ {h : fH} {o : MO} {x y : Nat → Int} {m : Nat → Nat} (hF : Fld h o x y m) (hK : Fok x y m) {f : Nat} {k : Int} (hf : f < 4) (h0 : 0 < m f) (h1 : -(m f : Int) < k) (h2 : k < 1000) (Q : Option Value → fH → Prop) : Call 130 [.ref 56, .int (iI f), .int (iI k)] h Q ↔ Q (some (.int (iI ((10 * f + plz (m f) k : Nat) : Int)))) h := by
  obtain ⟨ho, g1, g2, g3⟩ := id hF
  unfold Mob at ho
  unfold Row at g1 g2 g3
  have mp := (hK f hf).1
  refine Call.iff ⟨by simp [vOK, entL, isL, mlT, kdT, clT, isO, ho], rfl, ?_⟩ Q
  rw [show ent 130 [.ref 56, .int (iI f), .int (iI k)] = [.ref 56, .int (iI f), .int (iI k)] from rfl]
  have e1 : -1000 ≤ k.tmod (m f : Int) ∧ k.tmod (m f : Int) < 1000 ∧ (k.tmod (m f : Int) + (m f : Int)).tmod (m f : Int) = ((plz (m f) k : Nat) : Int) := by
    by_cases c : 0 ≤ k
    · obtain ⟨j, rfl⟩ : ∃ j : Nat, k = (j : Int) := ⟨k.toNat, by omega⟩
      have l1 : j % m f < m f := Nat.mod_lt _ h0
      rw [tm_n, show ((j % m f : Nat) : Int) + (m f : Int) = ((j % m f + m f : Nat) : Int) by omega, tm_n, Nat.add_mod_right, Nat.mod_mod]
      refine ⟨by omega, by omega, ?_⟩
      unfold plz
      rw [show ((j : Int) + (m f : Int)).toNat = j + m f by omega, Nat.add_mod_right]
    · obtain ⟨j, rfl⟩ : ∃ j : Nat, k = -(j : Int) := ⟨(-k).toNat, by omega⟩
      have e : (-(j : Int)).tmod (m f : Int) = -(j : Int) := by rw [Int.neg_tmod, tm_n, Nat.mod_eq_of_lt (by omega)]
      rw [e, show -(j : Int) + (m f : Int) = ((m f - j : Nat) : Int) by omega, tm_n]
      refine ⟨by omega, by omega, ?_⟩
      unfold plz
      rw [show (-(j : Int) + (m f : Int)).toNat = m f - j by omega]
  simp (disch := omega) only [B130_0, b130_0, g_iconst, g_lconst, g_iadd, g_isub, g_imul, g_iand, g_ior, g_ishl, g_ishr, g_iushr, g_ladd, g_lsub, g_lmul, g_land, g_lor, g_lcmp, g_ineg, g_lshl, g_lshr, g_i2l, g_l2i, g_dupi, g_dupr, g_pop, g_dup2, g_mabs_0, g_mabs_1, g_mabs_2, g_mabs_3, g_mmax_0, g_mmax_1, g_mmax_2, g_mmax_3, g_mmin_0, g_mmin_1, g_mmin_2, g_mmin_3, g_goto, g_jsr, g_icmp_eq, g_icmp_ne, g_icmp_lt, g_icmp_ge, g_icmp_gt, g_icmp_le, g_if_eq, g_if_ne, g_if_lt, g_if_ge, g_if_gt, g_if_le, g_idiv, g_irem, g_ldiv, g_iload, g_lload, g_aload, g_istore, g_astore, g_lstore, g_iinc, g_getfield, g_putfield, g_iaload, g_baload, g_laload, g_aaload, g_iastore, g_bastore, g_lastore, g_arraylength, g_call0_0, g_call0_1, g_call0_2, g_call0_3, g_call0_4, g_call1_0, g_call1_1, g_call1_2, g_call1_3, g_call1_4, g_call2_0, g_call2_1, g_call2_2, g_call2_3, g_call2_4, g_call3_0, g_call3_1, g_call3_2, g_call3_3, g_call3_4, g_call4_0, g_call4_1, g_call4_2, g_call4_3, g_call4_4, g_call5_0, g_call5_1, g_call5_2, g_call5_3, g_call5_4, g_call6_0, g_call6_1, g_call6_2, g_call6_3, g_call6_4, g_ireturn, g_lreturn, g_return, g_zreturn, sto_0, sto_s, sto2_0, sto2_s, isL_i, isL_r, isL_l, isL_j, ldI_0, ldI_9, ldZ_2, ldL_1, ldQ_3, stI_0, stL_1, stZ_2, gF_o, pF_o, lenA_9, oB_some, vI_i, vJ_j, vR_r, Option.map_some, List.getElem?_cons_zero, List.getElem?_cons_succ, Nat.reduceDiv, Nat.reduceMod, Int.reduceToNat, true_and, and_true, false_and, reduceIte, List.set_cons_zero, List.set_cons_succ, Option.toList_some, Option.toList_none, List.cons_append, List.nil_append, List.length_cons, List.length_nil, Nat.reduceAdd, Nat.reduceLeDiff, Nat.reduceLT, Nat.reduceEqDiff, and_self, and_false, Bool.false_eq_true, ho, g3, iI_rem, e1.2.2, iI_f, i32_0, i32_1, b2i_0, b2i_n, iI_add, iI_sub, iI_mul, iI_neg, iI_lt, iI_le, iI_eq, iI_in, iI_cl, i_nn, eq_self, true_or, or_true, not_true_eq_false, not_false_eq_true, Int.reduceEq, Int.reduceLT, Int.reduceLE, Int.reduceNeg]
  refine ⟨by omega, by omega, ?_⟩
  congr 3
/-- the numbers of the map that brings three corners onto three -/
def mpA (Y U : Nat → Int) (T q s t : Nat) : Int := (U s - U q) * (Y T - Y 0) - (U t - U q) * (Y 1 - Y 0)
def mpB (X U : Nat → Int) (T q s t : Nat) : Int := (U t - U q) * (X 1 - X 0) - (U s - U q) * (X T - X 0)
def mpE (X Y U V : Nat → Int) (T q s t : Nat) (a b : Int) (c to : Nat) : Bool := decide ((mpA Y U T q s t).tdiv a * (X c - X 0) + (mpB X U T q s t).tdiv a * (Y c - Y 0) = U to - U q) && decide ((mpA Y V T q s t).tdiv b * (X c - X 0) + (mpB X V T q s t).tdiv b * (Y c - Y 0) = V to - V q)
def mpW (X Y U V : Nat → Int) (T q s t : Nat) (a : Int) : Bool := decide ((mpA Y U T q s t).tmod a = 0) && decide ((mpB X U T q s t).tmod a = 0) && decide ((mpA Y V T q s t).tmod a = 0) && decide ((mpB X V T q s t).tmod a = 0)
def mpI (X Y U V : Nat → Int) (T q s t : Nat) (a r : Int) : Bool := mpW X Y U V T q s t a && decide ((mpA Y U T q s t).tdiv a * (mpB X V T q s t).tdiv a - (mpB X U T q s t).tdiv a * (mpA Y V T q s t).tdiv a = r)
/-- does a map bring corner c onto the corner that is st c steps on from fr -/
def mpM (X Y U V : Nat → Int) (n T : Nat) (fr st r : Int) : Bool := mpI X Y U V T (plz n fr) (plz n (fr + st)) (plz n (fr + st * T)) (sd X Y 0 1 T) r && !anyF (fun c => !mpE X Y U V T (plz n fr) (plz n (fr + st)) (plz n (fr + st * T)) (sd X Y 0 1 T) (sd X Y 0 1 T) c (plz n (fr + st * c))) 0 n
/-- the first corner that is in no line with corners 0 and 1 -/
def thd (X Y : Nat → Int) (n T : Nat) : Prop := 2 ≤ T ∧ T < n ∧ sd X Y 0 1 T ≠ 0 ∧ ∀ k, 2 ≤ k → k < T → sd X Y 0 1 k = 0
theorem tdv_bd {a b : Int} {N : Int} (h1 : -N ≤ a) (h2 : a ≤ N) : -N ≤ a.tdiv b ∧ a.tdiv b ≤ N := by
  have := Int.natAbs_tdiv_le_natAbs a b
  omega
theorem mpA_bd {x y : Nat → Int} {m : Nat → Nat} (hK : Fok x y m) {f g : Nat} (hf : f < 4) (hg : g < 4) {T q s t : Nat} (h1 : 1 < m f) (hT : T < m f) (hq : q < m g) (hs : s < m g) (ht : t < m g) : (-450 ≤ mpA (fw y f) (fw x g) T q s t ∧ mpA (fw y f) (fw x g) T q s t ≤ 450) ∧ (-450 ≤ mpA (fw y f) (fw y g) T q s t ∧ mpA (fw y f) (fw y g) T q s t ≤ 450) ∧ (-450 ≤ mpB (fw x f) (fw x g) T q s t ∧ mpB (fw x f) (fw x g) T q s t ≤ 450) ∧ (-450 ≤ mpB (fw x f) (fw y g) T q s t ∧ mpB (fw x f) (fw y g) T q s t ≤ 450) := by
  obtain ⟨a1, a2, a3, a4⟩ := fok_R hK hf 0 (by omega)
  obtain ⟨b1, b2, b3, b4⟩ := fok_R hK hf 1 h1
  obtain ⟨c1, c2, c3, c4⟩ := fok_R hK hf T hT
  obtain ⟨d1, d2, d3, d4⟩ := fok_R hK hg q hq
  obtain ⟨e1, e2, e3, e4⟩ := fok_R hK hg s hs
  obtain ⟨f1, f2, f3, f4⟩ := fok_R hK hg t ht
  have key : ∀ a b : Int, -15 ≤ a → a ≤ 15 → -15 ≤ b → b ≤ 15 → -225 ≤ a * b ∧ a * b ≤ 225 := fun a b q1 q2 q3 q4 => by
    have := mul_bd (a := a) (b := b) (M := 15) (N := 15) q1 q2 q3 q4 (by omega) (by omega)
    omega
  unfold mpA mpB
  have k1 := key (fw x g s - fw x g q) (fw y f T - fw y f 0) (by omega) (by omega) (by omega) (by omega)
  have k2 := key (fw x g t - fw x g q) (fw y f 1 - fw y f 0) (by omega) (by omega) (by omega) (by omega)
  have k3 := key (fw y g s - fw y g q) (fw y f T - fw y f 0) (by omega) (by omega) (by omega) (by omega)
  have k4 := key (fw y g t - fw y g q) (fw y f 1 - fw y f 0) (by omega) (by omega) (by omega) (by omega)
  have k5 := key (fw x g t - fw x g q) (fw x f 1 - fw x f 0) (by omega) (by omega) (by omega) (by omega)
  have k6 := key (fw x g s - fw x g q) (fw x f T - fw x f 0) (by omega) (by omega) (by omega) (by omega)
  have k7 := key (fw y g t - fw y g q) (fw x f 1 - fw x f 0) (by omega) (by omega) (by omega) (by omega)
  have k8 := key (fw y g s - fw y g q) (fw x f T - fw x f 0) (by omega) (by omega) (by omega) (by omega)
  exact ⟨by omega, by omega, by omega, by omega⟩
set_option maxRecDepth 10000 in
theorem l_map1 {h : fH} {o : MO} {x y : Nat → Int} {m : Nat → Nat} (hF : Fld h o x y m) (hK : Fok x y m) {f T : Nat} (hf : f < 4) (hT : thd (fw x f) (fw y f) (m f) T) {z2 z3 z4 z5 z7 z8 z9 z10 z11 z12 z13 z14 z15 z16 z17 z18 z19 : Value} (l5 : isL z5 = false) {Q : Option Value → fH → Prop} (hq : Go 175 (blk 175 35) [.ref 56, .int (iI f), z2, z3, z4, z5, .int (iI T), z7, z8, z9, z10, z11, z12, z13, z14, z15, z16, z17, z18, z19] [] h Q) : ∀ (d k : Nat), k + d = T → 2 ≤ k →
    Go 175 (blk 175 3) [.ref 56, .int (iI f), z2, z3, z4, z5, .int (iI k), z7, z8, z9, z10, z11, z12, z13, z14, z15, z16, z17, z18, z19] [] h Q := by
  have mp := (hK f hf).1
  obtain ⟨t1, t2, t3, t4⟩ := hT
  have p0 := m_placeI hF hK hf (i := 0) (by omega)
  have p1 := m_placeI hF hK hf (i := 1) (by omega)
  intro d
  induction d with
  | zero =>
    intro k hk h2
    obtain rfl : k = T := by omega
    have pk := m_placeI hF hK hf (i := k) (by omega)
    have cs := m_side hF hK (Pl.of hf (show 0 < m f by omega) mp) (Pl.of hf (show 1 < m f by omega) mp) (Pl.of hf (show k < m f by omega) mp)
    have sb := fok_sd hK (Pl.of hf (show 0 < m f by omega) mp) (Pl.of hf (show 1 < m f by omega) mp) (Pl.of hf (show k < m f by omega) mp)
    have e : sd x y (10 * f + 0) (10 * f + 1) (10 * f + k) = sd (fw x f) (fw y f) 0 1 k := rfl
    rw [e] at cs sb
    push_cast at p0 p1 pk cs
    rw [B175_3, b175_3]
    simp (disch := omega) only [g_iconst, g_lconst, g_iadd, g_isub, g_imul, g_iand, g_ior, g_ishl, g_ishr, g_iushr, g_ladd, g_lsub, g_lmul, g_land, g_lor, g_lcmp, g_ineg, g_lshl, g_lshr, g_i2l, g_l2i, g_dupi, g_dupr, g_pop, g_dup2, g_mabs_0, g_mabs_1, g_mabs_2, g_mabs_3, g_mmax_0, g_mmax_1, g_mmax_2, g_mmax_3, g_mmin_0, g_mmin_1, g_mmin_2, g_mmin_3, g_goto, g_jsr, g_icmp_eq, g_icmp_ne, g_icmp_lt, g_icmp_ge, g_icmp_gt, g_icmp_le, g_if_eq, g_if_ne, g_if_lt, g_if_ge, g_if_gt, g_if_le, g_idiv, g_irem, g_ldiv, g_iload, g_lload, g_aload, g_istore, g_astore, g_lstore, g_iinc, g_getfield, g_putfield, g_iaload, g_baload, g_laload, g_aaload, g_iastore, g_bastore, g_lastore, g_arraylength, g_call0_0, g_call0_1, g_call0_2, g_call0_3, g_call0_4, g_call1_0, g_call1_1, g_call1_2, g_call1_3, g_call1_4, g_call2_0, g_call2_1, g_call2_2, g_call2_3, g_call2_4, g_call3_0, g_call3_1, g_call3_2, g_call3_3, g_call3_4, g_call4_0, g_call4_1, g_call4_2, g_call4_3, g_call4_4, g_call5_0, g_call5_1, g_call5_2, g_call5_3, g_call5_4, g_call6_0, g_call6_1, g_call6_2, g_call6_3, g_call6_4, g_ireturn, g_lreturn, g_return, g_zreturn, sto_0, sto_s, sto2_0, sto2_s, isL_i, isL_r, isL_l, isL_j, ldI_0, ldI_9, ldZ_2, ldL_1, ldQ_3, stI_0, stL_1, stZ_2, gF_o, pF_o, lenA_9, oB_some, vI_i, vJ_j, vR_r, Option.map_some, List.getElem?_cons_zero, List.getElem?_cons_succ, Nat.reduceDiv, Nat.reduceMod, Int.reduceToNat, true_and, and_true, false_and, reduceIte, List.set_cons_zero, List.set_cons_succ, Option.toList_some, Option.toList_none, List.cons_append, List.nil_append, List.length_cons, List.length_nil, Nat.reduceAdd, Nat.reduceLeDiff, Nat.reduceLT, Nat.reduceEqDiff, and_self, and_false, Bool.false_eq_true, p0, p1, pk, cs, iI_f, i32_0, i32_1, b2i_0, b2i_n, iI_add, iI_sub, iI_mul, iI_neg, iI_lt, iI_le, iI_eq, iI_in, iI_cl, i_nn, eq_self, true_or, or_true, not_true_eq_false, not_false_eq_true, Int.reduceEq, Int.reduceLT, Int.reduceLE, Int.reduceNeg]
    exact ite_t t3 hq
  | succ d ih =>
    intro k hk h2
    have pk := m_placeI hF hK hf (i := k) (by omega)
    have cs := m_side hF hK (Pl.of hf (show 0 < m f by omega) mp) (Pl.of hf (show 1 < m f by omega) mp) (Pl.of hf (show k < m f by omega) mp)
    have e : sd x y (10 * f + 0) (10 * f + 1) (10 * f + k) = 0 := t4 k h2 (by omega)
    rw [e] at cs
    have w := ih (k + 1) (by omega) (by omega)
    push_cast at p0 p1 pk cs w
    rw [B175_3, b175_3]
    simp (disch := omega) only [g_iconst, g_lconst, g_iadd, g_isub, g_imul, g_iand, g_ior, g_ishl, g_ishr, g_iushr, g_ladd, g_lsub, g_lmul, g_land, g_lor, g_lcmp, g_ineg, g_lshl, g_lshr, g_i2l, g_l2i, g_dupi, g_dupr, g_pop, g_dup2, g_mabs_0, g_mabs_1, g_mabs_2, g_mabs_3, g_mmax_0, g_mmax_1, g_mmax_2, g_mmax_3, g_mmin_0, g_mmin_1, g_mmin_2, g_mmin_3, g_goto, g_jsr, g_icmp_eq, g_icmp_ne, g_icmp_lt, g_icmp_ge, g_icmp_gt, g_icmp_le, g_if_eq, g_if_ne, g_if_lt, g_if_ge, g_if_gt, g_if_le, g_idiv, g_irem, g_ldiv, g_iload, g_lload, g_aload, g_istore, g_astore, g_lstore, g_iinc, g_getfield, g_putfield, g_iaload, g_baload, g_laload, g_aaload, g_iastore, g_bastore, g_lastore, g_arraylength, g_call0_0, g_call0_1, g_call0_2, g_call0_3, g_call0_4, g_call1_0, g_call1_1, g_call1_2, g_call1_3, g_call1_4, g_call2_0, g_call2_1, g_call2_2, g_call2_3, g_call2_4, g_call3_0, g_call3_1, g_call3_2, g_call3_3, g_call3_4, g_call4_0, g_call4_1, g_call4_2, g_call4_3, g_call4_4, g_call5_0, g_call5_1, g_call5_2, g_call5_3, g_call5_4, g_call6_0, g_call6_1, g_call6_2, g_call6_3, g_call6_4, g_ireturn, g_lreturn, g_return, g_zreturn, sto_0, sto_s, sto2_0, sto2_s, isL_i, isL_r, isL_l, isL_j, ldI_0, ldI_9, ldZ_2, ldL_1, ldQ_3, stI_0, stL_1, stZ_2, gF_o, pF_o, lenA_9, oB_some, vI_i, vJ_j, vR_r, Option.map_some, List.getElem?_cons_zero, List.getElem?_cons_succ, Nat.reduceDiv, Nat.reduceMod, Int.reduceToNat, true_and, and_true, false_and, reduceIte, List.set_cons_zero, List.set_cons_succ, Option.toList_some, Option.toList_none, List.cons_append, List.nil_append, List.length_cons, List.length_nil, Nat.reduceAdd, Nat.reduceLeDiff, Nat.reduceLT, Nat.reduceEqDiff, and_self, and_false, Bool.false_eq_true, p0, p1, pk, cs, l5, iI_f, i32_0, i32_1, b2i_0, b2i_n, iI_add, iI_sub, iI_mul, iI_neg, iI_lt, iI_le, iI_eq, iI_in, iI_cl, i_nn, eq_self, true_or, or_true, not_true_eq_false, not_false_eq_true, Int.reduceEq, Int.reduceLT, Int.reduceLE, Int.reduceNeg]
    exact w
