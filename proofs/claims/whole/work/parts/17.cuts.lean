def ptO (st : Nat → Nat → Bool) (lg : Nat → Nat → Nat) (a b : Nat) (s : Nat × Nat × Nat) : Nat × Nat × Nat := if st a b = true then (s.1, s.2.1 + lg a b, s.2.2 ||| bt a b) else s
def ptF (st : Nat → Nat → Bool) (lg : Nat → Nat → Nat) (n : Nat) : Nat → Nat → Nat → Nat × Nat × Nat
  | 0, _, _ => (0, 0, 0)
  | f + 1, a, b => ptO st lg a b (if b = a + 1 then (1, 0, 0) else if st a b = true ∨ b - a = n - 1 then itF (fun k s => tipS (ptF st lg n f a k) (ptF st lg n f k b) s) (a + 1) (b - a - 1) (0, 0, 0) else (0, 0, 0))
theorem itF_congr {α : Type} {f g : Nat → α → α} : ∀ (d i : Nat) (s : α), (∀ k, i ≤ k → k < i + d → ∀ s, f k s = g k s) → itF f i d s = itF g i d s
  | 0, i, s, _ => rfl
  | d + 1, i, s, h => by
    rw [itF, itF, h i (by omega) (by omega)]
    exact itF_congr d (i + 1) _ (fun k h1 h2 => h k (by omega) (by omega))
theorem ptF_fuel {st : Nat → Nat → Bool} {lg : Nat → Nat → Nat} {n : Nat} : ∀ (f g a b : Nat), a < b → b - a ≤ f → b - a ≤ g → ptF st lg n f a b = ptF st lg n g a b
  | 0, g, a, b, h, h1, h2 => by omega
  | f + 1, 0, a, b, h, h1, h2 => by omega
  | f + 1, g + 1, a, b, h, h1, h2 => by
    rw [ptF, ptF]
    congr 1
    split
    · rfl
    · split
      · refine itF_congr _ _ _ (fun k q1 q2 s => ?_)
        rw [ptF_fuel f g a k (by omega) (by omega) (by omega), ptF_fuel f g k b (by omega) (by omega) (by omega)]
      · rfl
/-- the part from a on to b: ways, least sum, first set -/
def pt (st : Nat → Nat → Bool) (lg : Nat → Nat → Nat) (n a b : Nat) : Nat × Nat × Nat := ptF st lg n 10 a b
/-- the same without its own strip -/
def ptI (st : Nat → Nat → Bool) (lg : Nat → Nat → Nat) (n a b : Nat) : Nat × Nat × Nat := if b = a + 1 then (1, 0, 0) else if st a b = true ∨ b - a = n - 1 then itF (fun k s => tipS (pt st lg n a k) (pt st lg n k b) s) (a + 1) (b - a - 1) (0, 0, 0) else (0, 0, 0)
theorem pt_eq {st : Nat → Nat → Bool} {lg : Nat → Nat → Nat} {n a b : Nat} (hab : a < b) (hb : b - a ≤ 10) : pt st lg n a b = ptO st lg a b (ptI st lg n a b) := by
  unfold pt ptI
  rw [show (10 : Nat) = 9 + 1 from rfl, ptF]
  congr 1
  split
  · rfl
  · split
    · refine itF_congr _ _ _ (fun k q1 q2 s => ?_)
      rw [pt, pt, ptF_fuel 9 10 a k (by omega) (by omega) (by omega), ptF_fuel 9 10 k b (by omega) (by omega) (by omega)]
    · rfl
def cat (s : Nat) : Nat := [0, 1, 1, 2, 5, 14, 42, 132, 429, 1430].getD s 0
def smC (s : Nat) : Nat → Nat → Nat
  | _, 0 => 0
  | j, d + 1 => cat j * cat (s - j) + smC s (j + 1) d
theorem cat_all : (List.range 10).all (fun s => decide (s < 2) || decide (smC s 1 (s - 1) = cat s)) = true := by decide +kernel
theorem cat_s {s : Nat} (h : s < 10) (h2 : 2 ≤ s) : smC s 1 (s - 1) = cat s := by
  have h := List.all_eq_true.mp cat_all s (List.mem_range.mpr h)
  simp only [Bool.or_eq_true, decide_eq_true_eq] at h
  exact h.resolve_left (by omega)
theorem cat_p : (List.range 10).all (fun j => (List.range 10).all (fun k => decide (10 ≤ j + k) || decide (cat j * cat k ≤ 1430))) = true := by decide +kernel
theorem cat_pr {j k : Nat} (h : j + k < 10) : cat j * cat k ≤ 1430 := by
  have h := List.all_eq_true.mp (List.all_eq_true.mp cat_p j (List.mem_range.mpr (by omega))) k (List.mem_range.mpr (by omega))
  simp only [Bool.or_eq_true, decide_eq_true_eq] at h
  exact h.resolve_left (by omega)
theorem cat_le : (List.range 10).all (fun j => decide (cat j ≤ 1430)) = true := by decide +kernel
theorem cat_b {j : Nat} (h : j < 10) : cat j ≤ 1430 := of_decide_eq_true (List.all_eq_true.mp cat_le j (List.mem_range.mpr h))
def pB (a b : Nat) (s : Nat × Nat × Nat) : Prop := s.1 ≤ cat (b - a) ∧ s.2.1 + 450 ≤ 900 * (b - a) ∧ s.2.2 < 2 ^ 63
/-- the tips' loop keeps its bounds -/
theorem tip_bd {p q : Nat → Nat × Nat × Nat} {a b : Nat} : ∀ (d i : Nat) (s : Nat × Nat × Nat), a < i → i + d ≤ b → (∀ k, a < k → k < b → pB a k (p k) ∧ pB k b (q k)) → s.2.1 + 900 ≤ 900 * (b - a) → s.2.2 < 2 ^ 63 →
    (itF (fun k s => tipS (p k) (q k) s) i d s).1 ≤ s.1 + smC (b - a) (i - a) d ∧ (itF (fun k s => tipS (p k) (q k) s) i d s).2.1 + 900 ≤ 900 * (b - a) ∧ (itF (fun k s => tipS (p k) (q k) s) i d s).2.2 < 2 ^ 63
  | 0, i, s, h1, h2, h3, h4, h5 => by simp only [itF, smC]; exact ⟨by omega, h4, h5⟩
  | d + 1, i, s, h1, h2, h3, h4, h5 => by
    obtain ⟨⟨p1, p2, p3⟩, ⟨q1, q2, q3⟩⟩ := h3 i h1 (by omega)
    have e0 : b - a - (i - a) = b - i := by omega
    have m1 : (p i).1 * (q i).1 ≤ cat (i - a) * cat (b - i) := Nat.mul_le_mul p1 q1
    have t1 : (tipS (p i) (q i) s).1 ≤ s.1 + cat (i - a) * cat (b - i) := by
      unfold tipS
      split
      · omega
      · show s.1 + (p i).1 * (q i).1 ≤ _
        omega
    have t2 : (tipS (p i) (q i) s).2.1 + 900 ≤ 900 * (b - a) := by
      unfold tipS
      split
      · exact h4
      · dsimp only; split
        · dsimp only; omega
        · exact h4
    have t3 : (tipS (p i) (q i) s).2.2 < 2 ^ 63 := by
      unfold tipS
      split
      · exact h5
      · dsimp only; split
        · exact Nat.or_lt_two_pow p3 q3
        · exact h5
    have w := tip_bd d (i + 1) (tipS (p i) (q i) s) (by omega) (by omega) h3 t2 t3
    rw [itF, smC, e0]
    rw [show i + 1 - a = i - a + 1 by omega] at w
    exact ⟨by omega, w.2⟩
theorem smC_mono (s : Nat) : ∀ (d e j : Nat), d ≤ e → smC s j d ≤ smC s j e
  | 0, e, j, _ => Nat.zero_le _
  | d + 1, 0, j, h => by omega
  | d + 1, e + 1, j, h => by have := smC_mono s d e (j + 1) (by omega); rw [smC, smC]; omega
theorem pt_bd {st : Nat → Nat → Bool} {lg : Nat → Nat → Nat} {n : Nat} (hlg : ∀ a b, a < b → b < n → lg a b ≤ 450) : ∀ (s a b : Nat), b - a = s → a < b → b < n → n ≤ 10 → pB a b (pt st lg n a b) ∧ (ptI st lg n a b).1 ≤ cat (b - a) ∧ (ptI st lg n a b).2.1 + 900 ≤ 900 * (b - a) ∧ (ptI st lg n a b).2.2 < 2 ^ 63 := by
  intro s
  induction s using Nat.strongRecOn with
  | _ s ih =>
    intro a b hs hab hb hn
    have key : (ptI st lg n a b).1 ≤ cat (b - a) ∧ (ptI st lg n a b).2.1 + 900 ≤ 900 * (b - a) ∧ (ptI st lg n a b).2.2 < 2 ^ 63 := by
      unfold ptI
      split
      · rename_i h1; subst h1; rw [show a + 1 - a = 1 by omega]; exact ⟨by decide, by decide, by decide⟩
      · rename_i h1
        split
        · have hk : ∀ k, a < k → k < b → pB a k (pt st lg n a k) ∧ pB k b (pt st lg n k b) := fun k k1 k2 => ⟨(ih (k - a) (by omega) a k rfl k1 (by omega) hn).1, (ih (b - k) (by omega) k b rfl k2 hb hn).1⟩
          have w := tip_bd (p := fun k => pt st lg n a k) (q := fun k => pt st lg n k b) (a := a) (b := b) (b - a - 1) (a + 1) (0, 0, 0) (by omega) (by omega) hk (by dsimp only; omega) (by decide)
          have e := cat_s (s := b - a) (by omega) (by omega)
          rw [show a + 1 - a = 1 by omega, e] at w
          exact ⟨by have := w.1; simpa using this, w.2⟩
        · exact ⟨Nat.zero_le _, by dsimp only; omega, by decide⟩
    refine ⟨?_, key⟩
    rw [pt_eq hab (by omega)]
    unfold ptO
    split
    · exact ⟨key.1, by dsimp only; have := hlg a b hab hb; have := key.2.1; omega, Nat.or_lt_two_pow key.2.2 bt_lt⟩
    · exact ⟨key.1, by have := key.2.1; omega, key.2.2⟩
/-- the rows at the pair (i, j) -/
def atP (st : Nat → Nat → Bool) (lg : Nat → Nat → Nat) (n : Nat) (W L F : Nat → Nat) (i j : Nat) : Prop := W (10 * i + j) = (pt st lg n i j).1 ∧ L (10 * i + j) = (pt st lg n i j).2.1 ∧ F (10 * i + j) = (pt st lg n i j).2.2
set_option maxRecDepth 10000 in
theorem l_planPart {h0 : fH} {c n a b : Nat} {st : Nat → Nat → Bool} {lg : Nat → Nat → Nat} (hlg : ∀ a b, a < b → b < n → lg a b ≤ 450) (hn : n ≤ 10) (hab : a < b) (hb : b < n) {W L F : Nat → Nat} (hA : ∀ k, a < k → k < b → atP st lg n W L F a k ∧ atP st lg n W L F k b) {zs : Value} {Q : Option Value → fH → Prop} :
    ∀ (d i : Nat) (h : fH) (s : Nat × Nat × Nat), a < i → i + d = b → Ctr h c n (updN W (10 * a + b) s.1) (updN L (10 * a + b) s.2.1) (updN F (10 * a + b) s.2.2) → s.1 + smC (b - a) (i - a) d ≤ 1430 → s.2.1 + 900 ≤ 900 * (b - a) → s.2.2 < 2 ^ 63 → Fr h0 h (cS c) →
    (∀ h', Ctr h' c n (updN W (10 * a + b) (itF (fun k s => tipS (pt st lg n a k) (pt st lg n k b) s) i d s).1) (updN L (10 * a + b) (itF (fun k s => tipS (pt st lg n a k) (pt st lg n k b) s) i d s).2.1) (updN F (10 * a + b) (itF (fun k s => tipS (pt st lg n a k) (pt st lg n k b) s) i d s).2.2) → Fr h0 h' (cS c) → Q none h') →
    Go 2 (blk 2 71) [.ref c, .int (iI a), .int (iI b), zs, .int (iI ((10 * a + b : Nat) : Int)), .int (iI i)] [] h Q := by
  intro d
  induction d with
  | zero =>
    intro i h s hai hi hC b1 b2 b3 hF hq
    obtain ⟨h1, h2, h3, h4⟩ := id hC
    rw [B2_71, b2_71]
    simp (disch := omega) only [B2_103, b2_103, g_iconst, g_lconst, g_iadd, g_isub, g_imul, g_iand, g_ior, g_ishl, g_ishr, g_iushr, g_ladd, g_lsub, g_lmul, g_land, g_lor, g_lcmp, g_ineg, g_lshl, g_lshr, g_i2l, g_l2i, g_dupi, g_dupr, g_pop, g_dup2, g_mabs_0, g_mabs_1, g_mabs_2, g_mabs_3, g_mmax_0, g_mmax_1, g_mmax_2, g_mmax_3, g_mmin_0, g_mmin_1, g_mmin_2, g_mmin_3, g_goto, g_jsr, g_icmp_eq, g_icmp_ne, g_icmp_lt, g_icmp_ge, g_icmp_gt, g_icmp_le, g_if_eq, g_if_ne, g_if_lt, g_if_ge, g_if_gt, g_if_le, g_idiv, g_irem, g_ldiv, g_iload, g_lload, g_aload, g_istore, g_astore, g_lstore, g_iinc, g_getfield, g_putfield, g_iaload, g_baload, g_laload, g_aaload, g_iastore, g_bastore, g_lastore, g_arraylength, g_call0_0, g_call0_1, g_call0_2, g_call0_3, g_call0_4, g_call1_0, g_call1_1, g_call1_2, g_call1_3, g_call1_4, g_call2_0, g_call2_1, g_call2_2, g_call2_3, g_call2_4, g_call3_0, g_call3_1, g_call3_2, g_call3_3, g_call3_4, g_call4_0, g_call4_1, g_call4_2, g_call4_3, g_call4_4, g_call5_0, g_call5_1, g_call5_2, g_call5_3, g_call5_4, g_call6_0, g_call6_1, g_call6_2, g_call6_3, g_call6_4, g_ireturn, g_lreturn, g_return, g_zreturn, sto_0, sto_s, sto2_0, sto2_s, isL_i, isL_r, isL_l, isL_j, ldI_0, ldI_9, ldZ_2, ldL_1, ldQ_3, stI_0, stL_1, stZ_2, gF_o, pF_o, lenA_9, oB_some, vI_i, vJ_j, vR_r, Option.map_some, List.getElem?_cons_zero, List.getElem?_cons_succ, Nat.reduceDiv, Nat.reduceMod, Int.reduceToNat, true_and, and_true, false_and, reduceIte, List.set_cons_zero, List.set_cons_succ, Option.toList_some, Option.toList_none, List.cons_append, List.nil_append, List.length_cons, List.length_nil, Nat.reduceAdd, Nat.reduceLeDiff, Nat.reduceLT, Nat.reduceEqDiff, and_self, and_false, Bool.false_eq_true, h1, h2, h3, h4, iI_f, i32_0, i32_1, b2i_0, b2i_n, iI_add, iI_sub, iI_mul, iI_neg, iI_lt, iI_le, iI_eq, iI_in, iI_cl, i_nn, eq_self, true_or, or_true, not_true_eq_false, not_false_eq_true, Int.reduceEq, Int.reduceLT, Int.reduceLE, Int.reduceNeg]
    exact ite_t (by omega) (hq h hC hF)
  | succ d ih =>
    intro i h s hai hi hC b1 b2 b3 hF hq
    obtain ⟨h1, h2, h3, h4⟩ := id hC
    obtain ⟨⟨A1, A2, A3⟩, ⟨B1, B2, B3⟩⟩ := hA i hai (by omega)
    obtain ⟨⟨p1, p2, p3⟩, -⟩ := pt_bd (st := st) hlg (i - a) a i rfl hai (by omega) hn
    obtain ⟨⟨q1, q2, q3⟩, -⟩ := pt_bd (st := st) hlg (b - i) i b rfl (by omega) hb hn
    have m1 : (pt st lg n a i).1 * (pt st lg n i b).1 ≤ cat (i - a) * cat (b - i) := Nat.mul_le_mul p1 q1
    have m2 : cat (i - a) * cat (b - i) ≤ 1430 := cat_pr (by omega)
    have e0 : b - a - (i - a) = b - i := by omega
    have b1' : s.1 + (cat (i - a) * cat (b - i) + smC (b - a) (i - a + 1) d) ≤ 1430 := by rw [smC, e0] at b1; exact b1
    have n1 : 10 * a + i ≠ 10 * a + b := by omega
    have n2 : 10 * i + b ≠ 10 * a + b := by omega
    have ct := fun (h' : fH) (hh : Ctr h' c n (updN W (10 * a + b) s.1) (updN L (10 * a + b) s.2.1) (updN F (10 * a + b) s.2.2)) (Q : Option Value → fH → Prop) => c_planTip hh (l := 10 * a + i) (r := 10 * i + b) (p := 10 * a + b) (by omega) (by omega) (by omega) n1 n2 (by rw [updN_n n1, updN_n n2, A1, B1]; omega) (by rw [updN_n n1, A2]; omega) (by rw [updN_n n2, B2]; omega) (by rw [updN_s]; omega) (by rw [updN_s]; omega) (by rw [updN_n n1, A3]; exact p3) (by rw [updN_n n2, B3]; exact q3) (by rw [updN_s]; exact b3) (Q := Q)
    simp only [updN_n n1, updN_n n2, updN_s, updN_2, A1, A2, A3, B1, B2, B3] at ct
    have e1 : 10 * (a : Int) + (i : Int) = ((10 * a + i : Nat) : Int) := by push_cast; rfl
    have e2 : 10 * (i : Int) + (b : Int) = ((10 * i + b : Nat) : Int) := by push_cast; rfl
    rw [B2_71, b2_71]
    simp (disch := omega) only [g_iconst, g_lconst, g_iadd, g_isub, g_imul, g_iand, g_ior, g_ishl, g_ishr, g_iushr, g_ladd, g_lsub, g_lmul, g_land, g_lor, g_lcmp, g_ineg, g_lshl, g_lshr, g_i2l, g_l2i, g_dupi, g_dupr, g_pop, g_dup2, g_mabs_0, g_mabs_1, g_mabs_2, g_mabs_3, g_mmax_0, g_mmax_1, g_mmax_2, g_mmax_3, g_mmin_0, g_mmin_1, g_mmin_2, g_mmin_3, g_goto, g_jsr, g_icmp_eq, g_icmp_ne, g_icmp_lt, g_icmp_ge, g_icmp_gt, g_icmp_le, g_if_eq, g_if_ne, g_if_lt, g_if_ge, g_if_gt, g_if_le, g_idiv, g_irem, g_ldiv, g_iload, g_lload, g_aload, g_istore, g_astore, g_lstore, g_iinc, g_getfield, g_putfield, g_iaload, g_baload, g_laload, g_aaload, g_iastore, g_bastore, g_lastore, g_arraylength, g_call0_0, g_call0_1, g_call0_2, g_call0_3, g_call0_4, g_call1_0, g_call1_1, g_call1_2, g_call1_3, g_call1_4, g_call2_0, g_call2_1, g_call2_2, g_call2_3, g_call2_4, g_call3_0, g_call3_1, g_call3_2, g_call3_3, g_call3_4, g_call4_0, g_call4_1, g_call4_2, g_call4_3, g_call4_4, g_call5_0, g_call5_1, g_call5_2, g_call5_3, g_call5_4, g_call6_0, g_call6_1, g_call6_2, g_call6_3, g_call6_4, g_ireturn, g_lreturn, g_return, g_zreturn, sto_0, sto_s, sto2_0, sto2_s, isL_i, isL_r, isL_l, isL_j, ldI_0, ldI_9, ldZ_2, ldL_1, ldQ_3, stI_0, stL_1, stZ_2, gF_o, pF_o, lenA_9, oB_some, vI_i, vJ_j, vR_r, Option.map_some, List.getElem?_cons_zero, List.getElem?_cons_succ, Nat.reduceDiv, Nat.reduceMod, Int.reduceToNat, true_and, and_true, false_and, reduceIte, List.set_cons_zero, List.set_cons_succ, Option.toList_some, Option.toList_none, List.cons_append, List.nil_append, List.length_cons, List.length_nil, Nat.reduceAdd, Nat.reduceLeDiff, Nat.reduceLT, Nat.reduceEqDiff, and_self, and_false, Bool.false_eq_true, h1, h2, h3, h4, e1, e2, iI_f, i32_0, i32_1, b2i_0, b2i_n, iI_add, iI_sub, iI_mul, iI_neg, iI_lt, iI_le, iI_eq, iI_in, iI_cl, i_nn, eq_self, true_or, or_true, not_true_eq_false, not_false_eq_true, Int.reduceEq, Int.reduceLT, Int.reduceLE, Int.reduceNeg]
    refine ite_f (by omega) ?_
    refine ct h hC _ (fun h' hC' hF' => ?_)
    obtain ⟨g1, g2, g3, g4⟩ := id hC'
    simp (disch := omega) only [g_iconst, g_lconst, g_iadd, g_isub, g_imul, g_iand, g_ior, g_ishl, g_ishr, g_iushr, g_ladd, g_lsub, g_lmul, g_land, g_lor, g_lcmp, g_ineg, g_lshl, g_lshr, g_i2l, g_l2i, g_dupi, g_dupr, g_pop, g_dup2, g_mabs_0, g_mabs_1, g_mabs_2, g_mabs_3, g_mmax_0, g_mmax_1, g_mmax_2, g_mmax_3, g_mmin_0, g_mmin_1, g_mmin_2, g_mmin_3, g_goto, g_jsr, g_icmp_eq, g_icmp_ne, g_icmp_lt, g_icmp_ge, g_icmp_gt, g_icmp_le, g_if_eq, g_if_ne, g_if_lt, g_if_ge, g_if_gt, g_if_le, g_idiv, g_irem, g_ldiv, g_iload, g_lload, g_aload, g_istore, g_astore, g_lstore, g_iinc, g_getfield, g_putfield, g_iaload, g_baload, g_laload, g_aaload, g_iastore, g_bastore, g_lastore, g_arraylength, g_call0_0, g_call0_1, g_call0_2, g_call0_3, g_call0_4, g_call1_0, g_call1_1, g_call1_2, g_call1_3, g_call1_4, g_call2_0, g_call2_1, g_call2_2, g_call2_3, g_call2_4, g_call3_0, g_call3_1, g_call3_2, g_call3_3, g_call3_4, g_call4_0, g_call4_1, g_call4_2, g_call4_3, g_call4_4, g_call5_0, g_call5_1, g_call5_2, g_call5_3, g_call5_4, g_call6_0, g_call6_1, g_call6_2, g_call6_3, g_call6_4, g_ireturn, g_lreturn, g_return, g_zreturn, sto_0, sto_s, sto2_0, sto2_s, isL_i, isL_r, isL_l, isL_j, ldI_0, ldI_9, ldZ_2, ldL_1, ldQ_3, stI_0, stL_1, stZ_2, gF_o, pF_o, lenA_9, oB_some, vI_i, vJ_j, vR_r, Option.map_some, List.getElem?_cons_zero, List.getElem?_cons_succ, Nat.reduceDiv, Nat.reduceMod, Int.reduceToNat, true_and, and_true, false_and, reduceIte, List.set_cons_zero, List.set_cons_succ, Option.toList_some, Option.toList_none, List.cons_append, List.nil_append, List.length_cons, List.length_nil, Nat.reduceAdd, Nat.reduceLeDiff, Nat.reduceLT, Nat.reduceEqDiff, and_self, and_false, Bool.false_eq_true, g1, iI_f, i32_0, i32_1, b2i_0, b2i_n, iI_add, iI_sub, iI_mul, iI_neg, iI_lt, iI_le, iI_eq, iI_in, iI_cl, i_nn, eq_self, true_or, or_true, not_true_eq_false, not_false_eq_true, Int.reduceEq, Int.reduceLT, Int.reduceLE, Int.reduceNeg]
    have tb := tip_bd (p := fun k => pt st lg n a k) (q := fun k => pt st lg n k b) (a := a) (b := b) 1 i s hai (by omega) (fun k k1 k2 => ⟨(pt_bd (st := st) hlg (k - a) a k rfl k1 (by omega) hn).1, (pt_bd (st := st) hlg (b - k) k b rfl k2 hb hn).1⟩) b2 b3
    simp only [itF, smC, e0] at tb
    have w := ih (i + 1) h' (tipS (pt st lg n a i) (pt st lg n i b) s) (by omega) (by omega) hC' (by rw [show i + 1 - a = i - a + 1 by omega]; have := tb.1; omega) tb.2.1 tb.2.2 (hF.tr hF' (fun _ q => q) (fun _ q => q)) hq
    push_cast at w ⊢
    exact w
theorem jI_z : Int64.ofInt 0 = lN 0 := rfl
set_option maxRecDepth 10000 in
theorem c_planPart {h : fH} {c n a b : Nat} {st : Nat → Nat → Bool} {lg : Nat → Nat → Nat} (hlg : ∀ a b, a < b → b < n → lg a b ≤ 450) (hn : n ≤ 10) (hab : a < b) (hb : b < n) {W L F : Nat → Nat} (hC : Ctr h c n W L F) (hA : ∀ k, a < k → k < b → atP st lg n W L F a k ∧ atP st lg n W L F k b) {Q : Option Value → fH → Prop}
    (hq : ∀ h', Ctr h' c n (updN W (10 * a + b) (ptI st lg n a b).1) (updN L (10 * a + b) (ptI st lg n a b).2.1) (updN F (10 * a + b) (ptI st lg n a b).2.2) → Fr h h' (cS c) → Q none h') : Call 2 [.ref c, .int (iI a), .int (iI b), .int (iI (b2i (st a b)))] h Q := by
  obtain ⟨h1, h2, h3, h4⟩ := id hC
  refine ⟨by simp [vOK, entL, isL, mlT, kdT, clT, isO, h1], rfl, ?_⟩
  rw [show ent 2 [.ref c, .int (iI a), .int (iI b), .int (iI (b2i (st a b)))] = [.ref c, .int (iI a), .int (iI b), .int (iI (b2i (st a b))), jk, jk] from rfl]
  have e1 : 10 * (a : Int) + (b : Int) = ((10 * a + b : Nat) : Int) := by push_cast; rfl
  have z1 := updN_i W (10 * a + b) 0
  have z2 := updN_i L (10 * a + b) 0
  have z3 := updN_l F (10 * a + b) 0
  rw [show ((0 : Nat) : Int) = 0 from rfl] at z1 z2
  have z4 := updN_i (updN W (10 * a + b) 0) (10 * a + b) 1
  rw [show ((1 : Nat) : Int) = 1 from rfl, updN_2] at z4
  have hC3 := ((hC.W (updN W (10 * a + b) 0)).L (updN L (10 * a + b) 0)).F (updN F (10 * a + b) 0)
  have hF3 : Fr h (f_st (f_st (f_st h (c + 1) (.inl (0, 100, .inl (fun j => iI ((updN W (10 * a + b) 0 j : Nat) : Int))))) (c + 2) (.inl (0, 100, .inl (fun j => iI ((updN L (10 * a + b) 0 j : Nat) : Int))))) (c + 3) (.inl (1, 100, .inr (.inl (fun j => lN (updN F (10 * a + b) 0 j)))))) (cS c) := ((Fr.rf.st (a := c + 1) (S := cS c) ⟨by omega, by omega⟩).st (a := c + 2) ⟨by omega, by omega⟩).st (a := c + 3) ⟨by omega, by omega⟩
  have loop : b ≠ a + 1 → (st a b = true ∨ b - a = n - 1) → Go 2 (blk 2 66) [.ref c, .int (iI a), .int (iI b), .int (iI (b2i (st a b))), .int (iI ((10 * a + b : Nat) : Int)), jk] [] (f_st (f_st (f_st h (c + 1) (.inl (0, 100, .inl (fun j => iI ((updN W (10 * a + b) 0 j : Nat) : Int))))) (c + 2) (.inl (0, 100, .inl (fun j => iI ((updN L (10 * a + b) 0 j : Nat) : Int))))) (c + 3) (.inl (1, 100, .inr (.inl (fun j => lN (updN F (10 * a + b) 0 j)))))) Q := by
    intro q1 q2
    rw [B2_66, b2_66]
    simp (disch := omega) only [g_iconst, g_lconst, g_iadd, g_isub, g_imul, g_iand, g_ior, g_ishl, g_ishr, g_iushr, g_ladd, g_lsub, g_lmul, g_land, g_lor, g_lcmp, g_ineg, g_lshl, g_lshr, g_i2l, g_l2i, g_dupi, g_dupr, g_pop, g_dup2, g_mabs_0, g_mabs_1, g_mabs_2, g_mabs_3, g_mmax_0, g_mmax_1, g_mmax_2, g_mmax_3, g_mmin_0, g_mmin_1, g_mmin_2, g_mmin_3, g_goto, g_jsr, g_icmp_eq, g_icmp_ne, g_icmp_lt, g_icmp_ge, g_icmp_gt, g_icmp_le, g_if_eq, g_if_ne, g_if_lt, g_if_ge, g_if_gt, g_if_le, g_idiv, g_irem, g_ldiv, g_iload, g_lload, g_aload, g_istore, g_astore, g_lstore, g_iinc, g_getfield, g_putfield, g_iaload, g_baload, g_laload, g_aaload, g_iastore, g_bastore, g_lastore, g_arraylength, g_call0_0, g_call0_1, g_call0_2, g_call0_3, g_call0_4, g_call1_0, g_call1_1, g_call1_2, g_call1_3, g_call1_4, g_call2_0, g_call2_1, g_call2_2, g_call2_3, g_call2_4, g_call3_0, g_call3_1, g_call3_2, g_call3_3, g_call3_4, g_call4_0, g_call4_1, g_call4_2, g_call4_3, g_call4_4, g_call5_0, g_call5_1, g_call5_2, g_call5_3, g_call5_4, g_call6_0, g_call6_1, g_call6_2, g_call6_3, g_call6_4, g_ireturn, g_lreturn, g_return, g_zreturn, sto_0, sto_s, sto2_0, sto2_s, isL_i, isL_r, isL_l, isL_j, ldI_0, ldI_9, ldZ_2, ldL_1, ldQ_3, stI_0, stL_1, stZ_2, gF_o, pF_o, lenA_9, oB_some, vI_i, vJ_j, vR_r, Option.map_some, List.getElem?_cons_zero, List.getElem?_cons_succ, Nat.reduceDiv, Nat.reduceMod, Int.reduceToNat, true_and, and_true, false_and, reduceIte, List.set_cons_zero, List.set_cons_succ, Option.toList_some, Option.toList_none, List.cons_append, List.nil_append, List.length_cons, List.length_nil, Nat.reduceAdd, Nat.reduceLeDiff, Nat.reduceLT, Nat.reduceEqDiff, and_self, and_false, Bool.false_eq_true, iI_f, i32_0, i32_1, b2i_0, b2i_n, iI_add, iI_sub, iI_mul, iI_neg, iI_lt, iI_le, iI_eq, iI_in, iI_cl, i_nn, eq_self, true_or, or_true, not_true_eq_false, not_false_eq_true, Int.reduceEq, Int.reduceLT, Int.reduceLE, Int.reduceNeg]
    have e := cat_s (s := b - a) (by omega) (by omega)
    have cb := cat_b (j := b - a) (by omega)
    have w := l_planPart (h0 := h) hlg hn hab hb hA (zs := .int (iI (b2i (st a b)))) (Q := Q) (b - a - 1) (a + 1) _ (0, 0, 0) (by omega) (by omega) hC3 (by rw [show a + 1 - a = 1 by omega, e]; dsimp only; omega) (by dsimp only; omega) (by decide) hF3 (fun h' r1 r2 => hq h' (by
      have : ptI st lg n a b = itF (fun k s => tipS (pt st lg n a k) (pt st lg n k b) s) (a + 1) (b - a - 1) (0, 0, 0) := by rw [ptI, if_neg q1, if_pos q2]
      rw [this]; exact r1) r2)
    push_cast at w ⊢
    exact w
  simp (disch := omega) only [B2_0, b2_0, B2_50, b2_50, B2_103, b2_103, g_iconst, g_lconst, g_iadd, g_isub, g_imul, g_iand, g_ior, g_ishl, g_ishr, g_iushr, g_ladd, g_lsub, g_lmul, g_land, g_lor, g_lcmp, g_ineg, g_lshl, g_lshr, g_i2l, g_l2i, g_dupi, g_dupr, g_pop, g_dup2, g_mabs_0, g_mabs_1, g_mabs_2, g_mabs_3, g_mmax_0, g_mmax_1, g_mmax_2, g_mmax_3, g_mmin_0, g_mmin_1, g_mmin_2, g_mmin_3, g_goto, g_jsr, g_icmp_eq, g_icmp_ne, g_icmp_lt, g_icmp_ge, g_icmp_gt, g_icmp_le, g_if_eq, g_if_ne, g_if_lt, g_if_ge, g_if_gt, g_if_le, g_idiv, g_irem, g_ldiv, g_iload, g_lload, g_aload, g_istore, g_astore, g_lstore, g_iinc, g_getfield, g_putfield, g_iaload, g_baload, g_laload, g_aaload, g_iastore, g_bastore, g_lastore, g_arraylength, g_call0_0, g_call0_1, g_call0_2, g_call0_3, g_call0_4, g_call1_0, g_call1_1, g_call1_2, g_call1_3, g_call1_4, g_call2_0, g_call2_1, g_call2_2, g_call2_3, g_call2_4, g_call3_0, g_call3_1, g_call3_2, g_call3_3, g_call3_4, g_call4_0, g_call4_1, g_call4_2, g_call4_3, g_call4_4, g_call5_0, g_call5_1, g_call5_2, g_call5_3, g_call5_4, g_call6_0, g_call6_1, g_call6_2, g_call6_3, g_call6_4, g_ireturn, g_lreturn, g_return, g_zreturn, sto_0, sto_s, sto2_0, sto2_s, isL_i, isL_r, isL_l, isL_j, ldI_0, ldI_9, ldZ_2, ldL_1, ldQ_3, stI_0, stL_1, stZ_2, gF_o, pF_o, lenA_9, oB_some, vI_i, vJ_j, vR_r, Option.map_some, List.getElem?_cons_zero, List.getElem?_cons_succ, Nat.reduceDiv, Nat.reduceMod, Int.reduceToNat, true_and, and_true, false_and, reduceIte, List.set_cons_zero, List.set_cons_succ, Option.toList_some, Option.toList_none, List.cons_append, List.nil_append, List.length_cons, List.length_nil, Nat.reduceAdd, Nat.reduceLeDiff, Nat.reduceLT, Nat.reduceEqDiff, and_self, and_false, Bool.false_eq_true, h1, h2, h3, h4, e1, jI_z, z1, z2, z3, z4, fg_st_s, fg_st_n, iI_f, i32_0, i32_1, b2i_0, b2i_n, iI_add, iI_sub, iI_mul, iI_neg, iI_lt, iI_le, iI_eq, iI_in, iI_cl, i_nn, eq_self, true_or, or_true, not_true_eq_false, not_false_eq_true, Int.reduceEq, Int.reduceLT, Int.reduceLE, Int.reduceNeg]
  refine ite_c (fun c1 => ?_) (fun c1 => ?_)
  · refine ite_c (fun c2 => ?_) (fun c2 => ite_c (fun c3 => ?_) (fun c3 => ?_))
    · exact loop (by omega) (Or.inl c2)
    · refine hq _ ?_ hF3
      have : ptI st lg n a b = (0, 0, 0) := by rw [ptI, if_neg (by omega), if_neg (fun q => q.elim c2 (fun q => c3 (by omega)))]
      rw [this]; exact hC3
    · exact loop (by omega) (Or.inr (by omega))
  · refine hq _ ?_ (hF3.st (a := c + 1) ⟨by omega, by omega⟩)
    have : ptI st lg n a b = (1, 0, 0) := by rw [ptI, if_pos (by omega)]
    rw [this]
    exact hC3.W (updN W (10 * a + b) 1)
