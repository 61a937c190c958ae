/-! The reference: cuts. -/
def cuS (P Q : Nat → Nat × Nat) (own k : Nat) (s : Nat × Nat) : Nat × Nat := (s.1 + (P k).1 * (Q k).1, if (P k).2 + (Q k).2 + own < s.2 then (P k).2 + (Q k).2 + own else s.2)
theorem cuS_c {P P' Q Q' : Nat → Nat × Nat} {own k : Nat} {s : Nat × Nat} (hp : P k = P' k) (hq : Q k = Q' k) : cuS P Q own k s = cuS P' Q' own k s := by unfold cuS; simp only [hp, hq]
/-- is the pair a fence by its width -/
def fnB (n w : Nat) : Bool := decide (w = 1 ∨ w = n - 1)
def cu0 (w : Nat) : Nat × Nat := if w = 1 then (1, 0) else (0, 1000000)
def cuE (i : Bool) (s : Nat × Nat) : Nat × Nat := if i = true then (s.1, if 0 < s.1 then s.2 else 1000000) else (0, 1000000)
def cuF (op : Nat → Bool) (lg : Nat → Nat → Nat) (n : Nat) : Nat → Nat → Nat → Nat × Nat
  | 0, _, _ => (0, 1000000)
  | e + 1, a, b => cuE (fnB n (b - a) || op (10 * a + b)) (itF (cuS (fun k => cuF op lg n e a k) (fun k => cuF op lg n e k b) (if fnB n (b - a) = true then 0 else lg a b)) (a + 1) (b - a - 1) (cu0 (b - a)))
theorem cuF_fuel {op : Nat → Bool} {lg : Nat → Nat → Nat} {n : Nat} : ∀ (f g a b : Nat), a < b → b - a ≤ f → b - a ≤ g → cuF op lg n f a b = cuF op lg n g a b
  | 0, g, a, b, h, h1, h2 => by omega
  | f + 1, 0, a, b, h, h1, h2 => by omega
  | f + 1, g + 1, a, b, h, h1, h2 => by
    rw [cuF, cuF]
    congr 1
    refine itF_congr _ _ _ (fun k q1 q2 s => ?_)
    exact cuS_c (cuF_fuel f g a k (by omega) (by omega) (by omega)) (cuF_fuel f g k b (by omega) (by omega) (by omega))
/-- the part from a to b: ways, least sum -/
def cu (op : Nat → Bool) (lg : Nat → Nat → Nat) (n a b : Nat) : Nat × Nat := cuF op lg n 10 a b
/-- ways, least sum by its tips before i -/
def cuI (op : Nat → Bool) (lg : Nat → Nat → Nat) (n a b i d : Nat) (s : Nat × Nat) : Nat × Nat := itF (cuS (fun k => cu op lg n a k) (fun k => cu op lg n k b) (if fnB n (b - a) = true then 0 else lg a b)) i d s
theorem cu_eq {op : Nat → Bool} {lg : Nat → Nat → Nat} {n a b : Nat} (hab : a < b) (hb : b - a ≤ 10) : cu op lg n a b = cuE (fnB n (b - a) || op (10 * a + b)) (cuI op lg n a b (a + 1) (b - a - 1) (cu0 (b - a))) := by
  unfold cu cuI
  rw [show (10 : Nat) = 9 + 1 from rfl, cuF]
  congr 1
  refine itF_congr _ _ _ (fun k q1 q2 s => ?_)
  exact cuS_c (cuF_fuel 9 10 a k (by omega) (by omega) (by omega)) (cuF_fuel 9 10 k b (by omega) (by omega) (by omega))
def cB2 (a b : Nat) (s : Nat × Nat) : Prop := s.1 ≤ cat (b - a) ∧ s.2 ≤ 1000000
theorem cuS_bd {P Q : Nat → Nat × Nat} {own a b : Nat} : ∀ (d i : Nat) (s : Nat × Nat), a < i → i + d ≤ b → (∀ k, a < k → k < b → cB2 a k (P k) ∧ cB2 k b (Q k)) → s.2 ≤ 1000000 → (itF (cuS P Q own) i d s).1 ≤ s.1 + smC (b - a) (i - a) d ∧ (itF (cuS P Q own) i d s).2 ≤ 1000000
  | 0, i, s, h1, h2, h3, h4 => by simp only [itF, smC]; exact ⟨by omega, h4⟩
  | d + 1, i, s, h1, h2, h3, h4 => by
    obtain ⟨⟨p1, p2⟩, ⟨q1, q2⟩⟩ := h3 i h1 (by omega)
    have e0 : b - a - (i - a) = b - i := by omega
    have m1 : (P i).1 * (Q i).1 ≤ cat (i - a) * cat (b - i) := Nat.mul_le_mul p1 q1
    rw [itF, smC, e0]
    have w := cuS_bd (P := P) (Q := Q) (own := own) d (i + 1) (cuS P Q own i s) (by omega) (by omega) h3 (by unfold cuS; dsimp only; split <;> omega)
    rw [show i + 1 - a = i - a + 1 by omega] at w
    have e1 : (cuS P Q own i s).1 = s.1 + (P i).1 * (Q i).1 := rfl
    rw [e1] at w
    omega
theorem cu_bd {op : Nat → Bool} {lg : Nat → Nat → Nat} {n : Nat} (hn : n ≤ 10) : ∀ (w a b : Nat), b - a = w → a < b → b < n → cB2 a b (cu op lg n a b) := by
  intro w
  induction w using Nat.strongRecOn with
  | _ w ih =>
    intro a b hw hab hb
    rw [cu_eq hab (by omega)]
    have hk : ∀ k, a < k → k < b → cB2 a k (cu op lg n a k) ∧ cB2 k b (cu op lg n k b) := fun k k1 k2 => ⟨ih (k - a) (by omega) a k rfl k1 (by omega), ih (b - k) (by omega) k b rfl k2 hb⟩
    have wb := cuS_bd (own := if fnB n (b - a) = true then 0 else lg a b) (b - a - 1) (a + 1) (cu0 (b - a)) (by omega) (by omega) hk (by unfold cu0; split <;> simp)
    unfold cuE
    split
    · refine ⟨?_, ?_⟩
      · show (cuI op lg n a b (a + 1) (b - a - 1) (cu0 (b - a))).1 ≤ _
        by_cases e : b - a = 1
        · have e2 : b - a - 1 = 0 := by omega
          unfold cuI
          rw [e2, itF, e]; decide
        · have e3 := cat_s (s := b - a) (by omega) (by omega)
          have e4 : cu0 (b - a) = (0, 1000000) := by unfold cu0; rw [if_neg e]
          rw [show a + 1 - a = 1 by omega, e3, e4] at wb
          unfold cuI
          rw [e4]
          simpa using wb.1
      · dsimp only
        split
        · exact wb.2
        · omega
    · exact ⟨Nat.zero_le _, Nat.le_refl _⟩
def ctS : Nat → Prop := fun k => k = 69 ∨ k = 70
def atC (op : Nat → Bool) (lg : Nat → Nat → Nat) (n : Nat) (C K : Nat → Int) (i j : Nat) : Prop := C (10 * i + j) = ((cu op lg n i j).1 : Int) ∧ K (10 * i + j) = ((cu op lg n i j).2 : Int)
set_option maxRecDepth 10000 in
theorem l_cut3 {h : fH} {o : MO} (hO : Mob h o) {C K : Nat → Int} (hC : Row h 69 100 C) (hKr : Row h 70 100 K) {op : Nat → Bool} {lg : Nat → Nat → Nat} {n a b : Nat} (hn : n ≤ 10) (hab : a < b) (hb : b < n) (hA : ∀ k, a < k → k < b → atC op lg n C K a k ∧ atC op lg n C K k b) {f w fe : Value} {own : Nat} (hown : own ≤ 450) (eown : own = if fnB n (b - a) = true then 0 else lg a b) {T : Nat × Nat} {Q : Option Value → fH → Prop} (hq : ∀ z, Go 163 (blk 163 203) [.ref 56, f, .int (iI n), w, .int (iI a), .int (iI b), fe, .int (iI own), .int (iI T.1), .int (iI T.2), .int (iI b), z] [] h Q) : ∀ (d k : Nat) (s : Nat × Nat) (z : Value), k + d = b → a < k → s.1 + 1430 * d ≤ 100000 → s.2 ≤ 1000000 → T = cuI op lg n a b k d s →
    Go 163 (blk 163 110) [.ref 56, f, .int (iI n), w, .int (iI a), .int (iI b), fe, .int (iI own), .int (iI s.1), .int (iI s.2), .int (iI k), z] [] h Q := by
  unfold Mob at hO
  unfold Row at hC hKr
  intro d
  induction d with
  | zero =>
    intro k s z hk hak s1 s2 eT
    obtain rfl : k = b := by omega
    unfold cuI at eT
    rw [itF] at eT
    subst eT
    rw [B163_110, b163_110]
    simp (disch := omega) only [g_iconst, g_lconst, g_iadd, g_isub, g_imul, g_iand, g_ior, g_ishl, g_ishr, g_iushr, g_ladd, g_lsub, g_lmul, g_land, g_lor, g_lcmp, g_ineg, g_lshl, g_lshr, g_i2l, g_l2i, g_dupi, g_dupr, g_pop, g_dup2, g_mabs_0, g_mabs_1, g_mabs_2, g_mabs_3, g_mmax_0, g_mmax_1, g_mmax_2, g_mmax_3, g_mmin_0, g_mmin_1, g_mmin_2, g_mmin_3, g_goto, g_jsr, g_icmp_eq, g_icmp_ne, g_icmp_lt, g_icmp_ge, g_icmp_gt, g_icmp_le, g_if_eq, g_if_ne, g_if_lt, g_if_ge, g_if_gt, g_if_le, g_idiv, g_irem, g_ldiv, g_iload, g_lload, g_aload, g_istore, g_astore, g_lstore, g_iinc, g_getfield, g_putfield, g_iaload, g_baload, g_laload, g_aaload, g_iastore, g_bastore, g_lastore, g_arraylength, g_call0_0, g_call0_1, g_call0_2, g_call0_3, g_call0_4, g_call1_0, g_call1_1, g_call1_2, g_call1_3, g_call1_4, g_call2_0, g_call2_1, g_call2_2, g_call2_3, g_call2_4, g_call3_0, g_call3_1, g_call3_2, g_call3_3, g_call3_4, g_call4_0, g_call4_1, g_call4_2, g_call4_3, g_call4_4, g_call5_0, g_call5_1, g_call5_2, g_call5_3, g_call5_4, g_call6_0, g_call6_1, g_call6_2, g_call6_3, g_call6_4, g_ireturn, g_lreturn, g_return, g_zreturn, sto_0, sto_s, sto2_0, sto2_s, isL_i, isL_r, isL_l, isL_j, ldI_0, ldI_9, ldZ_2, ldL_1, ldQ_3, stI_0, stL_1, stZ_2, gF_o, pF_o, lenA_9, oB_some, vI_i, vJ_j, vR_r, Option.map_some, List.getElem?_cons_zero, List.getElem?_cons_succ, Nat.reduceDiv, Nat.reduceMod, Int.reduceToNat, true_and, and_true, false_and, reduceIte, List.set_cons_zero, List.set_cons_succ, Option.toList_some, Option.toList_none, List.cons_append, List.nil_append, List.length_cons, List.length_nil, Nat.reduceAdd, Nat.reduceLeDiff, Nat.reduceLT, Nat.reduceEqDiff, and_self, and_false, Bool.false_eq_true, iI_f, i32_0, i32_1, b2i_0, b2i_n, iI_add, iI_sub, iI_mul, iI_neg, iI_lt, iI_le, iI_eq, iI_in, iI_cl, i_nn, eq_self, true_or, or_true, not_true_eq_false, not_false_eq_true, Int.reduceEq, Int.reduceLT, Int.reduceLE, Int.reduceNeg]
    exact ite_t (by omega) (hq z)
  | succ d ih =>
    intro k s z hk hak s1 s2 eT
    obtain ⟨⟨a1, a2⟩, ⟨b1, b2⟩⟩ := hA k hak (by omega)
    obtain ⟨c1, c2⟩ := cu_bd (op := op) (lg := lg) hn (k - a) a k rfl hak (by omega)
    obtain ⟨c3, c4⟩ := cu_bd (op := op) (lg := lg) hn (b - k) k b rfl (by omega) hb
    have c5 : (cu op lg n a k).1 * (cu op lg n k b).1 ≤ 1430 := Nat.le_trans (Nat.mul_le_mul c1 c3) (cat_pr (by omega))
    have e1 : (10 * (a : Int) + (k : Int)).toNat = 10 * a + k := by omega
    have e2 : (10 * (k : Int) + (b : Int)).toNat = 10 * k + b := by omega
    have eT2 : T = cuI op lg n a b (k + 1) d (cuS (fun k => cu op lg n a k) (fun k => cu op lg n k b) (if fnB n (b - a) = true then 0 else lg a b) k s) := by rw [eT]; unfold cuI; rw [itF]
    rw [← eown] at eT2
    have w1 := ih (k + 1) (s.1 + (cu op lg n a k).1 * (cu op lg n k b).1, (cu op lg n a k).2 + (cu op lg n k b).2 + own) (.int (iI (((cu op lg n a k).2 : Int) + ((cu op lg n k b).2 : Int) + (own : Int)))) (by omega) (by omega) (by dsimp only; omega)
    have w2 := ih (k + 1) (s.1 + (cu op lg n a k).1 * (cu op lg n k b).1, s.2) (.int (iI (((cu op lg n a k).2 : Int) + ((cu op lg n k b).2 : Int) + (own : Int)))) (by omega) (by omega) (by dsimp only; omega) s2
    unfold cuS at eT2
    dsimp only at eT2 w1 w2
    push_cast at w1 w2
    rw [B163_110, b163_110]
    simp (disch := omega) only [B163_193, b163_193, B163_195, b163_195, g_iconst, g_lconst, g_iadd, g_isub, g_imul, g_iand, g_ior, g_ishl, g_ishr, g_iushr, g_ladd, g_lsub, g_lmul, g_land, g_lor, g_lcmp, g_ineg, g_lshl, g_lshr, g_i2l, g_l2i, g_dupi, g_dupr, g_pop, g_dup2, g_mabs_0, g_mabs_1, g_mabs_2, g_mabs_3, g_mmax_0, g_mmax_1, g_mmax_2, g_mmax_3, g_mmin_0, g_mmin_1, g_mmin_2, g_mmin_3, g_goto, g_jsr, g_icmp_eq, g_icmp_ne, g_icmp_lt, g_icmp_ge, g_icmp_gt, g_icmp_le, g_if_eq, g_if_ne, g_if_lt, g_if_ge, g_if_gt, g_if_le, g_idiv, g_irem, g_ldiv, g_iload, g_lload, g_aload, g_istore, g_astore, g_lstore, g_iinc, g_getfield, g_putfield, g_iaload, g_baload, g_laload, g_aaload, g_iastore, g_bastore, g_lastore, g_arraylength, g_call0_0, g_call0_1, g_call0_2, g_call0_3, g_call0_4, g_call1_0, g_call1_1, g_call1_2, g_call1_3, g_call1_4, g_call2_0, g_call2_1, g_call2_2, g_call2_3, g_call2_4, g_call3_0, g_call3_1, g_call3_2, g_call3_3, g_call3_4, g_call4_0, g_call4_1, g_call4_2, g_call4_3, g_call4_4, g_call5_0, g_call5_1, g_call5_2, g_call5_3, g_call5_4, g_call6_0, g_call6_1, g_call6_2, g_call6_3, g_call6_4, g_ireturn, g_lreturn, g_return, g_zreturn, sto_0, sto_s, sto2_0, sto2_s, isL_i, isL_r, isL_l, isL_j, ldI_0, ldI_9, ldZ_2, ldL_1, ldQ_3, stI_0, stL_1, stZ_2, gF_o, pF_o, lenA_9, oB_some, vI_i, vJ_j, vR_r, Option.map_some, List.getElem?_cons_zero, List.getElem?_cons_succ, Nat.reduceDiv, Nat.reduceMod, Int.reduceToNat, true_and, and_true, false_and, reduceIte, List.set_cons_zero, List.set_cons_succ, Option.toList_some, Option.toList_none, List.cons_append, List.nil_append, List.length_cons, List.length_nil, Nat.reduceAdd, Nat.reduceLeDiff, Nat.reduceLT, Nat.reduceEqDiff, and_self, and_false, Bool.false_eq_true, hO, hC, hKr, e1, e2, a1, a2, b1, b2, iI_f, i32_0, i32_1, b2i_0, b2i_n, iI_add, iI_sub, iI_mul, iI_neg, iI_lt, iI_le, iI_eq, iI_in, iI_cl, i_nn, eq_self, true_or, or_true, not_true_eq_false, not_false_eq_true, Int.reduceEq, Int.reduceLT, Int.reduceLE, Int.reduceNeg]
    refine ite_f (by omega) (ite_c (fun c => ?_) (fun c => ?_))
    · rw [if_neg (by omega)] at eT2
      exact w2 eT2
    · rw [if_pos (by omega)] at eT2
      exact w1 (by omega) eT2
def dnC (op : Nat → Bool) (lg : Nat → Nat → Nat) (n w c : Nat) (C K : Nat → Int) : Prop := ∀ i j, i < j → j < n → (j - i < w ∨ (j - i = w ∧ i < c)) → atC op lg n C K i j
theorem dnC_s {op : Nat → Bool} {lg : Nat → Nat → Nat} {n w c : Nat} {C K : Nat → Int} (h : dnC op lg n w c C K) (hw : 0 < w) (hn : n ≤ 10) (hc : c + w < n) : dnC op lg n w (c + 1) (updZ C (10 * c + (c + w)) ((cu op lg n c (c + w)).1 : Int)) (updZ K (10 * c + (c + w)) ((cu op lg n c (c + w)).2 : Int)) := by
  intro i j hij hj h1
  by_cases e : i = c ∧ j = c + w
  · obtain ⟨rfl, rfl⟩ := e
    unfold atC
    rw [updZ_s, updZ_s]; exact ⟨rfl, rfl⟩
  · have ne : 10 * i + j ≠ 10 * c + (c + w) := by omega
    have := h i j hij hj (by omega)
    unfold atC at this ⊢
    rw [updZ_n ne, updZ_n ne]; exact this
set_option maxRecDepth 10000 in
set_option maxHeartbeats 1000000 in
theorem l_cut2 {h0 : fH} {M : MZ} (hM : Mdl h0 M) (hK : Mok M) {f : Nat} (hf : f < 4) {O : Nat → Bool} (hO68 : Bol h0 68 100 O) {w : Nat} (hw : 0 < w) (hwn : w < mM M f) {Q : Option Value → fH → Prop} (hq : ∀ h' C K z4 z5 z6 z7 z8 z9 z10 z11, Row h' 69 100 C → Row h' 70 100 K → dnC O (lgC (fw (mX M) f) (fw (mY M) f)) (mM M f) (w + 1) 0 C K → Fr h0 h' ctS → Go 163 (blk 163 291) [.ref 56, .int (iI f), .int (iI (mM M f)), .int (iI w), z4, z5, z6, z7, z8, z9, z10, z11] [] h' Q) : ∀ (d c : Nat) (h : fH) (C K : Nat → Int) (z5 z6 z7 z8 z9 z10 z11 : Value), c + w + d = mM M f → Row h 69 100 C → Row h 70 100 K → dnC O (lgC (fw (mX M) f) (fw (mY M) f)) (mM M f) w c C K → Fr h0 h ctS →
    Go 163 (blk 163 17) [.ref 56, .int (iI f), .int (iI (mM M f)), .int (iI w), .int (iI c), z5, z6, z7, z8, z9, z10, z11] [] h Q := by
  obtain ⟨o, eo, hF0⟩ := hM.fld
  have mp := (hK.2.2 f hf).1
  have hR := fok_R hK.2.2 hf
  intro d
  induction d with
  | zero =>
    intro c h C K z5 z6 z7 z8 z9 z10 z11 hc h69 h70 hD hF
    rw [B163_17, b163_17]
    simp (disch := omega) only [g_iconst, g_lconst, g_iadd, g_isub, g_imul, g_iand, g_ior, g_ishl, g_ishr, g_iushr, g_ladd, g_lsub, g_lmul, g_land, g_lor, g_lcmp, g_ineg, g_lshl, g_lshr, g_i2l, g_l2i, g_dupi, g_dupr, g_pop, g_dup2, g_mabs_0, g_mabs_1, g_mabs_2, g_mabs_3, g_mmax_0, g_mmax_1, g_mmax_2, g_mmax_3, g_mmin_0, g_mmin_1, g_mmin_2, g_mmin_3, g_goto, g_jsr, g_icmp_eq, g_icmp_ne, g_icmp_lt, g_icmp_ge, g_icmp_gt, g_icmp_le, g_if_eq, g_if_ne, g_if_lt, g_if_ge, g_if_gt, g_if_le, g_idiv, g_irem, g_ldiv, g_iload, g_lload, g_aload, g_istore, g_astore, g_lstore, g_iinc, g_getfield, g_putfield, g_iaload, g_baload, g_laload, g_aaload, g_iastore, g_bastore, g_lastore, g_arraylength, g_call0_0, g_call0_1, g_call0_2, g_call0_3, g_call0_4, g_call1_0, g_call1_1, g_call1_2, g_call1_3, g_call1_4, g_call2_0, g_call2_1, g_call2_2, g_call2_3, g_call2_4, g_call3_0, g_call3_1, g_call3_2, g_call3_3, g_call3_4, g_call4_0, g_call4_1, g_call4_2, g_call4_3, g_call4_4, g_call5_0, g_call5_1, g_call5_2, g_call5_3, g_call5_4, g_call6_0, g_call6_1, g_call6_2, g_call6_3, g_call6_4, g_ireturn, g_lreturn, g_return, g_zreturn, sto_0, sto_s, sto2_0, sto2_s, isL_i, isL_r, isL_l, isL_j, ldI_0, ldI_9, ldZ_2, ldL_1, ldQ_3, stI_0, stL_1, stZ_2, gF_o, pF_o, lenA_9, oB_some, vI_i, vJ_j, vR_r, Option.map_some, List.getElem?_cons_zero, List.getElem?_cons_succ, Nat.reduceDiv, Nat.reduceMod, Int.reduceToNat, true_and, and_true, false_and, reduceIte, List.set_cons_zero, List.set_cons_succ, Option.toList_some, Option.toList_none, List.cons_append, List.nil_append, List.length_cons, List.length_nil, Nat.reduceAdd, Nat.reduceLeDiff, Nat.reduceLT, Nat.reduceEqDiff, and_self, and_false, Bool.false_eq_true, iI_f, i32_0, i32_1, b2i_0, b2i_n, iI_add, iI_sub, iI_mul, iI_neg, iI_lt, iI_le, iI_eq, iI_in, iI_cl, i_nn, eq_self, true_or, or_true, not_true_eq_false, not_false_eq_true, Int.reduceEq, Int.reduceLT, Int.reduceLE, Int.reduceNeg]
    exact ite_t (by omega) (hq h C K _ _ _ _ _ _ _ _ h69 h70 (fun i j hij hj h1 => hD i j hij hj (by omega)) hF)
  | succ d ih =>
    intro c h C K z5 z6 z7 z8 z9 z10 z11 hc h69 h70 hD hF
    have hFl : Fld h o (mX M) (mY M) (mM M) := ⟨hF0.1.of hF (by simp [ctS]), hF0.2.1.of hF (by simp [ctS]), hF0.2.2.1.of hF (by simp [ctS]), hF0.2.2.2.of hF (by simp [ctS])⟩
    have hO := hFl.1
    have ho := id hO
    have g68 := hO68.of hF (by simp [ctS])
    have g69 := id h69
    have g70 := id h70
    unfold Mob at ho
    unfold Bol at g68
    unfold Row at g69 g70
    have hcn : c < mM M f := by omega
    have hon : c + w < mM M f := by omega
    have lb := lgC_bd hR hcn hon
    have cb := cu_bd (op := O) (lg := lgC (fw (mX M) f) (fw (mY M) f)) mp w c (c + w) (by omega) (by omega) hon
    have ceq := cu_eq (op := O) (lg := lgC (fw (mX M) f) (fw (mY M) f)) (n := mM M f) (a := c) (b := c + w) (by omega) (by omega)
    have ew : c + w - c = w := by omega
    rw [ew] at ceq
    have eco : (10 * (c : Int) + ((c + w : Nat) : Int)).toNat = 10 * c + (c + w) := by omega
    have wbd := cuS_bd (P := fun k => cu O (lgC (fw (mX M) f) (fw (mY M) f)) (mM M f) c k) (Q := fun k => cu O (lgC (fw (mX M) f) (fw (mY M) f)) (mM M f) k (c + w)) (own := if fnB (mM M f) (c + w - c) = true then 0 else lgC (fw (mX M) f) (fw (mY M) f) c (c + w)) (a := c) (b := c + w) (w - 1) (c + 1) (cu0 w) (by omega) (by omega) (fun k k1 k2 => ⟨cu_bd mp (k - c) c k rfl k1 (by omega), cu_bd mp (c + w - k) k (c + w) rfl k2 hon⟩) (by unfold cu0; split <;> simp)
    have tb : (cuI O (lgC (fw (mX M) f) (fw (mY M) f)) (mM M f) c (c + w) (c + 1) (w - 1) (cu0 w)).1 ≤ 100000 ∧ (cuI O (lgC (fw (mX M) f) (fw (mY M) f)) (mM M f) c (c + w) (c + 1) (w - 1) (cu0 w)).2 ≤ 1000000 := by
      refine ⟨?_, wbd.2⟩
      by_cases e : w = 1
      · have e2 : w - 1 = 0 := by omega
        unfold cuI
        rw [e2, itF, e]; decide
      · have e3 := cat_s (s := w) (by omega) (by omega)
        have e4 : cu0 w = (0, 1000000) := by unfold cu0; rw [if_neg e]
        have e5 := cat_b (j := w) (by omega)
        rw [show c + 1 - c = 1 by omega, ew, e3, e4] at wbd
        have := wbd.1
        unfold cuI
        rw [ew, e4]
        omega
    -- the end of a turn
    have end1 : ∀ (fe : Bool) (own : Nat) (z : Value), fe = fnB (mM M f) w → Go 163 (blk 163 203) [.ref 56, .int (iI f), .int (iI (mM M f)), .int (iI w), .int (iI c), .int (iI ((c + w : Nat) : Int)), .int (iI (b2i fe)), .int (iI own), .int (iI ((cuI O (lgC (fw (mX M) f) (fw (mY M) f)) (mM M f) c (c + w) (c + 1) (w - 1) (cu0 w)).1 : Int)), .int (iI ((cuI O (lgC (fw (mX M) f) (fw (mY M) f)) (mM M f) c (c + w) (c + 1) (w - 1) (cu0 w)).2 : Int)), .int (iI ((c + w : Nat) : Int)), z] [] h Q := by
      intro fe own z efe
      have nxt : ∀ z10, Go 163 (blk 163 17) [.ref 56, .int (iI f), .int (iI (mM M f)), .int (iI w), .int (iI ((c : Int) + 1)), .int (iI ((c + w : Nat) : Int)), .int (iI (b2i fe)), .int (iI own), .int (iI ((cuI O (lgC (fw (mX M) f) (fw (mY M) f)) (mM M f) c (c + w) (c + 1) (w - 1) (cu0 w)).1 : Int)), .int (iI ((cuI O (lgC (fw (mX M) f) (fw (mY M) f)) (mM M f) c (c + w) (c + 1) (w - 1) (cu0 w)).2 : Int)), z10, z] [] (f_st (f_st h 69 (.inl (0, 100, .inl (fun j => iI (updZ C (10 * c + (c + w)) ((cu O (lgC (fw (mX M) f) (fw (mY M) f)) (mM M f) c (c + w)).1 : Int) j))))) 70 (.inl (0, 100, .inl (fun j => iI (updZ K (10 * c + (c + w)) ((cu O (lgC (fw (mX M) f) (fw (mY M) f)) (mM M f) c (c + w)).2 : Int) j))))) Q := by
        intro z10
        have r := ih (c + 1) (f_st (f_st h 69 (.inl (0, 100, .inl (fun j => iI (updZ C (10 * c + (c + w)) ((cu O (lgC (fw (mX M) f) (fw (mY M) f)) (mM M f) c (c + w)).1 : Int) j))))) 70 (.inl (0, 100, .inl (fun j => iI (updZ K (10 * c + (c + w)) ((cu O (lgC (fw (mX M) f) (fw (mY M) f)) (mM M f) c (c + w)).2 : Int) j))))) _ _ (.int (iI ((c + w : Nat) : Int))) (.int (iI (b2i fe))) (.int (iI own)) (.int (iI ((cuI O (lgC (fw (mX M) f) (fw (mY M) f)) (mM M f) c (c + w) (c + 1) (w - 1) (cu0 w)).1 : Int))) (.int (iI ((cuI O (lgC (fw (mX M) f) (fw (mY M) f)) (mM M f) c (c + w) (c + 1) (w - 1) (cu0 w)).2 : Int))) z10 z (by omega) (by unfold Row; rw [fg_st_n (by omega), fg_st_s]) (by unfold Row; rw [fg_st_s]) (dnC_s hD hw mp hon) ((hF.st (a := 69) (by simp [ctS])).st (a := 70) (by simp [ctS]))
        rw [show ((c + 1 : Nat) : Int) = (c : Int) + 1 by omega] at r
        exact r
      have k229 : ∀ t : Bool, t = (fnB (mM M f) w || O (10 * c + (c + w))) → Go 163 (blk 163 229) [.ref 56, .int (iI f), .int (iI (mM M f)), .int (iI w), .int (iI c), .int (iI ((c + w : Nat) : Int)), .int (iI (b2i fe)), .int (iI own), .int (iI ((cuI O (lgC (fw (mX M) f) (fw (mY M) f)) (mM M f) c (c + w) (c + 1) (w - 1) (cu0 w)).1 : Int)), .int (iI ((cuI O (lgC (fw (mX M) f) (fw (mY M) f)) (mM M f) c (c + w) (c + 1) (w - 1) (cu0 w)).2 : Int)), .int (iI ((c + w : Nat) : Int)), z] [.int (iI (b2i t))] h Q := by
        intro t et
        rw [← et] at ceq
        have r := nxt (.int (iI (b2i t)))
        rw [B163_229, b163_229]
        cases t with
        | false =>
          have c1 : cu O (lgC (fw (mX M) f) (fw (mY M) f)) (mM M f) c (c + w) = (0, 1000000) := by rw [ceq]; rfl
          rw [c1] at r
          simp (disch := omega) only [B163_253, b163_253, B163_254, b163_254, B163_282, b163_282, B163_284, b163_284, g_iconst, g_lconst, g_iadd, g_isub, g_imul, g_iand, g_ior, g_ishl, g_ishr, g_iushr, g_ladd, g_lsub, g_lmul, g_land, g_lor, g_lcmp, g_ineg, g_lshl, g_lshr, g_i2l, g_l2i, g_dupi, g_dupr, g_pop, g_dup2, g_mabs_0, g_mabs_1, g_mabs_2, g_mabs_3, g_mmax_0, g_mmax_1, g_mmax_2, g_mmax_3, g_mmin_0, g_mmin_1, g_mmin_2, g_mmin_3, g_goto, g_jsr, g_icmp_eq, g_icmp_ne, g_icmp_lt, g_icmp_ge, g_icmp_gt, g_icmp_le, g_if_eq, g_if_ne, g_if_lt, g_if_ge, g_if_gt, g_if_le, g_idiv, g_irem, g_ldiv, g_iload, g_lload, g_aload, g_istore, g_astore, g_lstore, g_iinc, g_getfield, g_putfield, g_iaload, g_baload, g_laload, g_aaload, g_iastore, g_bastore, g_lastore, g_arraylength, g_call0_0, g_call0_1, g_call0_2, g_call0_3, g_call0_4, g_call1_0, g_call1_1, g_call1_2, g_call1_3, g_call1_4, g_call2_0, g_call2_1, g_call2_2, g_call2_3, g_call2_4, g_call3_0, g_call3_1, g_call3_2, g_call3_3, g_call3_4, g_call4_0, g_call4_1, g_call4_2, g_call4_3, g_call4_4, g_call5_0, g_call5_1, g_call5_2, g_call5_3, g_call5_4, g_call6_0, g_call6_1, g_call6_2, g_call6_3, g_call6_4, g_ireturn, g_lreturn, g_return, g_zreturn, sto_0, sto_s, sto2_0, sto2_s, isL_i, isL_r, isL_l, isL_j, ldI_0, ldI_9, ldZ_2, ldL_1, ldQ_3, stI_0, stL_1, stZ_2, gF_o, pF_o, lenA_9, oB_some, vI_i, vJ_j, vR_r, Option.map_some, List.getElem?_cons_zero, List.getElem?_cons_succ, Nat.reduceDiv, Nat.reduceMod, Int.reduceToNat, true_and, and_true, false_and, reduceIte, List.set_cons_zero, List.set_cons_succ, Option.toList_some, Option.toList_none, List.cons_append, List.nil_append, List.length_cons, List.length_nil, Nat.reduceAdd, Nat.reduceLeDiff, Nat.reduceLT, Nat.reduceEqDiff, and_self, and_false, Bool.false_eq_true, ho, g69, g70, eco, upd_i, fg_st_s, fg_st_n, show b2i false = 0 from rfl, iI_f, i32_0, i32_1, b2i_0, b2i_n, iI_add, iI_sub, iI_mul, iI_neg, iI_lt, iI_le, iI_eq, iI_in, iI_cl, i_nn, eq_self, true_or, or_true, not_true_eq_false, not_false_eq_true, Int.reduceEq, Int.reduceLT, Int.reduceLE, Int.reduceNeg]
          first
            | exact r
            | exact ite_t rfl (ite_t rfl r)
        | true =>
          have c1 : cu O (lgC (fw (mX M) f) (fw (mY M) f)) (mM M f) c (c + w) = ((cuI O (lgC (fw (mX M) f) (fw (mY M) f)) (mM M f) c (c + w) (c + 1) (w - 1) (cu0 w)).1, if 0 < (cuI O (lgC (fw (mX M) f) (fw (mY M) f)) (mM M f) c (c + w) (c + 1) (w - 1) (cu0 w)).1 then (cuI O (lgC (fw (mX M) f) (fw (mY M) f)) (mM M f) c (c + w) (c + 1) (w - 1) (cu0 w)).2 else 1000000) := by rw [ceq]; rfl
          rw [c1] at r
          dsimp only at r
          simp (disch := omega) only [B163_253, b163_253, B163_254, b163_254, B163_282, b163_282, B163_284, b163_284, g_iconst, g_lconst, g_iadd, g_isub, g_imul, g_iand, g_ior, g_ishl, g_ishr, g_iushr, g_ladd, g_lsub, g_lmul, g_land, g_lor, g_lcmp, g_ineg, g_lshl, g_lshr, g_i2l, g_l2i, g_dupi, g_dupr, g_pop, g_dup2, g_mabs_0, g_mabs_1, g_mabs_2, g_mabs_3, g_mmax_0, g_mmax_1, g_mmax_2, g_mmax_3, g_mmin_0, g_mmin_1, g_mmin_2, g_mmin_3, g_goto, g_jsr, g_icmp_eq, g_icmp_ne, g_icmp_lt, g_icmp_ge, g_icmp_gt, g_icmp_le, g_if_eq, g_if_ne, g_if_lt, g_if_ge, g_if_gt, g_if_le, g_idiv, g_irem, g_ldiv, g_iload, g_lload, g_aload, g_istore, g_astore, g_lstore, g_iinc, g_getfield, g_putfield, g_iaload, g_baload, g_laload, g_aaload, g_iastore, g_bastore, g_lastore, g_arraylength, g_call0_0, g_call0_1, g_call0_2, g_call0_3, g_call0_4, g_call1_0, g_call1_1, g_call1_2, g_call1_3, g_call1_4, g_call2_0, g_call2_1, g_call2_2, g_call2_3, g_call2_4, g_call3_0, g_call3_1, g_call3_2, g_call3_3, g_call3_4, g_call4_0, g_call4_1, g_call4_2, g_call4_3, g_call4_4, g_call5_0, g_call5_1, g_call5_2, g_call5_3, g_call5_4, g_call6_0, g_call6_1, g_call6_2, g_call6_3, g_call6_4, g_ireturn, g_lreturn, g_return, g_zreturn, sto_0, sto_s, sto2_0, sto2_s, isL_i, isL_r, isL_l, isL_j, ldI_0, ldI_9, ldZ_2, ldL_1, ldQ_3, stI_0, stL_1, stZ_2, gF_o, pF_o, lenA_9, oB_some, vI_i, vJ_j, vR_r, Option.map_some, List.getElem?_cons_zero, List.getElem?_cons_succ, Nat.reduceDiv, Nat.reduceMod, Int.reduceToNat, true_and, and_true, false_and, reduceIte, List.set_cons_zero, List.set_cons_succ, Option.toList_some, Option.toList_none, List.cons_append, List.nil_append, List.length_cons, List.length_nil, Nat.reduceAdd, Nat.reduceLeDiff, Nat.reduceLT, Nat.reduceEqDiff, and_self, and_false, Bool.false_eq_true, ho, g69, g70, eco, upd_i, fg_st_s, fg_st_n, show b2i true = 1 from rfl, iI_f, i32_0, i32_1, b2i_0, b2i_n, iI_add, iI_sub, iI_mul, iI_neg, iI_lt, iI_le, iI_eq, iI_in, iI_cl, i_nn, eq_self, true_or, or_true, not_true_eq_false, not_false_eq_true, Int.reduceEq, Int.reduceLT, Int.reduceLE, Int.reduceNeg]
          refine ite_c (fun c2 => ?_) (fun c2 => ?_)
          · rw [if_neg (by omega)] at r; exact r
          · rw [if_pos (by omega)] at r; exact r
      have kt := k229 true
      have kf := k229 false
      rw [show b2i true = 1 from rfl] at kt
      rw [show b2i false = 0 from rfl] at kf
      rw [B163_203, b163_203]
      cases fe with
      | true =>
        simp (disch := omega) only [B163_224, b163_224, g_iconst, g_lconst, g_iadd, g_isub, g_imul, g_iand, g_ior, g_ishl, g_ishr, g_iushr, g_ladd, g_lsub, g_lmul, g_land, g_lor, g_lcmp, g_ineg, g_lshl, g_lshr, g_i2l, g_l2i, g_dupi, g_dupr, g_pop, g_dup2, g_mabs_0, g_mabs_1, g_mabs_2, g_mabs_3, g_mmax_0, g_mmax_1, g_mmax_2, g_mmax_3, g_mmin_0, g_mmin_1, g_mmin_2, g_mmin_3, g_goto, g_jsr, g_icmp_eq, g_icmp_ne, g_icmp_lt, g_icmp_ge, g_icmp_gt, g_icmp_le, g_if_eq, g_if_ne, g_if_lt, g_if_ge, g_if_gt, g_if_le, g_idiv, g_irem, g_ldiv, g_iload, g_lload, g_aload, g_istore, g_astore, g_lstore, g_iinc, g_getfield, g_putfield, g_iaload, g_baload, g_laload, g_aaload, g_iastore, g_bastore, g_lastore, g_arraylength, g_call0_0, g_call0_1, g_call0_2, g_call0_3, g_call0_4, g_call1_0, g_call1_1, g_call1_2, g_call1_3, g_call1_4, g_call2_0, g_call2_1, g_call2_2, g_call2_3, g_call2_4, g_call3_0, g_call3_1, g_call3_2, g_call3_3, g_call3_4, g_call4_0, g_call4_1, g_call4_2, g_call4_3, g_call4_4, g_call5_0, g_call5_1, g_call5_2, g_call5_3, g_call5_4, g_call6_0, g_call6_1, g_call6_2, g_call6_3, g_call6_4, g_ireturn, g_lreturn, g_return, g_zreturn, sto_0, sto_s, sto2_0, sto2_s, isL_i, isL_r, isL_l, isL_j, ldI_0, ldI_9, ldZ_2, ldL_1, ldQ_3, stI_0, stL_1, stZ_2, gF_o, pF_o, lenA_9, oB_some, vI_i, vJ_j, vR_r, Option.map_some, List.getElem?_cons_zero, List.getElem?_cons_succ, Nat.reduceDiv, Nat.reduceMod, Int.reduceToNat, true_and, and_true, false_and, reduceIte, List.set_cons_zero, List.set_cons_succ, Option.toList_some, Option.toList_none, List.cons_append, List.nil_append, List.length_cons, List.length_nil, Nat.reduceAdd, Nat.reduceLeDiff, Nat.reduceLT, Nat.reduceEqDiff, and_self, and_false, Bool.false_eq_true, show b2i true = 1 from rfl, iI_f, i32_0, i32_1, b2i_0, b2i_n, iI_add, iI_sub, iI_mul, iI_neg, iI_lt, iI_le, iI_eq, iI_in, iI_cl, i_nn, eq_self, true_or, or_true, not_true_eq_false, not_false_eq_true, Int.reduceEq, Int.reduceLT, Int.reduceLE, Int.reduceNeg]
        exact kt (by rw [← efe]; rfl)
      | false =>
        simp (disch := omega) only [B163_224, b163_224, B163_228, b163_228, g_iconst, g_lconst, g_iadd, g_isub, g_imul, g_iand, g_ior, g_ishl, g_ishr, g_iushr, g_ladd, g_lsub, g_lmul, g_land, g_lor, g_lcmp, g_ineg, g_lshl, g_lshr, g_i2l, g_l2i, g_dupi, g_dupr, g_pop, g_dup2, g_mabs_0, g_mabs_1, g_mabs_2, g_mabs_3, g_mmax_0, g_mmax_1, g_mmax_2, g_mmax_3, g_mmin_0, g_mmin_1, g_mmin_2, g_mmin_3, g_goto, g_jsr, g_icmp_eq, g_icmp_ne, g_icmp_lt, g_icmp_ge, g_icmp_gt, g_icmp_le, g_if_eq, g_if_ne, g_if_lt, g_if_ge, g_if_gt, g_if_le, g_idiv, g_irem, g_ldiv, g_iload, g_lload, g_aload, g_istore, g_astore, g_lstore, g_iinc, g_getfield, g_putfield, g_iaload, g_baload, g_laload, g_aaload, g_iastore, g_bastore, g_lastore, g_arraylength, g_call0_0, g_call0_1, g_call0_2, g_call0_3, g_call0_4, g_call1_0, g_call1_1, g_call1_2, g_call1_3, g_call1_4, g_call2_0, g_call2_1, g_call2_2, g_call2_3, g_call2_4, g_call3_0, g_call3_1, g_call3_2, g_call3_3, g_call3_4, g_call4_0, g_call4_1, g_call4_2, g_call4_3, g_call4_4, g_call5_0, g_call5_1, g_call5_2, g_call5_3, g_call5_4, g_call6_0, g_call6_1, g_call6_2, g_call6_3, g_call6_4, g_ireturn, g_lreturn, g_return, g_zreturn, sto_0, sto_s, sto2_0, sto2_s, isL_i, isL_r, isL_l, isL_j, ldI_0, ldI_9, ldZ_2, ldL_1, ldQ_3, stI_0, stL_1, stZ_2, gF_o, pF_o, lenA_9, oB_some, vI_i, vJ_j, vR_r, Option.map_some, List.getElem?_cons_zero, List.getElem?_cons_succ, Nat.reduceDiv, Nat.reduceMod, Int.reduceToNat, true_and, and_true, false_and, reduceIte, List.set_cons_zero, List.set_cons_succ, Option.toList_some, Option.toList_none, List.cons_append, List.nil_append, List.length_cons, List.length_nil, Nat.reduceAdd, Nat.reduceLeDiff, Nat.reduceLT, Nat.reduceEqDiff, and_self, and_false, Bool.false_eq_true, ho, g68, eco, show b2i false = 0 from rfl, iI_f, i32_0, i32_1, b2i_0, b2i_n, iI_add, iI_sub, iI_mul, iI_neg, iI_lt, iI_le, iI_eq, iI_in, iI_cl, i_nn, eq_self, true_or, or_true, not_true_eq_false, not_false_eq_true, Int.reduceEq, Int.reduceLT, Int.reduceLE, Int.reduceNeg]
        refine ite_c (fun c2 => ?_) (fun c2 => ?_)
        · exact kf (by rw [← efe, c2]; rfl)
        · rw [b2i_n] at c2
          exact kt (by rw [← efe, c2]; rfl)
    have k110 : ∀ (fe : Bool) (own : Nat) (z11 : Value), fe = fnB (mM M f) w → own = (if fe = true then 0 else lgC (fw (mX M) f) (fw (mY M) f) c (c + w)) → Go 163 (blk 163 110) [.ref 56, .int (iI f), .int (iI (mM M f)), .int (iI w), .int (iI c), .int (iI ((c + w : Nat) : Int)), .int (iI (b2i fe)), .int (iI own), .int (iI ((cu0 w).1 : Int)), .int (iI ((cu0 w).2 : Int)), .int (iI ((c : Int) + 1)), z11] [] h Q := by
      intro fe own z11 efe eown
      have r := l_cut3 (f := .int (iI f)) (w := .int (iI w)) (fe := .int (iI (b2i fe))) (Q := Q) hO h69 h70 (op := O) (lg := lgC (fw (mX M) f) (fw (mY M) f)) mp (show c < c + w by omega) hon (fun k k1 k2 => ⟨hD c k k1 (by omega) (by omega), hD k (c + w) k2 hon (by omega)⟩) (own := own) (by rw [eown]; split <;> omega) (by rw [eown, efe, ew]) (T := cuI O (lgC (fw (mX M) f) (fw (mY M) f)) (mM M f) c (c + w) (c + 1) (w - 1) (cu0 w)) (fun z => ?_) (w - 1) (c + 1) (cu0 w) z11 (by omega) (by omega) (by have : (cu0 w).1 ≤ 1 := (by unfold cu0; split <;> simp); omega) (by unfold cu0; split <;> simp) rfl
      · rw [show ((c + 1 : Nat) : Int) = (c : Int) + 1 by omega] at r
        exact r
      · exact end1 fe own z efe
    have cl := m_long2 hFl hK.2.2 (Pl.of hf hcn mp) (Pl.of hf hon mp)
    have el : (mX M (10 * f + c) - mX M (10 * f + (c + w))) * (mX M (10 * f + c) - mX M (10 * f + (c + w))) + (mY M (10 * f + c) - mY M (10 * f + (c + w))) * (mY M (10 * f + c) - mY M (10 * f + (c + w))) = ((lgC (fw (mX M) f) (fw (mY M) f) c (c + w) : Nat) : Int) := lb.2.symm
    rw [el] at cl
    have pi := m_placeI hFl hK.2.2 hf hcn
    have po := m_placeI hFl hK.2.2 hf hon
    have k77 : ∀ (fe : Bool) (own : Nat), fe = fnB (mM M f) w → own = (if fe = true then 0 else lgC (fw (mX M) f) (fw (mY M) f) c (c + w)) → Go 163 (blk 163 77) [.ref 56, .int (iI f), .int (iI (mM M f)), .int (iI w), .int (iI c), .int (iI ((c + w : Nat) : Int)), .int (iI (b2i fe)), z7, z8, z9, z10, z11] [.int (iI own)] h Q := by
      intro fe own efe eown
      have r := k110 fe own z11 efe eown
      rw [B163_77, b163_77]
      by_cases e : w = 1
      · have e4 : cu0 w = (1, 0) := by unfold cu0; rw [if_pos e]
        rw [e4] at r
        dsimp only at r
        simp (disch := omega) only [B163_88, b163_88, B163_89, b163_89, B163_100, b163_100, B163_102, b163_102, g_iconst, g_lconst, g_iadd, g_isub, g_imul, g_iand, g_ior, g_ishl, g_ishr, g_iushr, g_ladd, g_lsub, g_lmul, g_land, g_lor, g_lcmp, g_ineg, g_lshl, g_lshr, g_i2l, g_l2i, g_dupi, g_dupr, g_pop, g_dup2, g_mabs_0, g_mabs_1, g_mabs_2, g_mabs_3, g_mmax_0, g_mmax_1, g_mmax_2, g_mmax_3, g_mmin_0, g_mmin_1, g_mmin_2, g_mmin_3, g_goto, g_jsr, g_icmp_eq, g_icmp_ne, g_icmp_lt, g_icmp_ge, g_icmp_gt, g_icmp_le, g_if_eq, g_if_ne, g_if_lt, g_if_ge, g_if_gt, g_if_le, g_idiv, g_irem, g_ldiv, g_iload, g_lload, g_aload, g_istore, g_astore, g_lstore, g_iinc, g_getfield, g_putfield, g_iaload, g_baload, g_laload, g_aaload, g_iastore, g_bastore, g_lastore, g_arraylength, g_call0_0, g_call0_1, g_call0_2, g_call0_3, g_call0_4, g_call1_0, g_call1_1, g_call1_2, g_call1_3, g_call1_4, g_call2_0, g_call2_1, g_call2_2, g_call2_3, g_call2_4, g_call3_0, g_call3_1, g_call3_2, g_call3_3, g_call3_4, g_call4_0, g_call4_1, g_call4_2, g_call4_3, g_call4_4, g_call5_0, g_call5_1, g_call5_2, g_call5_3, g_call5_4, g_call6_0, g_call6_1, g_call6_2, g_call6_3, g_call6_4, g_ireturn, g_lreturn, g_return, g_zreturn, sto_0, sto_s, sto2_0, sto2_s, isL_i, isL_r, isL_l, isL_j, ldI_0, ldI_9, ldZ_2, ldL_1, ldQ_3, stI_0, stL_1, stZ_2, gF_o, pF_o, lenA_9, oB_some, vI_i, vJ_j, vR_r, Option.map_some, List.getElem?_cons_zero, List.getElem?_cons_succ, Nat.reduceDiv, Nat.reduceMod, Int.reduceToNat, true_and, and_true, false_and, reduceIte, List.set_cons_zero, List.set_cons_succ, Option.toList_some, Option.toList_none, List.cons_append, List.nil_append, List.length_cons, List.length_nil, Nat.reduceAdd, Nat.reduceLeDiff, Nat.reduceLT, Nat.reduceEqDiff, and_self, and_false, Bool.false_eq_true, isL, iI_f, i32_0, i32_1, b2i_0, b2i_n, iI_add, iI_sub, iI_mul, iI_neg, iI_lt, iI_le, iI_eq, iI_in, iI_cl, i_nn, eq_self, true_or, or_true, not_true_eq_false, not_false_eq_true, Int.reduceEq, Int.reduceLT, Int.reduceLE, Int.reduceNeg]
        exact ite_f (by omega) (ite_f (by omega) r)
      · have e4 : cu0 w = (0, 1000000) := by unfold cu0; rw [if_neg e]
        rw [e4] at r
        dsimp only at r
        simp (disch := omega) only [B163_88, b163_88, B163_89, b163_89, B163_100, b163_100, B163_102, b163_102, g_iconst, g_lconst, g_iadd, g_isub, g_imul, g_iand, g_ior, g_ishl, g_ishr, g_iushr, g_ladd, g_lsub, g_lmul, g_land, g_lor, g_lcmp, g_ineg, g_lshl, g_lshr, g_i2l, g_l2i, g_dupi, g_dupr, g_pop, g_dup2, g_mabs_0, g_mabs_1, g_mabs_2, g_mabs_3, g_mmax_0, g_mmax_1, g_mmax_2, g_mmax_3, g_mmin_0, g_mmin_1, g_mmin_2, g_mmin_3, g_goto, g_jsr, g_icmp_eq, g_icmp_ne, g_icmp_lt, g_icmp_ge, g_icmp_gt, g_icmp_le, g_if_eq, g_if_ne, g_if_lt, g_if_ge, g_if_gt, g_if_le, g_idiv, g_irem, g_ldiv, g_iload, g_lload, g_aload, g_istore, g_astore, g_lstore, g_iinc, g_getfield, g_putfield, g_iaload, g_baload, g_laload, g_aaload, g_iastore, g_bastore, g_lastore, g_arraylength, g_call0_0, g_call0_1, g_call0_2, g_call0_3, g_call0_4, g_call1_0, g_call1_1, g_call1_2, g_call1_3, g_call1_4, g_call2_0, g_call2_1, g_call2_2, g_call2_3, g_call2_4, g_call3_0, g_call3_1, g_call3_2, g_call3_3, g_call3_4, g_call4_0, g_call4_1, g_call4_2, g_call4_3, g_call4_4, g_call5_0, g_call5_1, g_call5_2, g_call5_3, g_call5_4, g_call6_0, g_call6_1, g_call6_2, g_call6_3, g_call6_4, g_ireturn, g_lreturn, g_return, g_zreturn, sto_0, sto_s, sto2_0, sto2_s, isL_i, isL_r, isL_l, isL_j, ldI_0, ldI_9, ldZ_2, ldL_1, ldQ_3, stI_0, stL_1, stZ_2, gF_o, pF_o, lenA_9, oB_some, vI_i, vJ_j, vR_r, Option.map_some, List.getElem?_cons_zero, List.getElem?_cons_succ, Nat.reduceDiv, Nat.reduceMod, Int.reduceToNat, true_and, and_true, false_and, reduceIte, List.set_cons_zero, List.set_cons_succ, Option.toList_some, Option.toList_none, List.cons_append, List.nil_append, List.length_cons, List.length_nil, Nat.reduceAdd, Nat.reduceLeDiff, Nat.reduceLT, Nat.reduceEqDiff, and_self, and_false, Bool.false_eq_true, isL, iI_f, i32_0, i32_1, b2i_0, b2i_n, iI_add, iI_sub, iI_mul, iI_neg, iI_lt, iI_le, iI_eq, iI_in, iI_cl, i_nn, eq_self, true_or, or_true, not_true_eq_false, not_false_eq_true, Int.reduceEq, Int.reduceLT, Int.reduceLE, Int.reduceNeg]
        exact ite_t (by omega) (ite_t (by omega) r)
    have k48 : ∀ fe : Bool, fe = fnB (mM M f) w → Go 163 (blk 163 48) [.ref 56, .int (iI f), .int (iI (mM M f)), .int (iI w), .int (iI c), .int (iI ((c + w : Nat) : Int)), z6, z7, z8, z9, z10, z11] [.int (iI (b2i fe))] h Q := by
      intro fe efe
      have r := k77 fe (if fe = true then 0 else lgC (fw (mX M) f) (fw (mY M) f) c (c + w)) efe rfl
      rw [B163_48, b163_48]
      cases fe with
      | true =>
        rw [if_pos rfl] at r
        simp (disch := omega) only [g_iconst, g_lconst, g_iadd, g_isub, g_imul, g_iand, g_ior, g_ishl, g_ishr, g_iushr, g_ladd, g_lsub, g_lmul, g_land, g_lor, g_lcmp, g_ineg, g_lshl, g_lshr, g_i2l, g_l2i, g_dupi, g_dupr, g_pop, g_dup2, g_mabs_0, g_mabs_1, g_mabs_2, g_mabs_3, g_mmax_0, g_mmax_1, g_mmax_2, g_mmax_3, g_mmin_0, g_mmin_1, g_mmin_2, g_mmin_3, g_goto, g_jsr, g_icmp_eq, g_icmp_ne, g_icmp_lt, g_icmp_ge, g_icmp_gt, g_icmp_le, g_if_eq, g_if_ne, g_if_lt, g_if_ge, g_if_gt, g_if_le, g_idiv, g_irem, g_ldiv, g_iload, g_lload, g_aload, g_istore, g_astore, g_lstore, g_iinc, g_getfield, g_putfield, g_iaload, g_baload, g_laload, g_aaload, g_iastore, g_bastore, g_lastore, g_arraylength, g_call0_0, g_call0_1, g_call0_2, g_call0_3, g_call0_4, g_call1_0, g_call1_1, g_call1_2, g_call1_3, g_call1_4, g_call2_0, g_call2_1, g_call2_2, g_call2_3, g_call2_4, g_call3_0, g_call3_1, g_call3_2, g_call3_3, g_call3_4, g_call4_0, g_call4_1, g_call4_2, g_call4_3, g_call4_4, g_call5_0, g_call5_1, g_call5_2, g_call5_3, g_call5_4, g_call6_0, g_call6_1, g_call6_2, g_call6_3, g_call6_4, g_ireturn, g_lreturn, g_return, g_zreturn, sto_0, sto_s, sto2_0, sto2_s, isL_i, isL_r, isL_l, isL_j, ldI_0, ldI_9, ldZ_2, ldL_1, ldQ_3, stI_0, stL_1, stZ_2, gF_o, pF_o, lenA_9, oB_some, vI_i, vJ_j, vR_r, Option.map_some, List.getElem?_cons_zero, List.getElem?_cons_succ, Nat.reduceDiv, Nat.reduceMod, Int.reduceToNat, true_and, and_true, false_and, reduceIte, List.set_cons_zero, List.set_cons_succ, Option.toList_some, Option.toList_none, List.cons_append, List.nil_append, List.length_cons, List.length_nil, Nat.reduceAdd, Nat.reduceLeDiff, Nat.reduceLT, Nat.reduceEqDiff, and_self, and_false, Bool.false_eq_true, isL, show b2i true = 1 from rfl, iI_f, i32_0, i32_1, b2i_0, b2i_n, iI_add, iI_sub, iI_mul, iI_neg, iI_lt, iI_le, iI_eq, iI_in, iI_cl, i_nn, eq_self, true_or, or_true, not_true_eq_false, not_false_eq_true, Int.reduceEq, Int.reduceLT, Int.reduceLE, Int.reduceNeg]
        exact r
      | false =>
        rw [if_neg (by decide)] at r
        simp (disch := omega) only [B163_59, b163_59, g_iconst, g_lconst, g_iadd, g_isub, g_imul, g_iand, g_ior, g_ishl, g_ishr, g_iushr, g_ladd, g_lsub, g_lmul, g_land, g_lor, g_lcmp, g_ineg, g_lshl, g_lshr, g_i2l, g_l2i, g_dupi, g_dupr, g_pop, g_dup2, g_mabs_0, g_mabs_1, g_mabs_2, g_mabs_3, g_mmax_0, g_mmax_1, g_mmax_2, g_mmax_3, g_mmin_0, g_mmin_1, g_mmin_2, g_mmin_3, g_goto, g_jsr, g_icmp_eq, g_icmp_ne, g_icmp_lt, g_icmp_ge, g_icmp_gt, g_icmp_le, g_if_eq, g_if_ne, g_if_lt, g_if_ge, g_if_gt, g_if_le, g_idiv, g_irem, g_ldiv, g_iload, g_lload, g_aload, g_istore, g_astore, g_lstore, g_iinc, g_getfield, g_putfield, g_iaload, g_baload, g_laload, g_aaload, g_iastore, g_bastore, g_lastore, g_arraylength, g_call0_0, g_call0_1, g_call0_2, g_call0_3, g_call0_4, g_call1_0, g_call1_1, g_call1_2, g_call1_3, g_call1_4, g_call2_0, g_call2_1, g_call2_2, g_call2_3, g_call2_4, g_call3_0, g_call3_1, g_call3_2, g_call3_3, g_call3_4, g_call4_0, g_call4_1, g_call4_2, g_call4_3, g_call4_4, g_call5_0, g_call5_1, g_call5_2, g_call5_3, g_call5_4, g_call6_0, g_call6_1, g_call6_2, g_call6_3, g_call6_4, g_ireturn, g_lreturn, g_return, g_zreturn, sto_0, sto_s, sto2_0, sto2_s, isL_i, isL_r, isL_l, isL_j, ldI_0, ldI_9, ldZ_2, ldL_1, ldQ_3, stI_0, stL_1, stZ_2, gF_o, pF_o, lenA_9, oB_some, vI_i, vJ_j, vR_r, Option.map_some, List.getElem?_cons_zero, List.getElem?_cons_succ, Nat.reduceDiv, Nat.reduceMod, Int.reduceToNat, true_and, and_true, false_and, reduceIte, List.set_cons_zero, List.set_cons_succ, Option.toList_some, Option.toList_none, List.cons_append, List.nil_append, List.length_cons, List.length_nil, Nat.reduceAdd, Nat.reduceLeDiff, Nat.reduceLT, Nat.reduceEqDiff, and_self, and_false, Bool.false_eq_true, isL, pi, po, cl, show b2i false = 0 from rfl, iI_f, i32_0, i32_1, b2i_0, b2i_n, iI_add, iI_sub, iI_mul, iI_neg, iI_lt, iI_le, iI_eq, iI_in, iI_cl, i_nn, eq_self, true_or, or_true, not_true_eq_false, not_false_eq_true, Int.reduceEq, Int.reduceLT, Int.reduceLE, Int.reduceNeg]
        exact r
    have kt := k48 true
    have kf := k48 false
    rw [show b2i true = 1 from rfl] at kt
    rw [show b2i false = 0 from rfl] at kf
    push_cast at kt kf
    rw [B163_17, b163_17]
    simp (disch := omega) only [B163_43, b163_43, B163_47, b163_47, g_iconst, g_lconst, g_iadd, g_isub, g_imul, g_iand, g_ior, g_ishl, g_ishr, g_iushr, g_ladd, g_lsub, g_lmul, g_land, g_lor, g_lcmp, g_ineg, g_lshl, g_lshr, g_i2l, g_l2i, g_dupi, g_dupr, g_pop, g_dup2, g_mabs_0, g_mabs_1, g_mabs_2, g_mabs_3, g_mmax_0, g_mmax_1, g_mmax_2, g_mmax_3, g_mmin_0, g_mmin_1, g_mmin_2, g_mmin_3, g_goto, g_jsr, g_icmp_eq, g_icmp_ne, g_icmp_lt, g_icmp_ge, g_icmp_gt, g_icmp_le, g_if_eq, g_if_ne, g_if_lt, g_if_ge, g_if_gt, g_if_le, g_idiv, g_irem, g_ldiv, g_iload, g_lload, g_aload, g_istore, g_astore, g_lstore, g_iinc, g_getfield, g_putfield, g_iaload, g_baload, g_laload, g_aaload, g_iastore, g_bastore, g_lastore, g_arraylength, g_call0_0, g_call0_1, g_call0_2, g_call0_3, g_call0_4, g_call1_0, g_call1_1, g_call1_2, g_call1_3, g_call1_4, g_call2_0, g_call2_1, g_call2_2, g_call2_3, g_call2_4, g_call3_0, g_call3_1, g_call3_2, g_call3_3, g_call3_4, g_call4_0, g_call4_1, g_call4_2, g_call4_3, g_call4_4, g_call5_0, g_call5_1, g_call5_2, g_call5_3, g_call5_4, g_call6_0, g_call6_1, g_call6_2, g_call6_3, g_call6_4, g_ireturn, g_lreturn, g_return, g_zreturn, sto_0, sto_s, sto2_0, sto2_s, isL_i, isL_r, isL_l, isL_j, ldI_0, ldI_9, ldZ_2, ldL_1, ldQ_3, stI_0, stL_1, stZ_2, gF_o, pF_o, lenA_9, oB_some, vI_i, vJ_j, vR_r, Option.map_some, List.getElem?_cons_zero, List.getElem?_cons_succ, Nat.reduceDiv, Nat.reduceMod, Int.reduceToNat, true_and, and_true, false_and, reduceIte, List.set_cons_zero, List.set_cons_succ, Option.toList_some, Option.toList_none, List.cons_append, List.nil_append, List.length_cons, List.length_nil, Nat.reduceAdd, Nat.reduceLeDiff, Nat.reduceLT, Nat.reduceEqDiff, and_self, and_false, Bool.false_eq_true, iI_f, i32_0, i32_1, b2i_0, b2i_n, iI_add, iI_sub, iI_mul, iI_neg, iI_lt, iI_le, iI_eq, iI_in, iI_cl, i_nn, eq_self, true_or, or_true, not_true_eq_false, not_false_eq_true, Int.reduceEq, Int.reduceLT, Int.reduceLE, Int.reduceNeg]
    refine ite_f (by omega) (ite_c (fun c1 => ?_) (fun c1 => ite_c (fun c2 => ?_) (fun c2 => ?_)))
    · exact kt (by unfold fnB; rw [decide_eq_true (by omega)])
    · exact kf (by unfold fnB; rw [decide_eq_false (by omega)])
    · exact kt (by unfold fnB; rw [decide_eq_true (by omega)])
set_option maxRecDepth 10000 in
theorem l_cut1 {h0 : fH} {M : MZ} (hM : Mdl h0 M) (hK : Mok M) {f : Nat} (hf : f < 4) {O : Nat → Bool} (hO68 : Bol h0 68 100 O) {Q : Option Value → fH → Prop} (hq : ∀ h' C K, Row h' 69 100 C → Row h' 70 100 K → dnC O (lgC (fw (mX M) f) (fw (mY M) f)) (mM M f) (mM M f) 0 C K → Fr h0 h' ctS → Q none h') : ∀ (d w : Nat) (h : fH) (C K : Nat → Int) (z4 z5 z6 z7 z8 z9 z10 z11 : Value), 0 < w → w + d = mM M f → Row h 69 100 C → Row h 70 100 K → dnC O (lgC (fw (mX M) f) (fw (mY M) f)) (mM M f) w 0 C K → Fr h0 h ctS →
    Go 163 (blk 163 9) [.ref 56, .int (iI f), .int (iI (mM M f)), .int (iI w), z4, z5, z6, z7, z8, z9, z10, z11] [] h Q := by
  have mp := (hK.2.2 f hf).1
  intro d
  induction d with
  | zero =>
    intro w h C K z4 z5 z6 z7 z8 z9 z10 z11 hw hd h69 h70 hD hF
    obtain rfl : w = mM M f := by omega
    rw [B163_9, b163_9]
    simp (disch := omega) only [B163_297, b163_297, g_iconst, g_lconst, g_iadd, g_isub, g_imul, g_iand, g_ior, g_ishl, g_ishr, g_iushr, g_ladd, g_lsub, g_lmul, g_land, g_lor, g_lcmp, g_ineg, g_lshl, g_lshr, g_i2l, g_l2i, g_dupi, g_dupr, g_pop, g_dup2, g_mabs_0, g_mabs_1, g_mabs_2, g_mabs_3, g_mmax_0, g_mmax_1, g_mmax_2, g_mmax_3, g_mmin_0, g_mmin_1, g_mmin_2, g_mmin_3, g_goto, g_jsr, g_icmp_eq, g_icmp_ne, g_icmp_lt, g_icmp_ge, g_icmp_gt, g_icmp_le, g_if_eq, g_if_ne, g_if_lt, g_if_ge, g_if_gt, g_if_le, g_idiv, g_irem, g_ldiv, g_iload, g_lload, g_aload, g_istore, g_astore, g_lstore, g_iinc, g_getfield, g_putfield, g_iaload, g_baload, g_laload, g_aaload, g_iastore, g_bastore, g_lastore, g_arraylength, g_call0_0, g_call0_1, g_call0_2, g_call0_3, g_call0_4, g_call1_0, g_call1_1, g_call1_2, g_call1_3, g_call1_4, g_call2_0, g_call2_1, g_call2_2, g_call2_3, g_call2_4, g_call3_0, g_call3_1, g_call3_2, g_call3_3, g_call3_4, g_call4_0, g_call4_1, g_call4_2, g_call4_3, g_call4_4, g_call5_0, g_call5_1, g_call5_2, g_call5_3, g_call5_4, g_call6_0, g_call6_1, g_call6_2, g_call6_3, g_call6_4, g_ireturn, g_lreturn, g_return, g_zreturn, sto_0, sto_s, sto2_0, sto2_s, isL_i, isL_r, isL_l, isL_j, ldI_0, ldI_9, ldZ_2, ldL_1, ldQ_3, stI_0, stL_1, stZ_2, gF_o, pF_o, lenA_9, oB_some, vI_i, vJ_j, vR_r, Option.map_some, List.getElem?_cons_zero, List.getElem?_cons_succ, Nat.reduceDiv, Nat.reduceMod, Int.reduceToNat, true_and, and_true, false_and, reduceIte, List.set_cons_zero, List.set_cons_succ, Option.toList_some, Option.toList_none, List.cons_append, List.nil_append, List.length_cons, List.length_nil, Nat.reduceAdd, Nat.reduceLeDiff, Nat.reduceLT, Nat.reduceEqDiff, and_self, and_false, Bool.false_eq_true, iI_f, i32_0, i32_1, b2i_0, b2i_n, iI_add, iI_sub, iI_mul, iI_neg, iI_lt, iI_le, iI_eq, iI_in, iI_cl, i_nn, eq_self, true_or, or_true, not_true_eq_false, not_false_eq_true, Int.reduceEq, Int.reduceLT, Int.reduceLE, Int.reduceNeg]
    exact ite_t (by omega) (hq h C K h69 h70 hD hF)
  | succ d ih =>
    intro w h C K z4 z5 z6 z7 z8 z9 z10 z11 hw hd h69 h70 hD hF
    have q := hM.2.2.2.2
    obtain ⟨o, eo, hF0⟩ := hM.fld
    have hMh : Mdl h M := (hM.scr (hF.mono (fun k z => by simp only [ctS] at z; simp only [scS]; omega)) ⟨o, eo, hF0.1.of hF (by simp [ctS])⟩ ⟨rw_ex q.1 hF (by simp [ctS]), rw_ex q.2.1 hF (by simp [ctS]), rw_ex q.2.2.1 hF (by simp [ctS]), rw_ex q.2.2.2.1 hF (by simp [ctS]), rw_ex q.2.2.2.2.1 hF (by simp [ctS]), rw_ex q.2.2.2.2.2.1 hF (by simp [ctS]), bl_ex q.2.2.2.2.2.2.1 hF (by simp [ctS]), bl_ex q.2.2.2.2.2.2.2.1 hF (by simp [ctS]), ⟨_, h69⟩, ⟨_, h70⟩, rw_ex q.2.2.2.2.2.2.2.2.2.2.1 hF (by simp [ctS]), rw_ex q.2.2.2.2.2.2.2.2.2.2.2 hF (by simp [ctS])⟩).1
    rw [B163_9, b163_9]
    simp (disch := omega) only [g_iconst, g_lconst, g_iadd, g_isub, g_imul, g_iand, g_ior, g_ishl, g_ishr, g_iushr, g_ladd, g_lsub, g_lmul, g_land, g_lor, g_lcmp, g_ineg, g_lshl, g_lshr, g_i2l, g_l2i, g_dupi, g_dupr, g_pop, g_dup2, g_mabs_0, g_mabs_1, g_mabs_2, g_mabs_3, g_mmax_0, g_mmax_1, g_mmax_2, g_mmax_3, g_mmin_0, g_mmin_1, g_mmin_2, g_mmin_3, g_goto, g_jsr, g_icmp_eq, g_icmp_ne, g_icmp_lt, g_icmp_ge, g_icmp_gt, g_icmp_le, g_if_eq, g_if_ne, g_if_lt, g_if_ge, g_if_gt, g_if_le, g_idiv, g_irem, g_ldiv, g_iload, g_lload, g_aload, g_istore, g_astore, g_lstore, g_iinc, g_getfield, g_putfield, g_iaload, g_baload, g_laload, g_aaload, g_iastore, g_bastore, g_lastore, g_arraylength, g_call0_0, g_call0_1, g_call0_2, g_call0_3, g_call0_4, g_call1_0, g_call1_1, g_call1_2, g_call1_3, g_call1_4, g_call2_0, g_call2_1, g_call2_2, g_call2_3, g_call2_4, g_call3_0, g_call3_1, g_call3_2, g_call3_3, g_call3_4, g_call4_0, g_call4_1, g_call4_2, g_call4_3, g_call4_4, g_call5_0, g_call5_1, g_call5_2, g_call5_3, g_call5_4, g_call6_0, g_call6_1, g_call6_2, g_call6_3, g_call6_4, g_ireturn, g_lreturn, g_return, g_zreturn, sto_0, sto_s, sto2_0, sto2_s, isL_i, isL_r, isL_l, isL_j, ldI_0, ldI_9, ldZ_2, ldL_1, ldQ_3, stI_0, stL_1, stZ_2, gF_o, pF_o, lenA_9, oB_some, vI_i, vJ_j, vR_r, Option.map_some, List.getElem?_cons_zero, List.getElem?_cons_succ, Nat.reduceDiv, Nat.reduceMod, Int.reduceToNat, true_and, and_true, false_and, reduceIte, List.set_cons_zero, List.set_cons_succ, Option.toList_some, Option.toList_none, List.cons_append, List.nil_append, List.length_cons, List.length_nil, Nat.reduceAdd, Nat.reduceLeDiff, Nat.reduceLT, Nat.reduceEqDiff, and_self, and_false, Bool.false_eq_true, iI_f, i32_0, i32_1, b2i_0, b2i_n, iI_add, iI_sub, iI_mul, iI_neg, iI_lt, iI_le, iI_eq, iI_in, iI_cl, i_nn, eq_self, true_or, or_true, not_true_eq_false, not_false_eq_true, Int.reduceEq, Int.reduceLT, Int.reduceLE, Int.reduceNeg]
    refine ite_f (by omega) ?_
    refine l_cut2 hMh hK hf (hO68.of hF (by simp [ctS])) hw (by omega) (fun h' C' K' y4 y5 y6 y7 y8 y9 y10 y11 e1 e2 e3 e4 => ?_) (mM M f - w) 0 h C K z5 z6 z7 z8 z9 z10 z11 (by omega) h69 h70 hD Fr.rf
    have r := ih (w + 1) h' C' K' y4 y5 y6 y7 y8 y9 y10 y11 (by omega) (by omega) e1 e2 e3 (hF.tr e4 (fun _ q => q) (fun _ q => q))
    rw [B163_291, b163_291]
    simp (disch := omega) only [g_iconst, g_lconst, g_iadd, g_isub, g_imul, g_iand, g_ior, g_ishl, g_ishr, g_iushr, g_ladd, g_lsub, g_lmul, g_land, g_lor, g_lcmp, g_ineg, g_lshl, g_lshr, g_i2l, g_l2i, g_dupi, g_dupr, g_pop, g_dup2, g_mabs_0, g_mabs_1, g_mabs_2, g_mabs_3, g_mmax_0, g_mmax_1, g_mmax_2, g_mmax_3, g_mmin_0, g_mmin_1, g_mmin_2, g_mmin_3, g_goto, g_jsr, g_icmp_eq, g_icmp_ne, g_icmp_lt, g_icmp_ge, g_icmp_gt, g_icmp_le, g_if_eq, g_if_ne, g_if_lt, g_if_ge, g_if_gt, g_if_le, g_idiv, g_irem, g_ldiv, g_iload, g_lload, g_aload, g_istore, g_astore, g_lstore, g_iinc, g_getfield, g_putfield, g_iaload, g_baload, g_laload, g_aaload, g_iastore, g_bastore, g_lastore, g_arraylength, g_call0_0, g_call0_1, g_call0_2, g_call0_3, g_call0_4, g_call1_0, g_call1_1, g_call1_2, g_call1_3, g_call1_4, g_call2_0, g_call2_1, g_call2_2, g_call2_3, g_call2_4, g_call3_0, g_call3_1, g_call3_2, g_call3_3, g_call3_4, g_call4_0, g_call4_1, g_call4_2, g_call4_3, g_call4_4, g_call5_0, g_call5_1, g_call5_2, g_call5_3, g_call5_4, g_call6_0, g_call6_1, g_call6_2, g_call6_3, g_call6_4, g_ireturn, g_lreturn, g_return, g_zreturn, sto_0, sto_s, sto2_0, sto2_s, isL_i, isL_r, isL_l, isL_j, ldI_0, ldI_9, ldZ_2, ldL_1, ldQ_3, stI_0, stL_1, stZ_2, gF_o, pF_o, lenA_9, oB_some, vI_i, vJ_j, vR_r, Option.map_some, List.getElem?_cons_zero, List.getElem?_cons_succ, Nat.reduceDiv, Nat.reduceMod, Int.reduceToNat, true_and, and_true, false_and, reduceIte, List.set_cons_zero, List.set_cons_succ, Option.toList_some, Option.toList_none, List.cons_append, List.nil_append, List.length_cons, List.length_nil, Nat.reduceAdd, Nat.reduceLeDiff, Nat.reduceLT, Nat.reduceEqDiff, and_self, and_false, Bool.false_eq_true, iI_f, i32_0, i32_1, b2i_0, b2i_n, iI_add, iI_sub, iI_mul, iI_neg, iI_lt, iI_le, iI_eq, iI_in, iI_cl, i_nn, eq_self, true_or, or_true, not_true_eq_false, not_false_eq_true, Int.reduceEq, Int.reduceLT, Int.reduceLE, Int.reduceNeg]
    push_cast at r
    exact r
/-- all the pairs' cuts stand in the rows -/
def allC (op : Nat → Bool) (lg : Nat → Nat → Nat) (n : Nat) (C K : Nat → Int) : Prop := ∀ i j, i < j → j < n → atC op lg n C K i j
theorem Mdl.ctr {h h' : fH} {M : MZ} (hM : Mdl h M) (hF : Fr h h' ctS) (h69 : ∃ f, Row h' 69 100 f) (h70 : ∃ f, Row h' 70 100 f) : Mdl h' M := by
  have q := hM.2.2.2.2
  obtain ⟨o, eo, hF0⟩ := hM.fld
  exact (hM.scr (hF.mono (fun k z => by simp only [ctS] at z; simp only [scS]; omega)) ⟨o, eo, hF0.1.of hF (by simp [ctS])⟩ ⟨rw_ex q.1 hF (by simp [ctS]), rw_ex q.2.1 hF (by simp [ctS]), rw_ex q.2.2.1 hF (by simp [ctS]), rw_ex q.2.2.2.1 hF (by simp [ctS]), rw_ex q.2.2.2.2.1 hF (by simp [ctS]), rw_ex q.2.2.2.2.2.1 hF (by simp [ctS]), bl_ex q.2.2.2.2.2.2.1 hF (by simp [ctS]), bl_ex q.2.2.2.2.2.2.2.1 hF (by simp [ctS]), h69, h70, rw_ex q.2.2.2.2.2.2.2.2.2.2.1 hF (by simp [ctS]), rw_ex q.2.2.2.2.2.2.2.2.2.2.2 hF (by simp [ctS])⟩).1
set_option maxRecDepth 10000 in
theorem m_layCuts {h : fH} {M : MZ} (hM : Mdl h M) (hK : Mok M) {f : Nat} (hf : f < 4) (h0n : 0 < mM M f) {O : Nat → Bool} (hO68 : Bol h 68 100 O) {Q : Option Value → fH → Prop} (hq : ∀ h' C K, Row h' 69 100 C → Row h' 70 100 K → allC O (lgC (fw (mX M) f) (fw (mY M) f)) (mM M f) C K → Mdl h' M → Fr h h' ctS → Q none h') : Call 163 [.ref 56, .int (iI f)] h Q := by
  obtain ⟨o, eo, hF0⟩ := hM.fld
  have ho := id hF0.1
  have r3 := id hF0.2.2.2
  unfold Mob at ho
  unfold Row at r3
  have mp := (hK.2.2 f hf).1
  obtain ⟨C, h69⟩ := hM.2.2.2.2.2.2.2.2.2.2.2.2.1
  obtain ⟨K, h70⟩ := hM.2.2.2.2.2.2.2.2.2.2.2.2.2.1
  refine ⟨by simp [vOK, entL, isL, mlT, kdT, clT, isO, ho], rfl, ?_⟩
  rw [show ent 163 [.ref 56, .int (iI f)] = [.ref 56, .int (iI f), jk, jk, jk, jk, jk, jk, jk, jk, jk, jk] from rfl]
  simp (disch := omega) only [B163_0, b163_0, g_iconst, g_lconst, g_iadd, g_isub, g_imul, g_iand, g_ior, g_ishl, g_ishr, g_iushr, g_ladd, g_lsub, g_lmul, g_land, g_lor, g_lcmp, g_ineg, g_lshl, g_lshr, g_i2l, g_l2i, g_dupi, g_dupr, g_pop, g_dup2, g_mabs_0, g_mabs_1, g_mabs_2, g_mabs_3, g_mmax_0, g_mmax_1, g_mmax_2, g_mmax_3, g_mmin_0, g_mmin_1, g_mmin_2, g_mmin_3, g_goto, g_jsr, g_icmp_eq, g_icmp_ne, g_icmp_lt, g_icmp_ge, g_icmp_gt, g_icmp_le, g_if_eq, g_if_ne, g_if_lt, g_if_ge, g_if_gt, g_if_le, g_idiv, g_irem, g_ldiv, g_iload, g_lload, g_aload, g_istore, g_astore, g_lstore, g_iinc, g_getfield, g_putfield, g_iaload, g_baload, g_laload, g_aaload, g_iastore, g_bastore, g_lastore, g_arraylength, g_call0_0, g_call0_1, g_call0_2, g_call0_3, g_call0_4, g_call1_0, g_call1_1, g_call1_2, g_call1_3, g_call1_4, g_call2_0, g_call2_1, g_call2_2, g_call2_3, g_call2_4, g_call3_0, g_call3_1, g_call3_2, g_call3_3, g_call3_4, g_call4_0, g_call4_1, g_call4_2, g_call4_3, g_call4_4, g_call5_0, g_call5_1, g_call5_2, g_call5_3, g_call5_4, g_call6_0, g_call6_1, g_call6_2, g_call6_3, g_call6_4, g_ireturn, g_lreturn, g_return, g_zreturn, sto_0, sto_s, sto2_0, sto2_s, isL_i, isL_r, isL_l, isL_j, ldI_0, ldI_9, ldZ_2, ldL_1, ldQ_3, stI_0, stL_1, stZ_2, gF_o, pF_o, lenA_9, oB_some, vI_i, vJ_j, vR_r, Option.map_some, List.getElem?_cons_zero, List.getElem?_cons_succ, Nat.reduceDiv, Nat.reduceMod, Int.reduceToNat, true_and, and_true, false_and, reduceIte, List.set_cons_zero, List.set_cons_succ, Option.toList_some, Option.toList_none, List.cons_append, List.nil_append, List.length_cons, List.length_nil, Nat.reduceAdd, Nat.reduceLeDiff, Nat.reduceLT, Nat.reduceEqDiff, and_self, and_false, Bool.false_eq_true, ho, r3, isL, iI_f, i32_0, i32_1, b2i_0, b2i_n, iI_add, iI_sub, iI_mul, iI_neg, iI_lt, iI_le, iI_eq, iI_in, iI_cl, i_nn, eq_self, true_or, or_true, not_true_eq_false, not_false_eq_true, Int.reduceEq, Int.reduceLT, Int.reduceLE, Int.reduceNeg]
  exact l_cut1 hM hK hf hO68 (fun h' C' K' e1 e2 e3 e4 => hq h' C' K' e1 e2 (fun i j hij hj => e3 i j hij hj (by omega)) (hM.ctr e4 ⟨_, e1⟩ ⟨_, e2⟩) e4) (mM M f - 1) 1 h C K jk jk jk jk jk jk jk jk (by omega) (by omega) h69 h70 (fun i j hij hj h1 => by omega) Fr.rf
