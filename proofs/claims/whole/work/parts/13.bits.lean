/-! Sets of corners as bits. -/
def bitsN (p : Nat → Bool) : Nat → Nat
  | 0 => 0
  | k + 1 => bitsN p k ||| (if p k = true then 2 ^ k else 0)
def bits (p : Nat → Bool) : Nat := bitsN p 10
theorem bitsN_test (p : Nat → Bool) (j : Nat) : ∀ k, (bitsN p k).testBit j = (decide (j < k) && p j)
  | 0 => by simp [bitsN]
  | k + 1 => by
    rw [bitsN, Nat.testBit_or, bitsN_test p j k]
    by_cases hk : p k = true
    · rw [if_pos hk, Nat.testBit_two_pow]
      by_cases hj : k = j
      · subst hj; simp [hk]
      · by_cases h2 : j < k
        · simp [hj, h2, show j < k + 1 by omega]
        · simp [hj, h2, show ¬ j < k + 1 by omega]
    · rw [if_neg hk, Nat.zero_testBit]
      by_cases hj : k = j
      · subst hj; simp [hk]
      · by_cases h2 : j < k
        · simp [h2, show j < k + 1 by omega]
        · simp [h2, show ¬ j < k + 1 by omega]
theorem bits_test (p : Nat → Bool) (j : Nat) : (bits p).testBit j = (decide (j < 10) && p j) := bitsN_test p j 10
theorem lt_of_test {m k : Nat} (h : ∀ j, k ≤ j → m.testBit j = false) : m < 2 ^ k := Nat.lt_pow_two_of_testBit m (fun i hi => h i hi)
theorem bits_lt (p : Nat → Bool) : bits p < 1024 := lt_of_test (k := 10) (fun j hj => by rw [bits_test]; simp; omega)
theorem test_big {m j : Nat} (h : m < 1024) (hj : 10 ≤ j) : m.testBit j = false := Nat.testBit_lt_two_pow (Nat.lt_of_lt_of_le h (Nat.pow_le_pow_right (n := 2) (by omega) (show 10 ≤ j from hj)))
theorem bits_eq {m : Nat} {p : Nat → Bool} (hm : m < 1024) (h : ∀ j, j < 10 → m.testBit j = p j) : m = bits p := by
  apply Nat.eq_of_testBit_eq
  intro j
  rw [bits_test]
  by_cases hj : j < 10
  · simp [hj, h j hj]
  · simp [hj, test_big (j := j) hm (by omega)]
theorem bits_congr {p q : Nat → Bool} (h : ∀ j, j < 10 → p j = q j) : bits p = bits q := bits_eq (bits_lt p) (fun j hj => by rw [bits_test]; simp [hj, h j hj])
theorem bits_or (p : Nat → Bool) {b : Nat} (hb : b < 10) : bits p ||| 2 ^ b = bits (fun j => p j || decide (j = b)) := by
  apply Nat.eq_of_testBit_eq
  intro j
  rw [Nat.testBit_or, bits_test, bits_test, Nat.testBit_two_pow]
  by_cases hj : j = b
  · subst hj; simp [hb]
  · simp [hj, Ne.symm hj]
theorem or_lt {a b : Nat} (ha : a < 1024) (hb : b < 1024) : a ||| b < 1024 := Nat.or_lt_two_pow (n := 10) ha hb
theorem p2_lt {b : Nat} (h : b < 10) : 2 ^ b < 1024 := Nat.pow_lt_pow_right (a := 2) (by omega) (show b < 10 from h)
theorem i_or (a b : Nat) : iI a ||| iI b = iI ((a ||| b : Nat) : Int) := by
  rw [← iI_nat, ← iI_nat, ← iI_nat]
  apply Int32.toBitVec_inj.mp
  have e : ∀ n, (Int32.ofNat n).toBitVec = BitVec.ofNat 32 n := fun _ => rfl
  rw [Int32.toBitVec_or, e, e, e]
  apply BitVec.eq_of_getLsbD_eq
  intro i hi
  simp [BitVec.getLsbD_ofNat, Nat.testBit_or]
theorem shl_all : ∀ b : Nat, b < 11 → iI 1 <<< (iI b &&& 31) = iI ((2 ^ b : Nat) : Int) := by decide +kernel
theorem i_shl {b : Nat} (hb : b < 11) : iI 1 <<< (iI b &&& 31) = iI ((2 ^ b : Nat) : Int) := shl_all b hb
theorem bit_all : (List.range 1024).all (fun m => (List.range 10).all (fun b => decide ((iI (m : Int) >>> (iI (b : Int) &&& 31)) &&& iI 1 = iI (b2i (m.testBit b))))) = true := by decide +kernel
theorem i_bit {m b : Nat} (hm : m < 1024) (hb : b < 10) : (iI m >>> (iI b &&& 31)) &&& iI 1 = iI (b2i (m.testBit b)) := of_decide_eq_true (List.all_eq_true.mp (List.all_eq_true.mp bit_all m (List.mem_range.mpr hm)) b (List.mem_range.mpr hb))
/-- how many -/
def pop (m : Nat) : Nat := itF (fun i s => s + (if m.testBit i = true then 1 else 0)) 0 10 0
def bcF (x : Int32) : Int32 :=
  let a := x - ((x.toUInt32 >>> ((iI 1).toUInt32 &&& Int32.toUInt32 31)).toInt32 &&& iI 1431655765)
  let b := (a &&& iI 858993459) + ((a.toUInt32 >>> ((iI 2).toUInt32 &&& Int32.toUInt32 31)).toInt32 &&& iI 858993459)
  let c := (b + (b.toUInt32 >>> ((iI 4).toUInt32 &&& Int32.toUInt32 31)).toInt32) &&& iI 252645135
  let d := c + (c.toUInt32 >>> ((iI 8).toUInt32 &&& Int32.toUInt32 31)).toInt32
  let e := d + (d.toUInt32 >>> ((iI 16).toUInt32 &&& Int32.toUInt32 31)).toInt32
  e &&& iI 63
theorem bc_all : (List.range 1024).all (fun m => decide (bcF (iI (m : Int)) = iI (pop m))) = true := by decide +kernel
theorem pop_le (m : Nat) : pop m ≤ 10 := by
  have h : ∀ (d i s : Nat), itF (fun i s => s + (if m.testBit i = true then 1 else 0)) i d s ≤ s + d := by
    intro d
    induction d with
    | zero => intro i s; simp [itF]
    | succ d ih => intro i s; rw [itF]; have h1 := ih (i + 1) (s + (if m.testBit i = true then 1 else 0)); have h2 : (if m.testBit i = true then 1 else 0) ≤ 1 := (by split <;> omega); omega
  have := h 10 0 0
  unfold pop; omega
set_option maxRecDepth 10000 in
theorem c_bitCount {h : fH} {m : Nat} (hm : m < 1024) (Q : Option Value → fH → Prop) : Call 185 [.int (iI m)] h Q ↔ Q (some (.int (iI (pop m)))) h := by
  refine Call.iff ⟨by simp [vOK, entL, isL, mlT, kdT, clT, isO], rfl, ?_⟩ Q
  rw [show ent 185 [.int (iI m)] = [.int (iI m)] from rfl]
  simp (disch := omega) only [B185_0, b185_0, g_iconst, g_lconst, g_iadd, g_isub, g_imul, g_iand, g_ior, g_ishl, g_ishr, g_iushr, g_ladd, g_lsub, g_lmul, g_land, g_lor, g_lcmp, g_ineg, g_lshl, g_lshr, g_i2l, g_l2i, g_dupi, g_dupr, g_pop, g_dup2, g_mabs_0, g_mabs_1, g_mabs_2, g_mabs_3, g_mmax_0, g_mmax_1, g_mmax_2, g_mmax_3, g_mmin_0, g_mmin_1, g_mmin_2, g_mmin_3, g_goto, g_jsr, g_icmp_eq, g_icmp_ne, g_icmp_lt, g_icmp_ge, g_icmp_gt, g_icmp_le, g_if_eq, g_if_ne, g_if_lt, g_if_ge, g_if_gt, g_if_le, g_idiv, g_irem, g_ldiv, g_iload, g_lload, g_aload, g_istore, g_astore, g_lstore, g_iinc, g_getfield, g_putfield, g_iaload, g_baload, g_laload, g_aaload, g_iastore, g_bastore, g_lastore, g_arraylength, g_call0_0, g_call0_1, g_call0_2, g_call0_3, g_call0_4, g_call1_0, g_call1_1, g_call1_2, g_call1_3, g_call1_4, g_call2_0, g_call2_1, g_call2_2, g_call2_3, g_call2_4, g_call3_0, g_call3_1, g_call3_2, g_call3_3, g_call3_4, g_call4_0, g_call4_1, g_call4_2, g_call4_3, g_call4_4, g_call5_0, g_call5_1, g_call5_2, g_call5_3, g_call5_4, g_call6_0, g_call6_1, g_call6_2, g_call6_3, g_call6_4, g_ireturn, g_lreturn, g_return, g_zreturn, sto_0, sto_s, sto2_0, sto2_s, isL_i, isL_r, isL_l, isL_j, ldI_0, ldI_9, ldZ_2, ldL_1, ldQ_3, stI_0, stL_1, stZ_2, gF_o, pF_o, lenA_9, oB_some, vI_i, vJ_j, vR_r, Option.map_some, List.getElem?_cons_zero, List.getElem?_cons_succ, Nat.reduceDiv, Nat.reduceMod, Int.reduceToNat, true_and, and_true, false_and, reduceIte, List.set_cons_zero, List.set_cons_succ, Option.toList_some, Option.toList_none, List.cons_append, List.nil_append, List.length_cons, List.length_nil, Nat.reduceAdd, Nat.reduceLeDiff, Nat.reduceLT, Nat.reduceEqDiff, and_self, and_false, Bool.false_eq_true, iI_f]
  have e : bcF (iI m) = iI (pop m) := of_decide_eq_true (List.all_eq_true.mp bc_all m (List.mem_range.mpr hm))
  rw [← e]
  rfl
