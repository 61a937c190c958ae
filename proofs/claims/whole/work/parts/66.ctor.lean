/-! The constructors. -/
theorem g_mon {mid : Nat} {is : List Instr} {lv : List Value} {hp : fH} {Q : Option Value → fH → Prop} {a : Nat} : Go mid (.monitorenter :: is) lv [.ref a] hp Q ↔ Go mid is lv [] hp Q := go_next rfl
theorem g_new0 {mid : Nat} {is : List Instr} {lv st : List Value} {hp : fH} {Q : Option Value → fH → Prop} : Go mid (.new 0 :: is) lv st hp Q ↔ Go mid is lv (.ref hp.1 :: st) (f_new hp 4 (.inr (0, [.null, .null, .null, .int 0]))) Q := go_next rfl
theorem g_new1 {mid : Nat} {is : List Instr} {lv st : List Value} {hp : fH} {Q : Option Value → fH → Prop} : Go mid (.new 1 :: is) lv st hp Q ↔ Go mid is lv (.ref hp.1 :: st) (f_new hp 1 (.inr (1, [.null]))) Q := go_next rfl
theorem g_new2 {mid : Nat} {is : List Instr} {lv st : List Value} {hp : fH} {Q : Option Value → fH → Prop} : Go mid (.new 2 :: is) lv st hp Q ↔ Go mid is lv (.ref hp.1 :: st) (f_new hp 3 (.inr (2, [.null, .null, .int 0]))) Q := go_next rfl
theorem g_new3 {mid : Nat} {is : List Instr} {lv st : List Value} {hp : fH} {Q : Option Value → fH → Prop} : Go mid (.new 3 :: is) lv st hp Q ↔ Go mid is lv (.ref hp.1 :: st) (f_new hp 3 (.inr (3, [.null, .null, .int 0]))) Q := go_next rfl
theorem g_new4 {mid : Nat} {is : List Instr} {lv st : List Value} {hp : fH} {Q : Option Value → fH → Prop} : Go mid (.new 4 :: is) lv st hp Q ↔ Go mid is lv (.ref hp.1 :: st) (f_new hp 2 (.inr (4, [.null, .int 0]))) Q := go_next rfl
theorem g_new5 {mid : Nat} {is : List Instr} {lv st : List Value} {hp : fH} {Q : Option Value → fH → Prop} : Go mid (.new 5 :: is) lv st hp Q ↔ Go mid is lv (.ref hp.1 :: st) (f_new hp 8 (.inr (5, [.null, .null, .null, .null, .null, .null, .null, .null]))) Q := go_next rfl
theorem g_new6 {mid : Nat} {is : List Instr} {lv st : List Value} {hp : fH} {Q : Option Value → fH → Prop} : Go mid (.new 6 :: is) lv st hp Q ↔ Go mid is lv (.ref hp.1 :: st) (f_new hp 28 (.inr (6, [.null, .int 0, .null, .null, .int 0, .null, .null, .null, .null, .null, .null, .null, .int 0, .null, .null, .null, .null, .null, .null, .int 0, .int 0, .int 0, .int 0, .int 0, .null, .null, .null, .null]))) Q := go_next rfl
theorem newA_ok (t : Jvm.ClassFile.ArrayType) {z : Int} (h1 : 0 ≤ z) (h2 : z ≤ 1000) (e : fE) (he : (match t with
  | .int => some (Sum.inl (0, z.toNat, .inl (fun _ => 0)) : fE)
  | .long => some (.inl (1, z.toNat, .inr (.inl (fun _ => 0))))
  | .boolean => some (.inl (2, z.toNat, .inl (fun _ => 0)))
  | _ => none) = some e) : newA t (iI z) = some e := by
  unfold newA
  rw [iI_cl h1 (by omega), if_neg]
  · exact he
  · rw [i32_0, iI_lt (by omega) (by omega) (by omega) (by omega)]; omega
theorem g_newI {mid : Nat} {is : List Instr} {lv st : List Value} {hp : fH} {Q : Option Value → fH → Prop} {z : Int} (h1 : 0 ≤ z) (h2 : z ≤ 1000) : Go mid (.newarray .int :: is) lv (.int (iI z) :: st) hp Q ↔ Go mid is lv (.ref hp.1 :: st) (f_new hp z.toNat (.inl (0, z.toNat, .inl (fun _ => 0)))) Q := go_next (by
  show (newA .int (iI z)).map _ = _
  rw [newA_ok .int h1 h2 _ rfl, iI_cl h1 (by omega)]; rfl)
theorem g_newL {mid : Nat} {is : List Instr} {lv st : List Value} {hp : fH} {Q : Option Value → fH → Prop} {z : Int} (h1 : 0 ≤ z) (h2 : z ≤ 1000) : Go mid (.newarray .long :: is) lv (.int (iI z) :: st) hp Q ↔ Go mid is lv (.ref hp.1 :: st) (f_new hp z.toNat (.inl (1, z.toNat, .inr (.inl (fun _ => 0))))) Q := go_next (by
  show (newA .long (iI z)).map _ = _
  rw [newA_ok .long h1 h2 _ rfl, iI_cl h1 (by omega)]; rfl)
theorem g_newZ {mid : Nat} {is : List Instr} {lv st : List Value} {hp : fH} {Q : Option Value → fH → Prop} {z : Int} (h1 : 0 ≤ z) (h2 : z ≤ 1000) : Go mid (.newarray .boolean :: is) lv (.int (iI z) :: st) hp Q ↔ Go mid is lv (.ref hp.1 :: st) (f_new hp z.toNat (.inl (2, z.toNat, .inl (fun _ => 0)))) Q := go_next (by
  show (newA .boolean (iI z)).map _ = _
  rw [newA_ok .boolean h1 h2 _ rfl, iI_cl h1 (by omega)]; rfl)
theorem g_newQ {mid : Nat} {is : List Instr} {lv st : List Value} {hp : fH} {Q : Option Value → fH → Prop} {z : Int} {c : Nat} (h1 : 0 ≤ z) (h2 : z ≤ 1000) : Go mid (.anewarray c :: is) lv (.int (iI z) :: st) hp Q ↔ Go mid is lv (.ref hp.1 :: st) (f_new hp z.toNat (.inl (3, z.toNat, .inr (.inr (.inr (.inr (fun _ => none))))))) Q := go_next (by
  simp only [stp]
  rw [iI_cl h1 (by omega), if_neg]
  rw [i32_0, iI_lt (by omega) (by omega) (by omega) (by omega)]; omega)
theorem g_ast {mid : Nat} {is : List Instr} {lv st : List Value} {hp : fH} {Q : Option Value → fH → Prop} {x a n : Nat} {z : Int} {g : Nat → Option Nat} (hx : isO (f_get hp x) 2 = true) (ha : f_get hp a = .inl (3, n, .inr (.inr (.inr (.inr g))))) (h1 : 0 ≤ z) (h2 : z < n) (h3 : n ≤ 1000) : Go mid (.aastore :: is) lv (.ref x :: .int (iI z) :: .ref a :: st) hp Q ↔ Go mid is lv st (f_st hp a (.inl (3, n, .inr (.inr (.inr (.inr (va_up g z.toNat (some x)))))))) Q := go_next (by
  simp only [stp]
  rw [if_pos hx, ha]
  simp only [stQ]
  rw [iI_cl h1 (by omega), if_neg]
  · rfl
  · rw [i32_0, iI_lt (by omega) (by omega) (by omega) (by omega)]; omega)
theorem fn_1 (h : fH) (n : Nat) (e : fE) : (f_new h n e).1 = h.1 + 1 := rfl
theorem fn_2 (h : fH) (n : Nat) (e : fE) : (f_new h n e).2.1 = h.2.1 + n := rfl
theorem fs_1 (h : fH) (a : Nat) (e : fE) : (f_st h a e).1 = h.1 := rfl
theorem fs_2 (h : fH) (a : Nat) (e : fE) : (f_st h a e).2.1 = h.2.1 := rfl
theorem fg_new (h : fH) (n b : Nat) (e : fE) : f_get (f_new h n e) b = if b = h.1 then e else f_get h b := rfl
theorem fg_new_s {h : fH} {n b : Nat} {e : fE} (hb : b = h.1) : f_get (f_new h n e) b = e := by rw [fg_new, if_pos hb]
theorem fg_new_n {h : fH} {n b : Nat} {e : fE} (hb : b ≠ h.1) : f_get (f_new h n e) b = f_get h b := by rw [fg_new, if_neg hb]
theorem fit_r (a : Nat) : fit 1 (.ref a) = true := rfl
def zrI (n : Nat) : fE := .inl (0, n, .inl (fun _ => 0))
/-- nothing below a, nothing from b on has changed -/
def Kp (h h' : fH) (a b : Nat) : Prop := ∀ k, k < a ∨ b ≤ k → f_get h' k = f_get h k
theorem fk64 : fk 64 = 1 := rfl
theorem fk65 : fk 65 = 1 := rfl
theorem fk128 : fk 128 = 1 := rfl
theorem fk96 : fk 96 = 1 := rfl
theorem fk97 : fk 97 = 1 := rfl
theorem fk0 : fk 0 = 1 := rfl
theorem fk1 : fk 1 = 1 := rfl
theorem fk2 : fk 2 = 1 := rfl
theorem fk32 : fk 32 = 1 := rfl
theorem ne_1 (a : Nat) : (a = a + 1) = False := by simp
theorem ne_2 (a : Nat) : (a = a + 1 + 1) = False := eq_false (by omega)
theorem ne_3 (a : Nat) : (a = a + 1 + 1 + 1) = False := eq_false (by omega)
set_option maxRecDepth 10000 in
theorem i_out {h : fH} {a : Nat} (hl : h.1 = a + 1) (ha : f_get h a = .inr (2, [.null, .null, .int 0])) {Q : Option Value → fH → Prop} (hq : ∀ h', h'.1 = a + 3 → h'.2.1 = h.2.1 + 20 → Out h' a 0 (fun _ => 0) (fun _ => 0) → Kp h h' a (a + 3) → Q none h') : Call 15 [.ref a] h Q := by
  refine ⟨by simp [vOK, entL, isL, mlT, kdT, clT, isO, ha], rfl, ?_⟩
  rw [show ent 15 [.ref a] = [.ref a] from rfl]
  simp (disch := omega) only [B15_0, b15_0, g_iconst, g_lconst, g_iadd, g_isub, g_imul, g_iand, g_ior, g_ishl, g_ishr, g_iushr, g_ladd, g_lsub, g_lmul, g_land, g_lor, g_lcmp, g_ineg, g_lshl, g_lshr, g_i2l, g_l2i, g_dupi, g_dupr, g_pop, g_dup2, g_mabs_0, g_mabs_1, g_mabs_2, g_mabs_3, g_mmax_0, g_mmax_1, g_mmax_2, g_mmax_3, g_mmin_0, g_mmin_1, g_mmin_2, g_mmin_3, g_goto, g_jsr, g_icmp_eq, g_icmp_ne, g_icmp_lt, g_icmp_ge, g_icmp_gt, g_icmp_le, g_if_eq, g_if_ne, g_if_lt, g_if_ge, g_if_gt, g_if_le, g_idiv, g_irem, g_ldiv, g_iload, g_lload, g_aload, g_istore, g_astore, g_lstore, g_iinc, g_getfield, g_putfield, g_iaload, g_baload, g_laload, g_aaload, g_iastore, g_bastore, g_lastore, g_arraylength, g_call0_0, g_call0_1, g_call0_2, g_call0_3, g_call0_4, g_call1_0, g_call1_1, g_call1_2, g_call1_3, g_call1_4, g_call2_0, g_call2_1, g_call2_2, g_call2_3, g_call2_4, g_call3_0, g_call3_1, g_call3_2, g_call3_3, g_call3_4, g_call4_0, g_call4_1, g_call4_2, g_call4_3, g_call4_4, g_call5_0, g_call5_1, g_call5_2, g_call5_3, g_call5_4, g_call6_0, g_call6_1, g_call6_2, g_call6_3, g_call6_4, g_ireturn, g_lreturn, g_return, g_zreturn, sto_0, sto_s, sto2_0, sto2_s, isL_i, isL_r, isL_l, isL_j, ldI_0, ldI_9, ldZ_2, ldL_1, ldQ_3, stI_0, stL_1, stZ_2, gF_o, pF_o, lenA_9, oB_some, vI_i, vJ_j, vR_r, Option.map_some, List.getElem?_cons_zero, List.getElem?_cons_succ, Nat.reduceDiv, Nat.reduceMod, Int.reduceToNat, true_and, and_true, false_and, reduceIte, List.set_cons_zero, List.set_cons_succ, Option.toList_some, Option.toList_none, List.cons_append, List.nil_append, List.length_cons, List.length_nil, Nat.reduceAdd, Nat.reduceLeDiff, Nat.reduceLT, Nat.reduceEqDiff, and_self, and_false, Bool.false_eq_true, g_mon, g_newI, hl, ha, fn_1, fs_1, fg_new, ne_1, ne_2, ne_3, if_false, if_true, fg_st_s, fg_st_n, fk64, fk65, fit_r, iI_f, i32_0, i32_1, b2i_0, b2i_n, iI_add, iI_sub, iI_mul, iI_neg, iI_lt, iI_le, iI_eq, iI_in, iI_cl, i_nn, eq_self, true_or, or_true, not_true_eq_false, not_false_eq_true, Int.reduceEq, Int.reduceLT, Int.reduceLE, Int.reduceNeg]
  refine hq _ ?_ ?_ ⟨?_, ?_, ?_⟩ ?_
  · simp only [fn_1, fs_1, hl]
  · (simp only [fn_2, fs_2]); (try omega)
  · rw [fg_st_s]; rfl
  · rw [fg_st_n (by omega), fg_new_n (by simp only [fn_1, fs_1, hl]; omega), fg_st_n (by omega), fg_new_s hl.symm]; (try rfl)
  · rw [fg_st_n (by omega), fg_new_s (by simp only [fn_1, fs_1, hl])]; (try rfl)
  · intro k hk
    rw [fg_st_n (by omega), fg_new_n (by simp only [fn_1, fs_1, hl]; omega), fg_st_n (by omega), fg_new_n (by omega)]
set_option maxRecDepth 10000 in
theorem i_txt {h : fH} {a : Nat} (hl : h.1 = a + 1) (ha : f_get h a = .inr (4, [.null, .int 0])) {Q : Option Value → fH → Prop} (hq : ∀ h', h'.1 = a + 2 → h'.2.1 = h.2.1 + 24 → Txt h' a 0 (fun _ => 0) → Kp h h' a (a + 2) → Q none h') : Call 59 [.ref a] h Q := by
  refine ⟨by simp [vOK, entL, isL, mlT, kdT, clT, isO, ha], rfl, ?_⟩
  rw [show ent 59 [.ref a] = [.ref a] from rfl]
  simp (disch := omega) only [B59_0, b59_0, g_iconst, g_lconst, g_iadd, g_isub, g_imul, g_iand, g_ior, g_ishl, g_ishr, g_iushr, g_ladd, g_lsub, g_lmul, g_land, g_lor, g_lcmp, g_ineg, g_lshl, g_lshr, g_i2l, g_l2i, g_dupi, g_dupr, g_pop, g_dup2, g_mabs_0, g_mabs_1, g_mabs_2, g_mabs_3, g_mmax_0, g_mmax_1, g_mmax_2, g_mmax_3, g_mmin_0, g_mmin_1, g_mmin_2, g_mmin_3, g_goto, g_jsr, g_icmp_eq, g_icmp_ne, g_icmp_lt, g_icmp_ge, g_icmp_gt, g_icmp_le, g_if_eq, g_if_ne, g_if_lt, g_if_ge, g_if_gt, g_if_le, g_idiv, g_irem, g_ldiv, g_iload, g_lload, g_aload, g_istore, g_astore, g_lstore, g_iinc, g_getfield, g_putfield, g_iaload, g_baload, g_laload, g_aaload, g_iastore, g_bastore, g_lastore, g_arraylength, g_call0_0, g_call0_1, g_call0_2, g_call0_3, g_call0_4, g_call1_0, g_call1_1, g_call1_2, g_call1_3, g_call1_4, g_call2_0, g_call2_1, g_call2_2, g_call2_3, g_call2_4, g_call3_0, g_call3_1, g_call3_2, g_call3_3, g_call3_4, g_call4_0, g_call4_1, g_call4_2, g_call4_3, g_call4_4, g_call5_0, g_call5_1, g_call5_2, g_call5_3, g_call5_4, g_call6_0, g_call6_1, g_call6_2, g_call6_3, g_call6_4, g_ireturn, g_lreturn, g_return, g_zreturn, sto_0, sto_s, sto2_0, sto2_s, isL_i, isL_r, isL_l, isL_j, ldI_0, ldI_9, ldZ_2, ldL_1, ldQ_3, stI_0, stL_1, stZ_2, gF_o, pF_o, lenA_9, oB_some, vI_i, vJ_j, vR_r, Option.map_some, List.getElem?_cons_zero, List.getElem?_cons_succ, Nat.reduceDiv, Nat.reduceMod, Int.reduceToNat, true_and, and_true, false_and, reduceIte, List.set_cons_zero, List.set_cons_succ, Option.toList_some, Option.toList_none, List.cons_append, List.nil_append, List.length_cons, List.length_nil, Nat.reduceAdd, Nat.reduceLeDiff, Nat.reduceLT, Nat.reduceEqDiff, and_self, and_false, Bool.false_eq_true, g_mon, g_newI, hl, ha, fn_1, fs_1, fg_new, ne_1, ne_2, ne_3, if_false, if_true, fg_st_s, fg_st_n, fk128, fit_r, iI_f, i32_0, i32_1, b2i_0, b2i_n, iI_add, iI_sub, iI_mul, iI_neg, iI_lt, iI_le, iI_eq, iI_in, iI_cl, i_nn, eq_self, true_or, or_true, not_true_eq_false, not_false_eq_true, Int.reduceEq, Int.reduceLT, Int.reduceLE, Int.reduceNeg]
  refine hq _ ?_ ?_ ⟨?_, ?_⟩ ?_
  · simp only [fn_1, fs_1, hl]
  · simp only [fn_2, fs_2]
  · rw [fg_st_s]; rfl
  · rw [fg_st_n (by omega), fg_new_s hl.symm]
  · intro k hk
    rw [fg_st_n (by omega), fg_new_n (by omega)]
set_option maxRecDepth 10000 in
theorem i_sgt {h : fH} {a : Nat} (hl : h.1 = a + 1) (ha : f_get h a = .inr (3, [.null, .null, .int 0])) {Q : Option Value → fH → Prop} (hq : ∀ h', h'.1 = a + 3 → h'.2.1 = h.2.1 + 20 → Sgt h' a 0 (fun _ => 0) (fun _ => 0) → Kp h h' a (a + 3) → Q none h') : Call 52 [.ref a] h Q := by
  refine ⟨by simp [vOK, entL, isL, mlT, kdT, clT, isO, ha], rfl, ?_⟩
  rw [show ent 52 [.ref a] = [.ref a] from rfl]
  simp (disch := omega) only [B52_0, b52_0, g_iconst, g_lconst, g_iadd, g_isub, g_imul, g_iand, g_ior, g_ishl, g_ishr, g_iushr, g_ladd, g_lsub, g_lmul, g_land, g_lor, g_lcmp, g_ineg, g_lshl, g_lshr, g_i2l, g_l2i, g_dupi, g_dupr, g_pop, g_dup2, g_mabs_0, g_mabs_1, g_mabs_2, g_mabs_3, g_mmax_0, g_mmax_1, g_mmax_2, g_mmax_3, g_mmin_0, g_mmin_1, g_mmin_2, g_mmin_3, g_goto, g_jsr, g_icmp_eq, g_icmp_ne, g_icmp_lt, g_icmp_ge, g_icmp_gt, g_icmp_le, g_if_eq, g_if_ne, g_if_lt, g_if_ge, g_if_gt, g_if_le, g_idiv, g_irem, g_ldiv, g_iload, g_lload, g_aload, g_istore, g_astore, g_lstore, g_iinc, g_getfield, g_putfield, g_iaload, g_baload, g_laload, g_aaload, g_iastore, g_bastore, g_lastore, g_arraylength, g_call0_0, g_call0_1, g_call0_2, g_call0_3, g_call0_4, g_call1_0, g_call1_1, g_call1_2, g_call1_3, g_call1_4, g_call2_0, g_call2_1, g_call2_2, g_call2_3, g_call2_4, g_call3_0, g_call3_1, g_call3_2, g_call3_3, g_call3_4, g_call4_0, g_call4_1, g_call4_2, g_call4_3, g_call4_4, g_call5_0, g_call5_1, g_call5_2, g_call5_3, g_call5_4, g_call6_0, g_call6_1, g_call6_2, g_call6_3, g_call6_4, g_ireturn, g_lreturn, g_return, g_zreturn, sto_0, sto_s, sto2_0, sto2_s, isL_i, isL_r, isL_l, isL_j, ldI_0, ldI_9, ldZ_2, ldL_1, ldQ_3, stI_0, stL_1, stZ_2, gF_o, pF_o, lenA_9, oB_some, vI_i, vJ_j, vR_r, Option.map_some, List.getElem?_cons_zero, List.getElem?_cons_succ, Nat.reduceDiv, Nat.reduceMod, Int.reduceToNat, true_and, and_true, false_and, reduceIte, List.set_cons_zero, List.set_cons_succ, Option.toList_some, Option.toList_none, List.cons_append, List.nil_append, List.length_cons, List.length_nil, Nat.reduceAdd, Nat.reduceLeDiff, Nat.reduceLT, Nat.reduceEqDiff, and_self, and_false, Bool.false_eq_true, g_mon, g_newI, hl, ha, fn_1, fs_1, fg_new, ne_1, ne_2, ne_3, if_false, if_true, fg_st_s, fg_st_n, fk96, fk97, fit_r, iI_f, i32_0, i32_1, b2i_0, b2i_n, iI_add, iI_sub, iI_mul, iI_neg, iI_lt, iI_le, iI_eq, iI_in, iI_cl, i_nn, eq_self, true_or, or_true, not_true_eq_false, not_false_eq_true, Int.reduceEq, Int.reduceLT, Int.reduceLE, Int.reduceNeg]
  refine hq _ ?_ ?_ ⟨?_, ?_, ?_⟩ ?_
  · simp only [fn_1, fs_1, hl]
  · (simp only [fn_2, fs_2]); (try omega)
  · rw [fg_st_s]; rfl
  · rw [fg_st_n (by omega), fg_new_n (by simp only [fn_1, fs_1, hl]; omega), fg_st_n (by omega), fg_new_s hl.symm]; (try rfl)
  · rw [fg_st_n (by omega), fg_new_s (by simp only [fn_1, fs_1, hl])]; (try rfl)
  · intro k hk
    rw [fg_st_n (by omega), fg_new_n (by simp only [fn_1, fs_1, hl]; omega), fg_st_n (by omega), fg_new_n (by omega)]
set_option maxRecDepth 10000 in
theorem i_ctr {h : fH} {a : Nat} (hl : h.1 = a + 1) (ha : f_get h a = .inr (0, [.null, .null, .null, .int 0])) {Q : Option Value → fH → Prop} (hq : ∀ h', h'.1 = a + 4 → h'.2.1 = h.2.1 + 300 → Ctr h' a 0 (fun _ => 0) (fun _ => 0) (fun _ => 0) → Kp h h' a (a + 4) → Q none h') : Call 0 [.ref a] h Q := by
  refine ⟨by simp [vOK, entL, isL, mlT, kdT, clT, isO, ha], rfl, ?_⟩
  rw [show ent 0 [.ref a] = [.ref a] from rfl]
  simp (disch := omega) only [B0_0, b0_0, g_iconst, g_lconst, g_iadd, g_isub, g_imul, g_iand, g_ior, g_ishl, g_ishr, g_iushr, g_ladd, g_lsub, g_lmul, g_land, g_lor, g_lcmp, g_ineg, g_lshl, g_lshr, g_i2l, g_l2i, g_dupi, g_dupr, g_pop, g_dup2, g_mabs_0, g_mabs_1, g_mabs_2, g_mabs_3, g_mmax_0, g_mmax_1, g_mmax_2, g_mmax_3, g_mmin_0, g_mmin_1, g_mmin_2, g_mmin_3, g_goto, g_jsr, g_icmp_eq, g_icmp_ne, g_icmp_lt, g_icmp_ge, g_icmp_gt, g_icmp_le, g_if_eq, g_if_ne, g_if_lt, g_if_ge, g_if_gt, g_if_le, g_idiv, g_irem, g_ldiv, g_iload, g_lload, g_aload, g_istore, g_astore, g_lstore, g_iinc, g_getfield, g_putfield, g_iaload, g_baload, g_laload, g_aaload, g_iastore, g_bastore, g_lastore, g_arraylength, g_call0_0, g_call0_1, g_call0_2, g_call0_3, g_call0_4, g_call1_0, g_call1_1, g_call1_2, g_call1_3, g_call1_4, g_call2_0, g_call2_1, g_call2_2, g_call2_3, g_call2_4, g_call3_0, g_call3_1, g_call3_2, g_call3_3, g_call3_4, g_call4_0, g_call4_1, g_call4_2, g_call4_3, g_call4_4, g_call5_0, g_call5_1, g_call5_2, g_call5_3, g_call5_4, g_call6_0, g_call6_1, g_call6_2, g_call6_3, g_call6_4, g_ireturn, g_lreturn, g_return, g_zreturn, sto_0, sto_s, sto2_0, sto2_s, isL_i, isL_r, isL_l, isL_j, ldI_0, ldI_9, ldZ_2, ldL_1, ldQ_3, stI_0, stL_1, stZ_2, gF_o, pF_o, lenA_9, oB_some, vI_i, vJ_j, vR_r, Option.map_some, List.getElem?_cons_zero, List.getElem?_cons_succ, Nat.reduceDiv, Nat.reduceMod, Int.reduceToNat, true_and, and_true, false_and, reduceIte, List.set_cons_zero, List.set_cons_succ, Option.toList_some, Option.toList_none, List.cons_append, List.nil_append, List.length_cons, List.length_nil, Nat.reduceAdd, Nat.reduceLeDiff, Nat.reduceLT, Nat.reduceEqDiff, and_self, and_false, Bool.false_eq_true, g_mon, g_newI, g_newL, hl, ha, fn_1, fs_1, fg_new, ne_1, ne_2, ne_3, if_false, if_true, fg_st_s, fg_st_n, fk0, fk1, fk2, fit_r, iI_f, i32_0, i32_1, b2i_0, b2i_n, iI_add, iI_sub, iI_mul, iI_neg, iI_lt, iI_le, iI_eq, iI_in, iI_cl, i_nn, eq_self, true_or, or_true, not_true_eq_false, not_false_eq_true, Int.reduceEq, Int.reduceLT, Int.reduceLE, Int.reduceNeg]
  refine hq _ ?_ ?_ ⟨?_, ?_, ?_, ?_⟩ ?_
  · simp only [fn_1, fs_1, hl]
  · (simp only [fn_2, fs_2]); (try omega)
  · rw [fg_st_s]; rfl
  · rw [fg_st_n (by omega), fg_new_n (by simp only [fn_1, fs_1, hl]; omega), fg_st_n (by omega), fg_new_n (by simp only [fn_1, fs_1, hl]; omega), fg_st_n (by omega), fg_new_s hl.symm]; (try rfl)
  · rw [fg_st_n (by omega), fg_new_n (by simp only [fn_1, fs_1, hl]; omega), fg_st_n (by omega), fg_new_s (by simp only [fn_1, fs_1, hl])]; (try rfl)
  · rw [fg_st_n (by omega), fg_new_s (by simp only [fn_1, fs_1, hl])]; (try rfl)
  · intro k hk
    rw [fg_st_n (by omega), fg_new_n (by simp only [fn_1, fs_1, hl]; omega), fg_st_n (by omega), fg_new_n (by simp only [fn_1, fs_1, hl]; omega), fg_st_n (by omega), fg_new_n (by omega)]
set_option maxRecDepth 10000 in
theorem i_lik {h : fH} {a : Nat} (hl : h.1 = a + 1) (ha : f_get h a = .inr (1, [.null])) {Q : Option Value → fH → Prop} (hq : ∀ h', h'.1 = a + 4 → h'.2.1 = h.2.1 + 23 → f_get h' a = .inr (1, [.ref (a + 1)]) → Out h' (a + 1) 0 (fun _ => 0) (fun _ => 0) → Kp h h' a (a + 4) → Q none h') : Call 10 [.ref a] h Q := by
  refine ⟨by simp [vOK, entL, isL, mlT, kdT, clT, isO, ha], rfl, ?_⟩
  rw [show ent 10 [.ref a] = [.ref a] from rfl]
  simp (disch := omega) only [B10_0, b10_0, g_iconst, g_lconst, g_iadd, g_isub, g_imul, g_iand, g_ior, g_ishl, g_ishr, g_iushr, g_ladd, g_lsub, g_lmul, g_land, g_lor, g_lcmp, g_ineg, g_lshl, g_lshr, g_i2l, g_l2i, g_dupi, g_dupr, g_pop, g_dup2, g_mabs_0, g_mabs_1, g_mabs_2, g_mabs_3, g_mmax_0, g_mmax_1, g_mmax_2, g_mmax_3, g_mmin_0, g_mmin_1, g_mmin_2, g_mmin_3, g_goto, g_jsr, g_icmp_eq, g_icmp_ne, g_icmp_lt, g_icmp_ge, g_icmp_gt, g_icmp_le, g_if_eq, g_if_ne, g_if_lt, g_if_ge, g_if_gt, g_if_le, g_idiv, g_irem, g_ldiv, g_iload, g_lload, g_aload, g_istore, g_astore, g_lstore, g_iinc, g_getfield, g_putfield, g_iaload, g_baload, g_laload, g_aaload, g_iastore, g_bastore, g_lastore, g_arraylength, g_call0_0, g_call0_1, g_call0_2, g_call0_3, g_call0_4, g_call1_0, g_call1_1, g_call1_2, g_call1_3, g_call1_4, g_call2_0, g_call2_1, g_call2_2, g_call2_3, g_call2_4, g_call3_0, g_call3_1, g_call3_2, g_call3_3, g_call3_4, g_call4_0, g_call4_1, g_call4_2, g_call4_3, g_call4_4, g_call5_0, g_call5_1, g_call5_2, g_call5_3, g_call5_4, g_call6_0, g_call6_1, g_call6_2, g_call6_3, g_call6_4, g_ireturn, g_lreturn, g_return, g_zreturn, sto_0, sto_s, sto2_0, sto2_s, isL_i, isL_r, isL_l, isL_j, ldI_0, ldI_9, ldZ_2, ldL_1, ldQ_3, stI_0, stL_1, stZ_2, gF_o, pF_o, lenA_9, oB_some, vI_i, vJ_j, vR_r, Option.map_some, List.getElem?_cons_zero, List.getElem?_cons_succ, Nat.reduceDiv, Nat.reduceMod, Int.reduceToNat, true_and, and_true, false_and, reduceIte, List.set_cons_zero, List.set_cons_succ, Option.toList_some, Option.toList_none, List.cons_append, List.nil_append, List.length_cons, List.length_nil, Nat.reduceAdd, Nat.reduceLeDiff, Nat.reduceLT, Nat.reduceEqDiff, and_self, and_false, Bool.false_eq_true, g_mon, g_new2, hl, iI_f, i32_0, i32_1, b2i_0, b2i_n, iI_add, iI_sub, iI_mul, iI_neg, iI_lt, iI_le, iI_eq, iI_in, iI_cl, i_nn, eq_self, true_or, or_true, not_true_eq_false, not_false_eq_true, Int.reduceEq, Int.reduceLT, Int.reduceLE, Int.reduceNeg]
  refine i_out (a := a + 1) (by simp only [fn_1, hl]) (by rw [fg_new_s hl.symm]; rfl) (fun h1 e1 e2 e3 e4 => ?_)
  have ha1 : f_get h1 a = .inr (1, [.null]) := by rw [e4 a (by omega), fg_new_n (by omega)]; exact ha
  simp (disch := omega) only [g_iconst, g_lconst, g_iadd, g_isub, g_imul, g_iand, g_ior, g_ishl, g_ishr, g_iushr, g_ladd, g_lsub, g_lmul, g_land, g_lor, g_lcmp, g_ineg, g_lshl, g_lshr, g_i2l, g_l2i, g_dupi, g_dupr, g_pop, g_dup2, g_mabs_0, g_mabs_1, g_mabs_2, g_mabs_3, g_mmax_0, g_mmax_1, g_mmax_2, g_mmax_3, g_mmin_0, g_mmin_1, g_mmin_2, g_mmin_3, g_goto, g_jsr, g_icmp_eq, g_icmp_ne, g_icmp_lt, g_icmp_ge, g_icmp_gt, g_icmp_le, g_if_eq, g_if_ne, g_if_lt, g_if_ge, g_if_gt, g_if_le, g_idiv, g_irem, g_ldiv, g_iload, g_lload, g_aload, g_istore, g_astore, g_lstore, g_iinc, g_getfield, g_putfield, g_iaload, g_baload, g_laload, g_aaload, g_iastore, g_bastore, g_lastore, g_arraylength, g_call0_0, g_call0_1, g_call0_2, g_call0_3, g_call0_4, g_call1_0, g_call1_1, g_call1_2, g_call1_3, g_call1_4, g_call2_0, g_call2_1, g_call2_2, g_call2_3, g_call2_4, g_call3_0, g_call3_1, g_call3_2, g_call3_3, g_call3_4, g_call4_0, g_call4_1, g_call4_2, g_call4_3, g_call4_4, g_call5_0, g_call5_1, g_call5_2, g_call5_3, g_call5_4, g_call6_0, g_call6_1, g_call6_2, g_call6_3, g_call6_4, g_ireturn, g_lreturn, g_return, g_zreturn, sto_0, sto_s, sto2_0, sto2_s, isL_i, isL_r, isL_l, isL_j, ldI_0, ldI_9, ldZ_2, ldL_1, ldQ_3, stI_0, stL_1, stZ_2, gF_o, pF_o, lenA_9, oB_some, vI_i, vJ_j, vR_r, Option.map_some, List.getElem?_cons_zero, List.getElem?_cons_succ, Nat.reduceDiv, Nat.reduceMod, Int.reduceToNat, true_and, and_true, false_and, reduceIte, List.set_cons_zero, List.set_cons_succ, Option.toList_some, Option.toList_none, List.cons_append, List.nil_append, List.length_cons, List.length_nil, Nat.reduceAdd, Nat.reduceLeDiff, Nat.reduceLT, Nat.reduceEqDiff, and_self, and_false, Bool.false_eq_true, ha1, fk32, fit_r, iI_f, i32_0, i32_1, b2i_0, b2i_n, iI_add, iI_sub, iI_mul, iI_neg, iI_lt, iI_le, iI_eq, iI_in, iI_cl, i_nn, eq_self, true_or, or_true, not_true_eq_false, not_false_eq_true, Int.reduceEq, Int.reduceLT, Int.reduceLE, Int.reduceNeg]
  refine hq _ ?_ ?_ ?_ ?_ ?_
  · simp only [fs_1, e1]
  · simp only [fs_2, e2, fn_2]
  · rw [fg_st_s]
  · exact ⟨by rw [fg_st_n (by omega)]; exact e3.1, by rw [fg_st_n (by omega)]; exact e3.2.1, by rw [fg_st_n (by omega)]; exact e3.2.2⟩
  · intro k hk
    rw [fg_st_n (by omega), e4 k (by omega), fg_new_n (by omega)]
/-- one of the class's outlines made -/
theorem g_mkO {mid : Nat} {is : List Instr} {lv : List Value} {hp : fH} {Q : Option Value → fH → Prop} {st : List Value} (hst : st.length ≤ 3) (hq : ∀ h', h'.1 = hp.1 + 3 → h'.2.1 = hp.2.1 + 23 → Out h' hp.1 0 (fun _ => 0) (fun _ => 0) → Kp hp h' hp.1 (hp.1 + 3) → Go mid is lv (.ref hp.1 :: st) h' Q) : Go mid (.new 2 :: .dup :: .invokeinterface 15 1 :: is) lv st hp Q := by
  rw [g_new2, g_dupr]
  refine (go_call (k := 15) (as := [.ref hp.1]) (rest := .ref hp.1 :: st) (by simp [stp]; omega)).mpr ?_
  refine i_out (a := hp.1) (by rw [fn_1]) (by rw [fg_new_s rfl]) (fun h' e1 e2 e3 e4 => ?_)
  refine hq h' e1 (by rw [e2, fn_2]) e3 (fun k hk => ?_)
  rw [e4 k hk, fg_new_n (by omega)]
