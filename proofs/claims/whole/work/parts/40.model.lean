/-! The reference as a whole: its picture, the text's calls. -/
/-- length, bytes, x, y, how many, kept or not, kept x, y, how many -/
abbrev MZ : Type := Nat × (Nat → Int) × (Nat → Int) × (Nat → Int) × (Nat → Nat) × (Nat → Bool) × (Nat → Int) × (Nat → Int) × (Nat → Nat)
def mL (M : MZ) : Nat := M.1
def mB (M : MZ) : Nat → Int := M.2.1
def mX (M : MZ) : Nat → Int := M.2.2.1
def mY (M : MZ) : Nat → Int := M.2.2.2.1
def mM (M : MZ) : Nat → Nat := M.2.2.2.2.1
def mkp (M : MZ) : Nat → Bool := M.2.2.2.2.2.1
def mKX (M : MZ) : Nat → Int := M.2.2.2.2.2.2.1
def mKY (M : MZ) : Nat → Int := M.2.2.2.2.2.2.2.1
def mKM (M : MZ) : Nat → Nat := M.2.2.2.2.2.2.2.2
/-- a row of n truths -/
def Bol (h : fH) (a n : Nat) (f : Nat → Bool) : Prop := f_get h a = .inl (2, n, .inl (fun j => iI (b2i (f j))))
theorem Row.of {h h' : fH} {a n : Nat} {f : Nat → Int} (hr : Row h a n f) {S : Nat → Prop} (hF : Fr h h' S) (hS : ¬ S a) : Row h' a n f := (hF.2.2 a hS).trans hr
theorem Bol.of {h h' : fH} {a n : Nat} {f : Nat → Bool} (hr : Bol h a n f) {S : Nat → Prop} (hF : Fr h h' S) (hS : ¬ S a) : Bol h' a n f := (hF.2.2 a hS).trans hr
theorem Mob.of {h h' : fH} {o : MO} (hr : Mob h o) {S : Nat → Prop} (hF : Fr h h' S) (hS : ¬ S 56) : Mob h' o := (hF.2.2 56 hS).trans hr
/-- the fields' rows -/
def Flr (h : fH) (x y : Nat → Int) (m : Nat → Nat) : Prop := Row h 60 40 x ∧ Row h 61 40 y ∧ Row h 62 4 (fun j => (m j : Int))
def Kpt (h : fH) (M : MZ) : Prop := Bol h 73 2 (mkp M) ∧ Row h 74 80 (mKX M) ∧ Row h 75 80 (mKY M) ∧ Row h 76 8 (fun j => (mKM M j : Int))
/-- rows that hold nothing from call to call -/
def Scr (h : fH) : Prop := (∃ f, Row h 58 10 f) ∧ (∃ f, Row h 59 10 f) ∧ (∃ f, Row h 63 10 f) ∧ (∃ f, Row h 64 10 f) ∧ (∃ f, Row h 65 32 f) ∧ (∃ f, Row h 66 32 f) ∧ (∃ f, Bol h 67 100 f) ∧ (∃ f, Bol h 68 100 f) ∧ (∃ f, Row h 69 100 f) ∧ (∃ f, Row h 70 100 f) ∧ (∃ f, Row h 71 10 f) ∧ (∃ f, Row h 72 10 f)
def scS : Nat → Prop := fun k => k = 56 ∨ k = 58 ∨ k = 59 ∨ (63 ≤ k ∧ k ≤ 72)
def Mdl (h : fH) (M : MZ) : Prop := (∃ o : MO, o.1 = mL M ∧ Mob h o) ∧ Row h 57 24 (mB M) ∧ Flr h (mX M) (mY M) (mM M) ∧ Kpt h M ∧ Scr h
theorem Flr.of {h h' : fH} {x y : Nat → Int} {m : Nat → Nat} (q : Flr h x y m) {S : Nat → Prop} (hF : Fr h h' S) (h0 : ¬ S 60) (h1 : ¬ S 61) (h2 : ¬ S 62) : Flr h' x y m := ⟨q.1.of hF h0, q.2.1.of hF h1, q.2.2.of hF h2⟩
theorem Kpt.of {h h' : fH} {M : MZ} (q : Kpt h M) {S : Nat → Prop} (hF : Fr h h' S) (hS : ∀ k, 73 ≤ k → k ≤ 76 → ¬ S k) : Kpt h' M := ⟨q.1.of hF (hS _ (by omega) (by omega)), q.2.1.of hF (hS _ (by omega) (by omega)), q.2.2.1.of hF (hS _ (by omega) (by omega)), q.2.2.2.of hF (hS _ (by omega) (by omega))⟩
theorem rw_ex {h h' : fH} {a n : Nat} (q : ∃ f, Row h a n f) {S : Nat → Prop} (hF : Fr h h' S) (hS : ¬ S a) : ∃ f, Row h' a n f := let ⟨f, w⟩ := q; ⟨f, w.of hF hS⟩
theorem bl_ex {h h' : fH} {a n : Nat} (q : ∃ f, Bol h a n f) {S : Nat → Prop} (hF : Fr h h' S) (hS : ¬ S a) : ∃ f, Bol h' a n f := let ⟨f, w⟩ := q; ⟨f, w.of hF hS⟩
theorem Scr.of {h h' : fH} (q : Scr h) {S : Nat → Prop} (hF : Fr h h' S) (hS : ∀ k, scS k → k ≠ 56 → ¬ S k) : Scr h' :=
  ⟨rw_ex q.1 hF (hS _ (by simp [scS]) (by omega)), rw_ex q.2.1 hF (hS _ (by simp [scS]) (by omega)), rw_ex q.2.2.1 hF (hS _ (by simp [scS]) (by omega)), rw_ex q.2.2.2.1 hF (hS _ (by simp [scS]) (by omega)), rw_ex q.2.2.2.2.1 hF (hS _ (by simp [scS]) (by omega)), rw_ex q.2.2.2.2.2.1 hF (hS _ (by simp [scS]) (by omega)), bl_ex q.2.2.2.2.2.2.1 hF (hS _ (by simp [scS]) (by omega)), bl_ex q.2.2.2.2.2.2.2.1 hF (hS _ (by simp [scS]) (by omega)), rw_ex q.2.2.2.2.2.2.2.2.1 hF (hS _ (by simp [scS]) (by omega)), rw_ex q.2.2.2.2.2.2.2.2.2.1 hF (hS _ (by simp [scS]) (by omega)), rw_ex q.2.2.2.2.2.2.2.2.2.2.1 hF (hS _ (by simp [scS]) (by omega)), rw_ex q.2.2.2.2.2.2.2.2.2.2.2 hF (hS _ (by simp [scS]) (by omega))⟩
theorem Mdl.fld {h : fH} {M : MZ} (q : Mdl h M) : ∃ o : MO, o.1 = mL M ∧ Fld h o (mX M) (mY M) (mM M) := let ⟨o, h1, h2⟩ := q.1; ⟨o, h1, h2, q.2.2.1⟩
/-- the numbers of the reference's state are in their bounds -/
def Mok (M : MZ) : Prop := mL M ≤ 24 ∧ Byt (mB M) (mL M) ∧ Fok (mX M) (mY M) (mM M)
/-- cells of the reference -/
def ml : Nat → Prop := fun k => 56 ≤ k ∧ k ≤ 76
def WrM (h : fH) (M : MZ) (h' : fH) : Prop := Mdl h' M ∧ Fr h h' ml
theorem WrM.rf {h : fH} {M : MZ} (q : Mdl h M) : WrM h M h := ⟨q, Fr.rf⟩
theorem Mdl.scr {h h' : fH} {M : MZ} (q : Mdl h M) (hF : Fr h h' scS) (ho : ∃ o : MO, o.1 = mL M ∧ Mob h' o) (hs : Scr h') : WrM h M h' := ⟨⟨ho, q.2.1.of hF (by simp [scS]), q.2.2.1.of hF (by simp [scS]) (by simp [scS]) (by simp [scS]), q.2.2.2.1.of hF (fun k a b => by simp only [scS]; omega), hs⟩, hF.mono (fun k z => by simp only [scS] at z; simp only [ml]; omega)⟩
def mT (M : MZ) (L : Nat) (B : Nat → Int) : MZ := (L, B, mX M, mY M, mM M, mkp M, mKX M, mKY M, mKM M)
def mF (M : MZ) (x y : Nat → Int) (m : Nat → Nat) : MZ := (mL M, mB M, x, y, m, mkp M, mKX M, mKY M, mKM M)
def txS : Nat → Prop := fun k => k = 56 ∨ k = 57
def flS : Nat → Prop := fun k => k = 60 ∨ k = 61 ∨ k = 62
theorem Mdl.txt {h h' : fH} {M : MZ} (q : Mdl h M) {L : Nat} {B : Nat → Int} (hF : Fr h h' txS) (ho : ∃ o : MO, o.1 = L ∧ Mob h' o) (hr : Row h' 57 24 B) : WrM h (mT M L B) h' := ⟨⟨ho, hr, q.2.2.1.of hF (by simp [txS]) (by simp [txS]) (by simp [txS]), q.2.2.2.1.of hF (fun k a b => by simp only [txS]; omega), q.2.2.2.2.of hF (fun k a b => by simp only [txS]; simp only [scS] at a; omega)⟩, hF.mono (fun k z => by simp only [txS] at z; simp only [ml]; omega)⟩
theorem Mdl.fls {h h' : fH} {M : MZ} (q : Mdl h M) {x y : Nat → Int} {m : Nat → Nat} (hF : Fr h h' flS) (hr : Flr h' x y m) : WrM h (mF M x y m) h' := ⟨⟨(let ⟨o, a, b⟩ := q.1; ⟨o, a, b.of hF (by simp [flS])⟩), q.2.1.of hF (by simp [flS]), hr, q.2.2.2.1.of hF (fun k a b => by simp only [flS]; omega), q.2.2.2.2.of hF (fun k a b => by simp only [flS]; simp only [scS] at a; omega)⟩, hF.mono (fun k z => by simp only [flS] at z; simp only [ml]; omega)⟩
theorem WrM.tr {h h1 h2 : fH} {M M' : MZ} (a : WrM h M h1) (b : WrM h1 M' h2) : WrM h M' h2 := ⟨b.1, a.2.tr b.2 (fun _ q => q) (fun _ q => q)⟩
theorem fk193 : fk 193 = 0 := rfl
theorem fk196 : fk 196 = 0 := rfl
theorem bV_j (v : Int64) (i : Nat) (hi : i < 8) : ((v >>> ((iI (8 * i)).toInt64 &&& 63)) &&& lJ 255).toInt32 = iI (bV v i) := by
  rw [← bV_i]
  apply Int32.toBitVec_inj.mp
  rw [Int64.toBitVec_toInt32, Int64.toBitVec_and, Int32.toBitVec_and, Int64.toBitVec_toInt32]
  rw [BitVec.signExtend_and]
  rfl
set_option maxRecDepth 10000 in
theorem l_mwrite {h0 : fH} {o : MO} {L n : Nat} {B : Nat → Int} {v : Int64} (hn : n ≤ 8) (hL : L + n ≤ 24) {Q : Option Value → fH → Prop} (hq : ∀ h' (o' : MO), o'.1 = L + n → Mob h' o' → Row h' 57 24 (apF B L n v n) → Fr h0 h' txS → Q (some (.int (iI ((L + n : Nat) : Int)))) h') : ∀ (d : Nat) (h : fH) (o : MO), d ≤ n → o.1 = L + (n - d) → Mob h o → Row h 57 24 (apF B L n v (n - d)) → Fr h0 h txS →
    Go 113 (blk 113 34) [.ref 56, .int (iI n), .long v, jk, .int (iI ((d : Int) - 1))] [] h Q := by
  intro d
  induction d with
  | zero =>
    intro h o hd eo hO hR hF
    have h1 := id hO
    unfold Mob at h1
    rw [B113_34, b113_34]
    simp (disch := omega) only [B113_76, b113_76, g_iconst, g_lconst, g_iadd, g_isub, g_imul, g_iand, g_ior, g_ishl, g_ishr, g_iushr, g_ladd, g_lsub, g_lmul, g_land, g_lor, g_lcmp, g_ineg, g_lshl, g_lshr, g_i2l, g_l2i, g_dupi, g_dupr, g_pop, g_dup2, g_mabs_0, g_mabs_1, g_mabs_2, g_mabs_3, g_mmax_0, g_mmax_1, g_mmax_2, g_mmax_3, g_mmin_0, g_mmin_1, g_mmin_2, g_mmin_3, g_goto, g_jsr, g_icmp_eq, g_icmp_ne, g_icmp_lt, g_icmp_ge, g_icmp_gt, g_icmp_le, g_if_eq, g_if_ne, g_if_lt, g_if_ge, g_if_gt, g_if_le, g_idiv, g_irem, g_ldiv, g_iload, g_lload, g_aload, g_istore, g_astore, g_lstore, g_iinc, g_getfield, g_putfield, g_iaload, g_baload, g_laload, g_aaload, g_iastore, g_bastore, g_lastore, g_arraylength, g_call0_0, g_call0_1, g_call0_2, g_call0_3, g_call0_4, g_call1_0, g_call1_1, g_call1_2, g_call1_3, g_call1_4, g_call2_0, g_call2_1, g_call2_2, g_call2_3, g_call2_4, g_call3_0, g_call3_1, g_call3_2, g_call3_3, g_call3_4, g_call4_0, g_call4_1, g_call4_2, g_call4_3, g_call4_4, g_call5_0, g_call5_1, g_call5_2, g_call5_3, g_call5_4, g_call6_0, g_call6_1, g_call6_2, g_call6_3, g_call6_4, g_ireturn, g_lreturn, g_return, g_zreturn, sto_0, sto_s, sto2_0, sto2_s, isL_i, isL_r, isL_l, isL_j, ldI_0, ldI_9, ldZ_2, ldL_1, ldQ_3, stI_0, stL_1, stZ_2, gF_o, pF_o, lenA_9, oB_some, vI_i, vJ_j, vR_r, Option.map_some, List.getElem?_cons_zero, List.getElem?_cons_succ, Nat.reduceDiv, Nat.reduceMod, Int.reduceToNat, true_and, and_true, false_and, reduceIte, List.set_cons_zero, List.set_cons_succ, Option.toList_some, Option.toList_none, List.cons_append, List.nil_append, List.length_cons, List.length_nil, Nat.reduceAdd, Nat.reduceLeDiff, Nat.reduceLT, Nat.reduceEqDiff, and_self, and_false, Bool.false_eq_true, h1, eo, iI_f, i32_0, i32_1, b2i_0, b2i_n, iI_add, iI_sub, iI_mul, iI_neg, iI_lt, iI_le, iI_eq, iI_in, iI_cl, i_nn, eq_self, true_or, or_true, not_true_eq_false, not_false_eq_true, Int.reduceEq, Int.reduceLT, Int.reduceLE, Int.reduceNeg]
    exact ite_t (by omega) (hq h o eo hO hR hF)
  | succ d ih =>
    intro h o hd eo hO hR hF
    have h1 := id hO
    have h2 := id hR
    unfold Mob at h1
    unfold Row at h2
    have e0 : ((d + 1 : Nat) : Int) - 1 = (d : Int) := by omega
    rw [B113_34, b113_34, e0]
    simp (disch := omega) only [g_iconst, g_lconst, g_iadd, g_isub, g_imul, g_iand, g_ior, g_ishl, g_ishr, g_iushr, g_ladd, g_lsub, g_lmul, g_land, g_lor, g_lcmp, g_ineg, g_lshl, g_lshr, g_i2l, g_l2i, g_dupi, g_dupr, g_pop, g_dup2, g_mabs_0, g_mabs_1, g_mabs_2, g_mabs_3, g_mmax_0, g_mmax_1, g_mmax_2, g_mmax_3, g_mmin_0, g_mmin_1, g_mmin_2, g_mmin_3, g_goto, g_jsr, g_icmp_eq, g_icmp_ne, g_icmp_lt, g_icmp_ge, g_icmp_gt, g_icmp_le, g_if_eq, g_if_ne, g_if_lt, g_if_ge, g_if_gt, g_if_le, g_idiv, g_irem, g_ldiv, g_iload, g_lload, g_aload, g_istore, g_astore, g_lstore, g_iinc, g_getfield, g_putfield, g_iaload, g_baload, g_laload, g_aaload, g_iastore, g_bastore, g_lastore, g_arraylength, g_call0_0, g_call0_1, g_call0_2, g_call0_3, g_call0_4, g_call1_0, g_call1_1, g_call1_2, g_call1_3, g_call1_4, g_call2_0, g_call2_1, g_call2_2, g_call2_3, g_call2_4, g_call3_0, g_call3_1, g_call3_2, g_call3_3, g_call3_4, g_call4_0, g_call4_1, g_call4_2, g_call4_3, g_call4_4, g_call5_0, g_call5_1, g_call5_2, g_call5_3, g_call5_4, g_call6_0, g_call6_1, g_call6_2, g_call6_3, g_call6_4, g_ireturn, g_lreturn, g_return, g_zreturn, sto_0, sto_s, sto2_0, sto2_s, isL_i, isL_r, isL_l, isL_j, ldI_0, ldI_9, ldZ_2, ldL_1, ldQ_3, stI_0, stL_1, stZ_2, gF_o, pF_o, lenA_9, oB_some, vI_i, vJ_j, vR_r, Option.map_some, List.getElem?_cons_zero, List.getElem?_cons_succ, Nat.reduceDiv, Nat.reduceMod, Int.reduceToNat, true_and, and_true, false_and, reduceIte, List.set_cons_zero, List.set_cons_succ, Option.toList_some, Option.toList_none, List.cons_append, List.nil_append, List.length_cons, List.length_nil, Nat.reduceAdd, Nat.reduceLeDiff, Nat.reduceLT, Nat.reduceEqDiff, and_self, and_false, Bool.false_eq_true, h1, h2, eo, lJ_f, bV_j, upd_i, fg_st_s, fg_st_n, fk193, fit_i, iI_f, i32_0, i32_1, b2i_0, b2i_n, iI_add, iI_sub, iI_mul, iI_neg, iI_lt, iI_le, iI_eq, iI_in, iI_cl, i_nn, eq_self, true_or, or_true, not_true_eq_false, not_false_eq_true, Int.reduceEq, Int.reduceLT, Int.reduceLE, Int.reduceNeg]
    refine ite_f (by omega) ?_
    have e1 := apF_s B (L := L) (n := n) v (k := n - (d + 1))
    rw [show n - 1 - (n - (d + 1)) = d by omega, show n - (d + 1) + 1 = n - d by omega] at e1
    rw [e1]
    have w := ih (f_st (f_st h 57 (.inl (0, 24, .inl (fun j => iI (apF B L n v (n - d) j))))) 56 (.inr (6, [.ref 57, .int (iI ((L + (n - d) : Nat) : Int)), .ref 58, .ref 59, .int (iI o.2.1), .ref 60, .ref 61, .ref 62, .ref 63, .ref 64, .ref 65, .ref 66, .int (iI o.2.2.1), .ref 67, .ref 68, .ref 69, .ref 70, .ref 71, .ref 72, .int (iI o.2.2.2.1), .int (iI o.2.2.2.2.1), .int (iI o.2.2.2.2.2.1), .int (iI o.2.2.2.2.2.2.1), .int (iI o.2.2.2.2.2.2.2), .ref 73, .ref 74, .ref 75, .ref 76]))) (L + (n - d), o.2) (by omega) rfl (by unfold Mob; rw [fg_st_s]) (by unfold Row; rw [fg_st_n (by omega), fg_st_s]) ((hF.st (a := 57) (Or.inr rfl)).st (a := 56) (Or.inl rfl))
    rw [show ((L + (n - (d + 1)) : Nat) : Int) + 1 = ((L + (n - d) : Nat) : Int) by omega]
    exact w
def yWrite (M : MZ) (n : Int) (v : Int64) : MZ := if 1 ≤ n ∧ n ≤ 8 ∧ (mL M : Int) + n ≤ 24 then mT M (mL M + n.toNat) (apF (mB M) (mL M) n.toNat v n.toNat) else M
def bWrite (M : MZ) (n : Int) : Int := if 1 ≤ n ∧ n ≤ 8 then (if (mL M : Int) + n ≤ 24 then (mL M : Int) + n else -4) else -2
set_option maxRecDepth 10000 in
theorem m_write {h : fH} {M : MZ} (hM : Mdl h M) (hK : Mok M) {n : Int} {v : Int64} (hn : I32 n) {Q : Option Value → fH → Prop} (hq : ∀ h', WrM h (yWrite M n v) h' → Q (some (.int (iI (bWrite M n)))) h') : Call 113 [.ref 56, .int (iI n), .long v] h Q := by
  obtain ⟨n1, n2⟩ := id hn
  obtain ⟨⟨o, eo, hO⟩, h57, -⟩ := id hM
  have ho := id hO
  unfold Mob at ho
  have hL := hK.1
  refine ⟨by simp [vOK, entL, isL, mlT, kdT, clT, isO, ho], rfl, ?_⟩
  rw [show ent 113 [.ref 56, .int (iI n), .long v] = [.ref 56, .int (iI n), .long v, jk, jk] from rfl]
  simp (disch := omega) only [B113_0, b113_0, g_iconst, g_lconst, g_iadd, g_isub, g_imul, g_iand, g_ior, g_ishl, g_ishr, g_iushr, g_ladd, g_lsub, g_lmul, g_land, g_lor, g_lcmp, g_ineg, g_lshl, g_lshr, g_i2l, g_l2i, g_dupi, g_dupr, g_pop, g_dup2, g_mabs_0, g_mabs_1, g_mabs_2, g_mabs_3, g_mmax_0, g_mmax_1, g_mmax_2, g_mmax_3, g_mmin_0, g_mmin_1, g_mmin_2, g_mmin_3, g_goto, g_jsr, g_icmp_eq, g_icmp_ne, g_icmp_lt, g_icmp_ge, g_icmp_gt, g_icmp_le, g_if_eq, g_if_ne, g_if_lt, g_if_ge, g_if_gt, g_if_le, g_idiv, g_irem, g_ldiv, g_iload, g_lload, g_aload, g_istore, g_astore, g_lstore, g_iinc, g_getfield, g_putfield, g_iaload, g_baload, g_laload, g_aaload, g_iastore, g_bastore, g_lastore, g_arraylength, g_call0_0, g_call0_1, g_call0_2, g_call0_3, g_call0_4, g_call1_0, g_call1_1, g_call1_2, g_call1_3, g_call1_4, g_call2_0, g_call2_1, g_call2_2, g_call2_3, g_call2_4, g_call3_0, g_call3_1, g_call3_2, g_call3_3, g_call3_4, g_call4_0, g_call4_1, g_call4_2, g_call4_3, g_call4_4, g_call5_0, g_call5_1, g_call5_2, g_call5_3, g_call5_4, g_call6_0, g_call6_1, g_call6_2, g_call6_3, g_call6_4, g_ireturn, g_lreturn, g_return, g_zreturn, sto_0, sto_s, sto2_0, sto2_s, isL_i, isL_r, isL_l, isL_j, ldI_0, ldI_9, ldZ_2, ldL_1, ldQ_3, stI_0, stL_1, stZ_2, gF_o, pF_o, lenA_9, oB_some, vI_i, vJ_j, vR_r, Option.map_some, List.getElem?_cons_zero, List.getElem?_cons_succ, Nat.reduceDiv, Nat.reduceMod, Int.reduceToNat, true_and, and_true, false_and, reduceIte, List.set_cons_zero, List.set_cons_succ, Option.toList_some, Option.toList_none, List.cons_append, List.nil_append, List.length_cons, List.length_nil, Nat.reduceAdd, Nat.reduceLeDiff, Nat.reduceLT, Nat.reduceEqDiff, and_self, and_false, Bool.false_eq_true, lJ_f, lJ_i, m_in, iI_f, i32_0, i32_1, b2i_0, b2i_n, iI_add, iI_sub, iI_mul, iI_neg, iI_lt, iI_le, iI_eq, iI_in, iI_cl, i_nn, eq_self, true_or, or_true, not_true_eq_false, not_false_eq_true, Int.reduceEq, Int.reduceLT, Int.reduceLE, Int.reduceNeg]
  by_cases c1 : 1 ≤ n ∧ n ≤ 8
  · rw [bWrite, if_pos c1] at hq
    refine ite_t (by simp only [inB, decide_eq_true_eq]; omega) ?_
    obtain ⟨k, rfl⟩ : ∃ k : Nat, n = (k : Int) := ⟨n.toNat, by omega⟩
    simp (disch := omega) only [B113_15, b113_15, g_iconst, g_lconst, g_iadd, g_isub, g_imul, g_iand, g_ior, g_ishl, g_ishr, g_iushr, g_ladd, g_lsub, g_lmul, g_land, g_lor, g_lcmp, g_ineg, g_lshl, g_lshr, g_i2l, g_l2i, g_dupi, g_dupr, g_pop, g_dup2, g_mabs_0, g_mabs_1, g_mabs_2, g_mabs_3, g_mmax_0, g_mmax_1, g_mmax_2, g_mmax_3, g_mmin_0, g_mmin_1, g_mmin_2, g_mmin_3, g_goto, g_jsr, g_icmp_eq, g_icmp_ne, g_icmp_lt, g_icmp_ge, g_icmp_gt, g_icmp_le, g_if_eq, g_if_ne, g_if_lt, g_if_ge, g_if_gt, g_if_le, g_idiv, g_irem, g_ldiv, g_iload, g_lload, g_aload, g_istore, g_astore, g_lstore, g_iinc, g_getfield, g_putfield, g_iaload, g_baload, g_laload, g_aaload, g_iastore, g_bastore, g_lastore, g_arraylength, g_call0_0, g_call0_1, g_call0_2, g_call0_3, g_call0_4, g_call1_0, g_call1_1, g_call1_2, g_call1_3, g_call1_4, g_call2_0, g_call2_1, g_call2_2, g_call2_3, g_call2_4, g_call3_0, g_call3_1, g_call3_2, g_call3_3, g_call3_4, g_call4_0, g_call4_1, g_call4_2, g_call4_3, g_call4_4, g_call5_0, g_call5_1, g_call5_2, g_call5_3, g_call5_4, g_call6_0, g_call6_1, g_call6_2, g_call6_3, g_call6_4, g_ireturn, g_lreturn, g_return, g_zreturn, sto_0, sto_s, sto2_0, sto2_s, isL_i, isL_r, isL_l, isL_j, ldI_0, ldI_9, ldZ_2, ldL_1, ldQ_3, stI_0, stL_1, stZ_2, gF_o, pF_o, lenA_9, oB_some, vI_i, vJ_j, vR_r, Option.map_some, List.getElem?_cons_zero, List.getElem?_cons_succ, Nat.reduceDiv, Nat.reduceMod, Int.reduceToNat, true_and, and_true, false_and, reduceIte, List.set_cons_zero, List.set_cons_succ, Option.toList_some, Option.toList_none, List.cons_append, List.nil_append, List.length_cons, List.length_nil, Nat.reduceAdd, Nat.reduceLeDiff, Nat.reduceLT, Nat.reduceEqDiff, and_self, and_false, Bool.false_eq_true, ho, eo, iI_f, i32_0, i32_1, b2i_0, b2i_n, iI_add, iI_sub, iI_mul, iI_neg, iI_lt, iI_le, iI_eq, iI_in, iI_cl, i_nn, eq_self, true_or, or_true, not_true_eq_false, not_false_eq_true, Int.reduceEq, Int.reduceLT, Int.reduceLE, Int.reduceNeg]
    refine ite_c (fun c2 => ?_) (fun c2 => ?_)
    · rw [if_pos (by omega), yWrite, if_pos (by omega), i_nn] at hq
      simp (disch := omega) only [B113_29, b113_29, g_iconst, g_lconst, g_iadd, g_isub, g_imul, g_iand, g_ior, g_ishl, g_ishr, g_iushr, g_ladd, g_lsub, g_lmul, g_land, g_lor, g_lcmp, g_ineg, g_lshl, g_lshr, g_i2l, g_l2i, g_dupi, g_dupr, g_pop, g_dup2, g_mabs_0, g_mabs_1, g_mabs_2, g_mabs_3, g_mmax_0, g_mmax_1, g_mmax_2, g_mmax_3, g_mmin_0, g_mmin_1, g_mmin_2, g_mmin_3, g_goto, g_jsr, g_icmp_eq, g_icmp_ne, g_icmp_lt, g_icmp_ge, g_icmp_gt, g_icmp_le, g_if_eq, g_if_ne, g_if_lt, g_if_ge, g_if_gt, g_if_le, g_idiv, g_irem, g_ldiv, g_iload, g_lload, g_aload, g_istore, g_astore, g_lstore, g_iinc, g_getfield, g_putfield, g_iaload, g_baload, g_laload, g_aaload, g_iastore, g_bastore, g_lastore, g_arraylength, g_call0_0, g_call0_1, g_call0_2, g_call0_3, g_call0_4, g_call1_0, g_call1_1, g_call1_2, g_call1_3, g_call1_4, g_call2_0, g_call2_1, g_call2_2, g_call2_3, g_call2_4, g_call3_0, g_call3_1, g_call3_2, g_call3_3, g_call3_4, g_call4_0, g_call4_1, g_call4_2, g_call4_3, g_call4_4, g_call5_0, g_call5_1, g_call5_2, g_call5_3, g_call5_4, g_call6_0, g_call6_1, g_call6_2, g_call6_3, g_call6_4, g_ireturn, g_lreturn, g_return, g_zreturn, sto_0, sto_s, sto2_0, sto2_s, isL_i, isL_r, isL_l, isL_j, ldI_0, ldI_9, ldZ_2, ldL_1, ldQ_3, stI_0, stL_1, stZ_2, gF_o, pF_o, lenA_9, oB_some, vI_i, vJ_j, vR_r, Option.map_some, List.getElem?_cons_zero, List.getElem?_cons_succ, Nat.reduceDiv, Nat.reduceMod, Int.reduceToNat, true_and, and_true, false_and, reduceIte, List.set_cons_zero, List.set_cons_succ, Option.toList_some, Option.toList_none, List.cons_append, List.nil_append, List.length_cons, List.length_nil, Nat.reduceAdd, Nat.reduceLeDiff, Nat.reduceLT, Nat.reduceEqDiff, and_self, and_false, Bool.false_eq_true, iI_f, i32_0, i32_1, b2i_0, b2i_n, iI_add, iI_sub, iI_mul, iI_neg, iI_lt, iI_le, iI_eq, iI_in, iI_cl, i_nn, eq_self, true_or, or_true, not_true_eq_false, not_false_eq_true, Int.reduceEq, Int.reduceLT, Int.reduceLE, Int.reduceNeg]
      refine l_mwrite (L := mL M) (B := mB M) (o := o) (by omega) (by omega) (fun h' o' e1 e2 e3 e4 => ?_) k h o (by omega) (by omega) hO (by rw [Nat.sub_self, apF_0]; exact h57) Fr.rf
      have w := hq h' (hM.txt e4 ⟨o', e1, e2⟩ e3)
      push_cast
      exact w
    · rw [if_neg (by omega), yWrite, if_neg (by omega)] at hq
      exact hq h (WrM.rf hM)
  · rw [bWrite, if_neg c1, yWrite, if_neg (by omega)] at hq
    exact ite_f (by simp only [inB, decide_eq_true_eq]; omega) (hq h (WrM.rf hM))
set_option maxRecDepth 10000 in
theorem m_wipe {h : fH} {M : MZ} (hM : Mdl h M) {Q : Option Value → fH → Prop} (hq : ∀ h', WrM h (mT M 0 (mB M)) h' → Q (some (.int (iI (mL M)))) h') : Call 114 [.ref 56] h Q := by
  obtain ⟨⟨o, eo, hO⟩, h57, -⟩ := id hM
  have ho := id hO
  unfold Mob at ho
  refine ⟨by simp [vOK, entL, isL, mlT, kdT, clT, isO, ho], rfl, ?_⟩
  rw [show ent 114 [.ref 56] = [.ref 56, jk] from rfl]
  simp (disch := omega) only [B114_0, b114_0, g_iconst, g_lconst, g_iadd, g_isub, g_imul, g_iand, g_ior, g_ishl, g_ishr, g_iushr, g_ladd, g_lsub, g_lmul, g_land, g_lor, g_lcmp, g_ineg, g_lshl, g_lshr, g_i2l, g_l2i, g_dupi, g_dupr, g_pop, g_dup2, g_mabs_0, g_mabs_1, g_mabs_2, g_mabs_3, g_mmax_0, g_mmax_1, g_mmax_2, g_mmax_3, g_mmin_0, g_mmin_1, g_mmin_2, g_mmin_3, g_goto, g_jsr, g_icmp_eq, g_icmp_ne, g_icmp_lt, g_icmp_ge, g_icmp_gt, g_icmp_le, g_if_eq, g_if_ne, g_if_lt, g_if_ge, g_if_gt, g_if_le, g_idiv, g_irem, g_ldiv, g_iload, g_lload, g_aload, g_istore, g_astore, g_lstore, g_iinc, g_getfield, g_putfield, g_iaload, g_baload, g_laload, g_aaload, g_iastore, g_bastore, g_lastore, g_arraylength, g_call0_0, g_call0_1, g_call0_2, g_call0_3, g_call0_4, g_call1_0, g_call1_1, g_call1_2, g_call1_3, g_call1_4, g_call2_0, g_call2_1, g_call2_2, g_call2_3, g_call2_4, g_call3_0, g_call3_1, g_call3_2, g_call3_3, g_call3_4, g_call4_0, g_call4_1, g_call4_2, g_call4_3, g_call4_4, g_call5_0, g_call5_1, g_call5_2, g_call5_3, g_call5_4, g_call6_0, g_call6_1, g_call6_2, g_call6_3, g_call6_4, g_ireturn, g_lreturn, g_return, g_zreturn, sto_0, sto_s, sto2_0, sto2_s, isL_i, isL_r, isL_l, isL_j, ldI_0, ldI_9, ldZ_2, ldL_1, ldQ_3, stI_0, stL_1, stZ_2, gF_o, pF_o, lenA_9, oB_some, vI_i, vJ_j, vR_r, Option.map_some, List.getElem?_cons_zero, List.getElem?_cons_succ, Nat.reduceDiv, Nat.reduceMod, Int.reduceToNat, true_and, and_true, false_and, reduceIte, List.set_cons_zero, List.set_cons_succ, Option.toList_some, Option.toList_none, List.cons_append, List.nil_append, List.length_cons, List.length_nil, Nat.reduceAdd, Nat.reduceLeDiff, Nat.reduceLT, Nat.reduceEqDiff, and_self, and_false, Bool.false_eq_true, ho, eo, fk193, fit_i, iI_f, i32_0, i32_1, b2i_0, b2i_n, iI_add, iI_sub, iI_mul, iI_neg, iI_lt, iI_le, iI_eq, iI_in, iI_cl, i_nn, eq_self, true_or, or_true, not_true_eq_false, not_false_eq_true, Int.reduceEq, Int.reduceLT, Int.reduceLE, Int.reduceNeg]
  have hF : Fr h (f_st h 56 (.inr (6, [.ref 57, .int (iI ((0 : Nat) : Int)), .ref 58, .ref 59, .int (iI o.2.1), .ref 60, .ref 61, .ref 62, .ref 63, .ref 64, .ref 65, .ref 66, .int (iI o.2.2.1), .ref 67, .ref 68, .ref 69, .ref 70, .ref 71, .ref 72, .int (iI o.2.2.2.1), .int (iI o.2.2.2.2.1), .int (iI o.2.2.2.2.2.1), .int (iI o.2.2.2.2.2.2.1), .int (iI o.2.2.2.2.2.2.2), .ref 73, .ref 74, .ref 75, .ref 76]))) txS := Fr.rf.st (Or.inl rfl)
  exact hq _ (hM.txt hF ⟨(0, o.2), rfl, by unfold Mob; rw [fg_st_s]; rfl⟩ (h57.of (Fr.rf.st (S := fun k => k = 56) rfl) (by omega)))
