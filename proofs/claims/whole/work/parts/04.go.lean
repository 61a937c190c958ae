theorem g_iconst {mid : Nat} {is : List Instr} {lv st : List Value} {hp : fH} {Q : Option Value → fH → Prop} {i : Int} : Go mid (.iconst i :: is) lv (st) hp Q ↔ Go mid is lv (.int (Int32.ofInt i) :: st) hp Q := go_next rfl
theorem g_lconst {mid : Nat} {is : List Instr} {lv st : List Value} {hp : fH} {Q : Option Value → fH → Prop} {i : Int} : Go mid (.goto_w i :: is) lv (st) hp Q ↔ Go mid is lv (.long (Int64.ofInt i) :: st) hp Q := go_next rfl
theorem g_iadd {mid : Nat} {is : List Instr} {lv st : List Value} {hp : fH} {Q : Option Value → fH → Prop} {x y : Int32} : Go mid (.iadd :: is) lv (.int y :: .int x :: st) hp Q ↔ Go mid is lv (.int (x + y) :: st) hp Q := go_next rfl
theorem g_isub {mid : Nat} {is : List Instr} {lv st : List Value} {hp : fH} {Q : Option Value → fH → Prop} {x y : Int32} : Go mid (.isub :: is) lv (.int y :: .int x :: st) hp Q ↔ Go mid is lv (.int (x - y) :: st) hp Q := go_next rfl
theorem g_imul {mid : Nat} {is : List Instr} {lv st : List Value} {hp : fH} {Q : Option Value → fH → Prop} {x y : Int32} : Go mid (.imul :: is) lv (.int y :: .int x :: st) hp Q ↔ Go mid is lv (.int (x * y) :: st) hp Q := go_next rfl
theorem g_iand {mid : Nat} {is : List Instr} {lv st : List Value} {hp : fH} {Q : Option Value → fH → Prop} {x y : Int32} : Go mid (.iand :: is) lv (.int y :: .int x :: st) hp Q ↔ Go mid is lv (.int (x &&& y) :: st) hp Q := go_next rfl
theorem g_ior {mid : Nat} {is : List Instr} {lv st : List Value} {hp : fH} {Q : Option Value → fH → Prop} {x y : Int32} : Go mid (.ior :: is) lv (.int y :: .int x :: st) hp Q ↔ Go mid is lv (.int (x ||| y) :: st) hp Q := go_next rfl
theorem g_ishl {mid : Nat} {is : List Instr} {lv st : List Value} {hp : fH} {Q : Option Value → fH → Prop} {x y : Int32} : Go mid (.ishl :: is) lv (.int y :: .int x :: st) hp Q ↔ Go mid is lv (.int (x <<< (y &&& 31)) :: st) hp Q := go_next rfl
theorem g_ishr {mid : Nat} {is : List Instr} {lv st : List Value} {hp : fH} {Q : Option Value → fH → Prop} {x y : Int32} : Go mid (.ishr :: is) lv (.int y :: .int x :: st) hp Q ↔ Go mid is lv (.int (x >>> (y &&& 31)) :: st) hp Q := go_next rfl
theorem g_iushr {mid : Nat} {is : List Instr} {lv st : List Value} {hp : fH} {Q : Option Value → fH → Prop} {x y : Int32} : Go mid (.iushr :: is) lv (.int y :: .int x :: st) hp Q ↔ Go mid is lv (.int ((x.toUInt32 >>> (y.toUInt32 &&& Int32.toUInt32 31)).toInt32) :: st) hp Q := go_next rfl
theorem g_ladd {mid : Nat} {is : List Instr} {lv st : List Value} {hp : fH} {Q : Option Value → fH → Prop} {x y : Int64} : Go mid (.ladd :: is) lv (.long y :: .long x :: st) hp Q ↔ Go mid is lv (.long (x + y) :: st) hp Q := go_next rfl
theorem g_lsub {mid : Nat} {is : List Instr} {lv st : List Value} {hp : fH} {Q : Option Value → fH → Prop} {x y : Int64} : Go mid (.lsub :: is) lv (.long y :: .long x :: st) hp Q ↔ Go mid is lv (.long (x - y) :: st) hp Q := go_next rfl
theorem g_lmul {mid : Nat} {is : List Instr} {lv st : List Value} {hp : fH} {Q : Option Value → fH → Prop} {x y : Int64} : Go mid (.lmul :: is) lv (.long y :: .long x :: st) hp Q ↔ Go mid is lv (.long (x * y) :: st) hp Q := go_next rfl
theorem g_land {mid : Nat} {is : List Instr} {lv st : List Value} {hp : fH} {Q : Option Value → fH → Prop} {x y : Int64} : Go mid (.land :: is) lv (.long y :: .long x :: st) hp Q ↔ Go mid is lv (.long (x &&& y) :: st) hp Q := go_next rfl
theorem g_lor {mid : Nat} {is : List Instr} {lv st : List Value} {hp : fH} {Q : Option Value → fH → Prop} {x y : Int64} : Go mid (.lor :: is) lv (.long y :: .long x :: st) hp Q ↔ Go mid is lv (.long (x ||| y) :: st) hp Q := go_next rfl
theorem g_lcmp {mid : Nat} {is : List Instr} {lv st : List Value} {hp : fH} {Q : Option Value → fH → Prop} {x y : Int64} : Go mid (.lcmp :: is) lv (.long y :: .long x :: st) hp Q ↔ Go mid is lv (.int (lg_cmp x y) :: st) hp Q := go_next rfl
theorem g_ineg {mid : Nat} {is : List Instr} {lv st : List Value} {hp : fH} {Q : Option Value → fH → Prop} {x : Int32} : Go mid (.ineg :: is) lv (.int x :: st) hp Q ↔ Go mid is lv (.int (-x) :: st) hp Q := go_next rfl
theorem g_lshl {mid : Nat} {is : List Instr} {lv st : List Value} {hp : fH} {Q : Option Value → fH → Prop} {x : Int64} {y : Int32} : Go mid (.lshl :: is) lv (.int y :: .long x :: st) hp Q ↔ Go mid is lv (.long (x <<< (y.toInt64 &&& 63)) :: st) hp Q := go_next rfl
theorem g_lshr {mid : Nat} {is : List Instr} {lv st : List Value} {hp : fH} {Q : Option Value → fH → Prop} {x : Int64} {y : Int32} : Go mid (.lshr :: is) lv (.int y :: .long x :: st) hp Q ↔ Go mid is lv (.long (x >>> (y.toInt64 &&& 63)) :: st) hp Q := go_next rfl
theorem g_i2l {mid : Nat} {is : List Instr} {lv st : List Value} {hp : fH} {Q : Option Value → fH → Prop} {x : Int32} : Go mid (.i2l :: is) lv (.int x :: st) hp Q ↔ Go mid is lv (.long x.toInt64 :: st) hp Q := go_next rfl
theorem g_l2i {mid : Nat} {is : List Instr} {lv st : List Value} {hp : fH} {Q : Option Value → fH → Prop} {x : Int64} : Go mid (.l2i :: is) lv (.long x :: st) hp Q ↔ Go mid is lv (.int x.toInt32 :: st) hp Q := go_next rfl
theorem g_dupi {mid : Nat} {is : List Instr} {lv st : List Value} {hp : fH} {Q : Option Value → fH → Prop} {x : Int32} : Go mid (.dup :: is) lv (.int x :: st) hp Q ↔ Go mid is lv (.int x :: .int x :: st) hp Q := go_next rfl
theorem g_dupr {mid : Nat} {is : List Instr} {lv st : List Value} {hp : fH} {Q : Option Value → fH → Prop} {x : Nat} : Go mid (.dup :: is) lv (.ref x :: st) hp Q ↔ Go mid is lv (.ref x :: .ref x :: st) hp Q := go_next rfl
theorem g_pop {mid : Nat} {is : List Instr} {lv st : List Value} {hp : fH} {Q : Option Value → fH → Prop} {x : Int32} : Go mid (.pop :: is) lv (.int x :: st) hp Q ↔ Go mid is lv (st) hp Q := go_next rfl
theorem g_dup2 {mid : Nat} {is : List Instr} {lv st : List Value} {hp : fH} {Q : Option Value → fH → Prop} {x : Nat} {y : Int32} : Go mid (.dup2 :: is) lv (.int y :: .ref x :: st) hp Q ↔ Go mid is lv (.int y :: .ref x :: .int y :: .ref x :: st) hp Q := go_next rfl
theorem g_mabs {mid : Nat} {is : List Instr} {lv st : List Value} {hp : fH} {Q : Option Value → fH → Prop} {x : Int32} (h : st.length ≤ 3) : Go mid (.fneg :: is) lv (.int x :: st) hp Q ↔ Go mid is lv (.int (if 0 ≤ x then x else 0 - x) :: st) hp Q := go_next (by simp [stp, h])
theorem g_mmax {mid : Nat} {is : List Instr} {lv st : List Value} {hp : fH} {Q : Option Value → fH → Prop} {x y : Int32} (h : st.length ≤ 3) : Go mid (.fadd :: is) lv (.int y :: .int x :: st) hp Q ↔ Go mid is lv (.int (if x < y then y else x) :: st) hp Q := go_next (by simp [stp, h])
theorem g_mmin {mid : Nat} {is : List Instr} {lv st : List Value} {hp : fH} {Q : Option Value → fH → Prop} {x y : Int32} (h : st.length ≤ 3) : Go mid (.fsub :: is) lv (.int y :: .int x :: st) hp Q ↔ Go mid is lv (.int (if y < x then y else x) :: st) hp Q := go_next (by simp [stp, h])
theorem g_goto {mid : Nat} {is : List Instr} {lv st : List Value} {hp : fH} {Q : Option Value → fH → Prop} {t : Int} : Go mid (.goto t :: is) lv st hp Q ↔ Go mid (blk mid t.toNat) lv st hp Q := go_next rfl
theorem g_jsr {mid : Nat} {is : List Instr} {lv st : List Value} {hp : fH} {Q : Option Value → fH → Prop} {t : Int} : Go mid (.jsr t :: is) lv st hp Q ↔ Go mid (blk mid t.toNat) lv st hp Q := go_next rfl
theorem g_icmp_eq {mid : Nat} {is : List Instr} {lv st : List Value} {hp : fH} {Q : Option Value → fH → Prop} {x y : Int32} {t : Int} : Go mid (.if_icmp .eq t :: is) lv (.int y :: .int x :: st) hp Q ↔ if x = y then Go mid (blk mid t.toNat) lv st hp Q else Go mid is lv st hp Q := by
  by_cases h : x = y
  · rw [if_pos h]; exact go_next (by simp [stp, cmpC, h])
  · rw [if_neg h]; exact go_next (by simp [stp, cmpC, h])
theorem g_if_eq {mid : Nat} {is : List Instr} {lv st : List Value} {hp : fH} {Q : Option Value → fH → Prop} {x : Int32} {t : Int} : Go mid (.ifCond .eq t :: is) lv (.int x :: st) hp Q ↔ if x = 0 then Go mid (blk mid t.toNat) lv st hp Q else Go mid is lv st hp Q := by
  by_cases h : x = 0
  · rw [if_pos h]; exact go_next (by simp [stp, cmpC, h])
  · rw [if_neg h]; exact go_next (by simp [stp, cmpC, h])
theorem g_icmp_ne {mid : Nat} {is : List Instr} {lv st : List Value} {hp : fH} {Q : Option Value → fH → Prop} {x y : Int32} {t : Int} : Go mid (.if_icmp .ne t :: is) lv (.int y :: .int x :: st) hp Q ↔ if ¬ x = y then Go mid (blk mid t.toNat) lv st hp Q else Go mid is lv st hp Q := by
  by_cases h : ¬ x = y
  · rw [if_pos h]; exact go_next (by simp [stp, cmpC, h])
  · rw [if_neg h]; exact go_next (by simp [stp, cmpC, h])
theorem g_if_ne {mid : Nat} {is : List Instr} {lv st : List Value} {hp : fH} {Q : Option Value → fH → Prop} {x : Int32} {t : Int} : Go mid (.ifCond .ne t :: is) lv (.int x :: st) hp Q ↔ if ¬ x = 0 then Go mid (blk mid t.toNat) lv st hp Q else Go mid is lv st hp Q := by
  by_cases h : ¬ x = 0
  · rw [if_pos h]; exact go_next (by simp [stp, cmpC, h])
  · rw [if_neg h]; exact go_next (by simp [stp, cmpC, h])
theorem g_icmp_lt {mid : Nat} {is : List Instr} {lv st : List Value} {hp : fH} {Q : Option Value → fH → Prop} {x y : Int32} {t : Int} : Go mid (.if_icmp .lt t :: is) lv (.int y :: .int x :: st) hp Q ↔ if x < y then Go mid (blk mid t.toNat) lv st hp Q else Go mid is lv st hp Q := by
  by_cases h : x < y
  · rw [if_pos h]; exact go_next (by simp [stp, cmpC, h])
  · rw [if_neg h]; exact go_next (by simp [stp, cmpC, h])
theorem g_if_lt {mid : Nat} {is : List Instr} {lv st : List Value} {hp : fH} {Q : Option Value → fH → Prop} {x : Int32} {t : Int} : Go mid (.ifCond .lt t :: is) lv (.int x :: st) hp Q ↔ if x < 0 then Go mid (blk mid t.toNat) lv st hp Q else Go mid is lv st hp Q := by
  by_cases h : x < 0
  · rw [if_pos h]; exact go_next (by simp [stp, cmpC, h])
  · rw [if_neg h]; exact go_next (by simp [stp, cmpC, h])
theorem g_icmp_ge {mid : Nat} {is : List Instr} {lv st : List Value} {hp : fH} {Q : Option Value → fH → Prop} {x y : Int32} {t : Int} : Go mid (.if_icmp .ge t :: is) lv (.int y :: .int x :: st) hp Q ↔ if y ≤ x then Go mid (blk mid t.toNat) lv st hp Q else Go mid is lv st hp Q := by
  by_cases h : y ≤ x
  · rw [if_pos h]; exact go_next (by simp [stp, cmpC, h])
  · rw [if_neg h]; exact go_next (by simp [stp, cmpC, h])
theorem g_if_ge {mid : Nat} {is : List Instr} {lv st : List Value} {hp : fH} {Q : Option Value → fH → Prop} {x : Int32} {t : Int} : Go mid (.ifCond .ge t :: is) lv (.int x :: st) hp Q ↔ if 0 ≤ x then Go mid (blk mid t.toNat) lv st hp Q else Go mid is lv st hp Q := by
  by_cases h : 0 ≤ x
  · rw [if_pos h]; exact go_next (by simp [stp, cmpC, h])
  · rw [if_neg h]; exact go_next (by simp [stp, cmpC, h])
theorem g_icmp_gt {mid : Nat} {is : List Instr} {lv st : List Value} {hp : fH} {Q : Option Value → fH → Prop} {x y : Int32} {t : Int} : Go mid (.if_icmp .gt t :: is) lv (.int y :: .int x :: st) hp Q ↔ if y < x then Go mid (blk mid t.toNat) lv st hp Q else Go mid is lv st hp Q := by
  by_cases h : y < x
  · rw [if_pos h]; exact go_next (by simp [stp, cmpC, h])
  · rw [if_neg h]; exact go_next (by simp [stp, cmpC, h])
theorem g_if_gt {mid : Nat} {is : List Instr} {lv st : List Value} {hp : fH} {Q : Option Value → fH → Prop} {x : Int32} {t : Int} : Go mid (.ifCond .gt t :: is) lv (.int x :: st) hp Q ↔ if 0 < x then Go mid (blk mid t.toNat) lv st hp Q else Go mid is lv st hp Q := by
  by_cases h : 0 < x
  · rw [if_pos h]; exact go_next (by simp [stp, cmpC, h])
  · rw [if_neg h]; exact go_next (by simp [stp, cmpC, h])
theorem g_icmp_le {mid : Nat} {is : List Instr} {lv st : List Value} {hp : fH} {Q : Option Value → fH → Prop} {x y : Int32} {t : Int} : Go mid (.if_icmp .le t :: is) lv (.int y :: .int x :: st) hp Q ↔ if x ≤ y then Go mid (blk mid t.toNat) lv st hp Q else Go mid is lv st hp Q := by
  by_cases h : x ≤ y
  · rw [if_pos h]; exact go_next (by simp [stp, cmpC, h])
  · rw [if_neg h]; exact go_next (by simp [stp, cmpC, h])
theorem g_if_le {mid : Nat} {is : List Instr} {lv st : List Value} {hp : fH} {Q : Option Value → fH → Prop} {x : Int32} {t : Int} : Go mid (.ifCond .le t :: is) lv (.int x :: st) hp Q ↔ if x ≤ 0 then Go mid (blk mid t.toNat) lv st hp Q else Go mid is lv st hp Q := by
  by_cases h : x ≤ 0
  · rw [if_pos h]; exact go_next (by simp [stp, cmpC, h])
  · rw [if_neg h]; exact go_next (by simp [stp, cmpC, h])
theorem g_switch {mid : Nat} {is : List Instr} {lv st : List Value} {hp : fH} {Q : Option Value → fH → Prop} {x : Int32} {d lo hi : Int} {offs : Array Int} : Go mid (.tableswitch d lo hi offs :: is) lv (.int x :: st) hp Q ↔ Go mid (blk mid (if x.toInt < lo ∨ hi < x.toInt then d.toNat else (offs.getD (x.toInt - lo).toNat d).toNat)) lv st hp Q := go_next rfl
theorem g_idiv {mid : Nat} {is : List Instr} {lv st : List Value} {hp : fH} {Q : Option Value → fH → Prop} {x y : Int32} : Go mid (.idiv :: is) lv (.int y :: .int x :: st) hp Q ↔ ¬ y = 0 ∧ Go mid is lv (.int (x / y) :: st) hp Q := by
  by_cases h : y = 0
  · exact ⟨fun g => absurd g (go_none (by simp [stp, h])), fun g => absurd h g.1⟩
  · rw [go_next (is' := is) (lv' := lv) (st' := .int (x / y) :: st) (hp' := hp) (by simp [stp, h])]; exact ⟨fun g => ⟨h, g⟩, fun g => g.2⟩
theorem g_irem {mid : Nat} {is : List Instr} {lv st : List Value} {hp : fH} {Q : Option Value → fH → Prop} {x y : Int32} : Go mid (.irem :: is) lv (.int y :: .int x :: st) hp Q ↔ ¬ y = 0 ∧ Go mid is lv (.int (x - x / y * y) :: st) hp Q := by
  by_cases h : y = 0
  · exact ⟨fun g => absurd g (go_none (by simp [stp, h])), fun g => absurd h g.1⟩
  · rw [go_next (is' := is) (lv' := lv) (st' := .int (x - x / y * y) :: st) (hp' := hp) (by simp [stp, h])]; exact ⟨fun g => ⟨h, g⟩, fun g => g.2⟩
theorem g_ldiv {mid : Nat} {is : List Instr} {lv st : List Value} {hp : fH} {Q : Option Value → fH → Prop} {x y : Int64} : Go mid (.ldiv :: is) lv (.long y :: .long x :: st) hp Q ↔ ¬ y = 0 ∧ Go mid is lv (.long (x / y) :: st) hp Q := by
  by_cases h : y = 0
  · exact ⟨fun g => absurd g (go_none (by simp [stp, h])), fun g => absurd h g.1⟩
  · rw [go_next (is' := is) (lv' := lv) (st' := .long (x / y) :: st) (hp' := hp) (by simp [stp, h])]; exact ⟨fun g => ⟨h, g⟩, fun g => g.2⟩
def vI (o : Option Value) (K : Int32 → Prop) : Prop := ∃ x, o = some (.int x) ∧ K x
def vJ (o : Option Value) (K : Int64 → Prop) : Prop := ∃ x, o = some (.long x) ∧ K x
def vR (o : Option Value) (K : Nat → Prop) : Prop := ∃ x, o = some (.ref x) ∧ K x
theorem vI_i (x : Int32) (K : Int32 → Prop) : vI (some (.int x)) K ↔ K x := ⟨fun ⟨_, h, k⟩ => Value.int.inj (Option.some.inj h) ▸ k, fun k => ⟨x, rfl, k⟩⟩
theorem vJ_j (x : Int64) (K : Int64 → Prop) : vJ (some (.long x)) K ↔ K x := ⟨fun ⟨_, h, k⟩ => Value.long.inj (Option.some.inj h) ▸ k, fun k => ⟨x, rfl, k⟩⟩
theorem vR_r (x : Nat) (K : Nat → Prop) : vR (some (.ref x)) K ↔ K x := ⟨fun ⟨_, h, k⟩ => Value.ref.inj (Option.some.inj h) ▸ k, fun k => ⟨x, rfl, k⟩⟩
theorem g_iload {mid : Nat} {is : List Instr} {lv st : List Value} {hp : fH} {Q : Option Value → fH → Prop} {i : Nat} : Go mid (.iload i :: is) lv st hp Q ↔ vI (lv[i]?) (fun x => Go mid is lv (.int x :: st) hp Q) := by
  constructor
  · intro g
    cases h : lv[i]? with
    | none => exact absurd g (go_none (by simp [stp, h]))
    | some v =>
      cases v with
      | int x => exact ⟨x, rfl, (go_next (by simp [stp, h])).mp g⟩
      | _ => exact absurd g (go_none (by simp [stp, h]))
  · rintro ⟨x, h, g⟩
    exact (go_next (by simp [stp, h])).mpr g
theorem g_lload {mid : Nat} {is : List Instr} {lv st : List Value} {hp : fH} {Q : Option Value → fH → Prop} {i : Nat} : Go mid (.lload i :: is) lv st hp Q ↔ vJ (lv[i]?) (fun x => Go mid is lv (.long x :: st) hp Q) := by
  constructor
  · intro g
    cases h : lv[i]? with
    | none => exact absurd g (go_none (by simp [stp, h]))
    | some v =>
      cases v with
      | long x => exact ⟨x, rfl, (go_next (by simp [stp, h])).mp g⟩
      | _ => exact absurd g (go_none (by simp [stp, h]))
  · rintro ⟨x, h, g⟩
    exact (go_next (by simp [stp, h])).mpr g
theorem g_aload {mid : Nat} {is : List Instr} {lv st : List Value} {hp : fH} {Q : Option Value → fH → Prop} {i : Nat} : Go mid (.aload i :: is) lv st hp Q ↔ vR (lv[i]?) (fun x => Go mid is lv (.ref x :: st) hp Q) := by
  constructor
  · intro g
    cases h : lv[i]? with
    | none => exact absurd g (go_none (by simp [stp, h]))
    | some v =>
      cases v with
      | ref x => exact ⟨x, rfl, (go_next (by simp [stp, h])).mp g⟩
      | _ => exact absurd g (go_none (by simp [stp, h]))
  · rintro ⟨x, h, g⟩
    exact (go_next (by simp [stp, h])).mpr g
theorem g_istore {mid : Nat} {is : List Instr} {lv st : List Value} {hp : fH} {Q : Option Value → fH → Prop} {i : Nat} {x : Int32} : Go mid (.istore i :: is) lv (.int x :: st) hp Q ↔ oB (sto lv i (.int x)) (fun v => Go mid is v st hp Q) := go_opt (sto lv i (.int x)) (fun v => (is, v, st, hp)) rfl
theorem g_astore {mid : Nat} {is : List Instr} {lv st : List Value} {hp : fH} {Q : Option Value → fH → Prop} {i : Nat} {x : Nat} : Go mid (.astore i :: is) lv (.ref x :: st) hp Q ↔ oB (sto lv i (.ref x)) (fun v => Go mid is v st hp Q) := go_opt (sto lv i (.ref x)) (fun v => (is, v, st, hp)) rfl
theorem g_lstore {mid : Nat} {is : List Instr} {lv st : List Value} {hp : fH} {Q : Option Value → fH → Prop} {i : Nat} {x : Int64} : Go mid (.lstore i :: is) lv (.long x :: st) hp Q ↔ oB (sto2 lv i (.long x)) (fun v => Go mid is v st hp Q) := go_opt (sto2 lv i (.long x)) (fun v => (is, v, st, hp)) rfl
theorem g_iinc {mid : Nat} {is : List Instr} {lv st : List Value} {hp : fH} {Q : Option Value → fH → Prop} {i : Nat} {c : Int} : Go mid (.iinc i c :: is) lv st hp Q ↔ vI (lv[i]?) (fun x => oB (sto lv i (.int (x + Int32.ofInt c))) (fun v => Go mid is v st hp Q)) := by
  constructor
  · intro g
    cases h : lv[i]? with
    | none => exact absurd g (go_none (by simp [stp, h]))
    | some v =>
      cases v with
      | int x => exact ⟨x, rfl, (go_opt (sto lv i (.int (x + Int32.ofInt c))) (fun v => (is, v, st, hp)) (by simp [stp, h])).mp g⟩
      | _ => exact absurd g (go_none (by simp [stp, h]))
  · rintro ⟨x, h, g⟩
    exact (go_opt (sto lv i (.int (x + Int32.ofInt c))) (fun v => (is, v, st, hp)) (by simp [stp, h])).mpr g
theorem g_getfield {mid : Nat} {is : List Instr} {lv st : List Value} {hp : fH} {Q : Option Value → fH → Prop} {n a : Nat} : Go mid (.getfield n :: is) lv (.ref a :: st) hp Q ↔ oB (gF (f_get hp a) n) (fun v => Go mid is lv (v :: st) hp Q) := go_opt (gF (f_get hp a) n) (fun v => (is, lv, v :: st, hp)) rfl
theorem g_putfield {mid : Nat} {is : List Instr} {lv st : List Value} {hp : fH} {Q : Option Value → fH → Prop} {n a : Nat} {x : Value} : Go mid (.putfield n :: is) lv (x :: .ref a :: st) hp Q ↔ oB (pF (f_get hp a) n x) (fun v => Go mid is lv st (f_st hp a v) Q) := go_opt (pF (f_get hp a) n x) (fun v => (is, lv, st, f_st hp a v)) rfl
theorem g_iaload {mid : Nat} {is : List Instr} {lv st : List Value} {hp : fH} {Q : Option Value → fH → Prop} {a : Nat} {i : Int32} : Go mid (.iaload :: is) lv (.int i :: .ref a :: st) hp Q ↔ oB (ldI (f_get hp a) i) (fun v => Go mid is lv (.int v :: st) hp Q) := go_opt (ldI (f_get hp a) i) (fun v => (is, lv, .int v :: st, hp)) rfl
theorem g_baload {mid : Nat} {is : List Instr} {lv st : List Value} {hp : fH} {Q : Option Value → fH → Prop} {a : Nat} {i : Int32} : Go mid (.baload :: is) lv (.int i :: .ref a :: st) hp Q ↔ oB (ldZ (f_get hp a) i) (fun v => Go mid is lv (.int v :: st) hp Q) := go_opt (ldZ (f_get hp a) i) (fun v => (is, lv, .int v :: st, hp)) rfl
theorem g_laload {mid : Nat} {is : List Instr} {lv st : List Value} {hp : fH} {Q : Option Value → fH → Prop} {a : Nat} {i : Int32} : Go mid (.laload :: is) lv (.int i :: .ref a :: st) hp Q ↔ oB (ldL (f_get hp a) i) (fun v => Go mid is lv (.long v :: st) hp Q) := go_opt (ldL (f_get hp a) i) (fun v => (is, lv, .long v :: st, hp)) rfl
theorem g_aaload {mid : Nat} {is : List Instr} {lv st : List Value} {hp : fH} {Q : Option Value → fH → Prop} {a : Nat} {i : Int32} : Go mid (.aaload :: is) lv (.int i :: .ref a :: st) hp Q ↔ oB (ldQ (f_get hp a) i) (fun v => Go mid is lv (.ref v :: st) hp Q) := go_opt (ldQ (f_get hp a) i) (fun v => (is, lv, .ref v :: st, hp)) rfl
theorem g_iastore {mid : Nat} {is : List Instr} {lv st : List Value} {hp : fH} {Q : Option Value → fH → Prop} {a : Nat} {i : Int32} {x : Int32} : Go mid (.iastore :: is) lv (.int x :: .int i :: .ref a :: st) hp Q ↔ oB (stI (f_get hp a) i x) (fun v => Go mid is lv st (f_st hp a v) Q) := go_opt (stI (f_get hp a) i x) (fun v => (is, lv, st, f_st hp a v)) rfl
theorem g_bastore {mid : Nat} {is : List Instr} {lv st : List Value} {hp : fH} {Q : Option Value → fH → Prop} {a : Nat} {i : Int32} {x : Int32} : Go mid (.bastore :: is) lv (.int x :: .int i :: .ref a :: st) hp Q ↔ oB (stZ (f_get hp a) i x) (fun v => Go mid is lv st (f_st hp a v) Q) := go_opt (stZ (f_get hp a) i x) (fun v => (is, lv, st, f_st hp a v)) rfl
theorem g_lastore {mid : Nat} {is : List Instr} {lv st : List Value} {hp : fH} {Q : Option Value → fH → Prop} {a : Nat} {i : Int32} {x : Int64} : Go mid (.lastore :: is) lv (.long x :: .int i :: .ref a :: st) hp Q ↔ oB (stL (f_get hp a) i x) (fun v => Go mid is lv st (f_st hp a v) Q) := go_opt (stL (f_get hp a) i x) (fun v => (is, lv, st, f_st hp a v)) rfl
theorem g_arraylength {mid : Nat} {is : List Instr} {lv st : List Value} {hp : fH} {Q : Option Value → fH → Prop} {a : Nat} : Go mid (.arraylength :: is) lv (.ref a :: st) hp Q ↔ oB (lenA (f_get hp a)) (fun v => Go mid is lv (.int v :: st) hp Q) := go_opt (lenA (f_get hp a)) (fun v => (is, lv, .int v :: st, hp)) rfl
theorem g_call0_0 {mid : Nat} {is : List Instr} {lv : List Value} {hp : fH} {Q : Option Value → fH → Prop} {k : Nat}   : Go mid (.invokeinterface k 0 :: is) lv ([]) hp Q ↔ Call k [] hp (fun v h => Go mid is lv (v.toList ++ []) h Q) := go_call (by simp [stp])
theorem g_call0_1 {mid : Nat} {is : List Instr} {lv : List Value} {hp : fH} {Q : Option Value → fH → Prop} {k : Nat}  {s0 : Value} : Go mid (.invokeinterface k 0 :: is) lv ([s0]) hp Q ↔ Call k [] hp (fun v h => Go mid is lv (v.toList ++ [s0]) h Q) := go_call (by simp [stp])
theorem g_call0_2 {mid : Nat} {is : List Instr} {lv : List Value} {hp : fH} {Q : Option Value → fH → Prop} {k : Nat}  {s0 s1 : Value} : Go mid (.invokeinterface k 0 :: is) lv ([s0, s1]) hp Q ↔ Call k [] hp (fun v h => Go mid is lv (v.toList ++ [s0, s1]) h Q) := go_call (by simp [stp])
theorem g_call0_3 {mid : Nat} {is : List Instr} {lv : List Value} {hp : fH} {Q : Option Value → fH → Prop} {k : Nat}  {s0 s1 s2 : Value} : Go mid (.invokeinterface k 0 :: is) lv ([s0, s1, s2]) hp Q ↔ Call k [] hp (fun v h => Go mid is lv (v.toList ++ [s0, s1, s2]) h Q) := go_call (by simp [stp])
theorem g_call0_4 {mid : Nat} {is : List Instr} {lv : List Value} {hp : fH} {Q : Option Value → fH → Prop} {k : Nat}  {s0 s1 s2 s3 : Value} : Go mid (.invokeinterface k 0 :: is) lv ([s0, s1, s2, s3]) hp Q ↔ Call k [] hp (fun v h => Go mid is lv (v.toList ++ [s0, s1, s2, s3]) h Q) := go_call (by simp [stp])
theorem g_call1_0 {mid : Nat} {is : List Instr} {lv : List Value} {hp : fH} {Q : Option Value → fH → Prop} {k : Nat} {a0 : Value}  : Go mid (.invokeinterface k 1 :: is) lv (a0 :: []) hp Q ↔ Call k [a0] hp (fun v h => Go mid is lv (v.toList ++ []) h Q) := go_call (by simp [stp])
theorem g_call1_1 {mid : Nat} {is : List Instr} {lv : List Value} {hp : fH} {Q : Option Value → fH → Prop} {k : Nat} {a0 : Value} {s0 : Value} : Go mid (.invokeinterface k 1 :: is) lv (a0 :: [s0]) hp Q ↔ Call k [a0] hp (fun v h => Go mid is lv (v.toList ++ [s0]) h Q) := go_call (by simp [stp])
theorem g_call1_2 {mid : Nat} {is : List Instr} {lv : List Value} {hp : fH} {Q : Option Value → fH → Prop} {k : Nat} {a0 : Value} {s0 s1 : Value} : Go mid (.invokeinterface k 1 :: is) lv (a0 :: [s0, s1]) hp Q ↔ Call k [a0] hp (fun v h => Go mid is lv (v.toList ++ [s0, s1]) h Q) := go_call (by simp [stp])
theorem g_call1_3 {mid : Nat} {is : List Instr} {lv : List Value} {hp : fH} {Q : Option Value → fH → Prop} {k : Nat} {a0 : Value} {s0 s1 s2 : Value} : Go mid (.invokeinterface k 1 :: is) lv (a0 :: [s0, s1, s2]) hp Q ↔ Call k [a0] hp (fun v h => Go mid is lv (v.toList ++ [s0, s1, s2]) h Q) := go_call (by simp [stp])
theorem g_call1_4 {mid : Nat} {is : List Instr} {lv : List Value} {hp : fH} {Q : Option Value → fH → Prop} {k : Nat} {a0 : Value} {s0 s1 s2 s3 : Value} : Go mid (.invokeinterface k 1 :: is) lv (a0 :: [s0, s1, s2, s3]) hp Q ↔ Call k [a0] hp (fun v h => Go mid is lv (v.toList ++ [s0, s1, s2, s3]) h Q) := go_call (by simp [stp])
theorem g_call2_0 {mid : Nat} {is : List Instr} {lv : List Value} {hp : fH} {Q : Option Value → fH → Prop} {k : Nat} {a0 a1 : Value}  : Go mid (.invokeinterface k 2 :: is) lv (a1 :: a0 :: []) hp Q ↔ Call k [a0, a1] hp (fun v h => Go mid is lv (v.toList ++ []) h Q) := go_call (by simp [stp])
theorem g_call2_1 {mid : Nat} {is : List Instr} {lv : List Value} {hp : fH} {Q : Option Value → fH → Prop} {k : Nat} {a0 a1 : Value} {s0 : Value} : Go mid (.invokeinterface k 2 :: is) lv (a1 :: a0 :: [s0]) hp Q ↔ Call k [a0, a1] hp (fun v h => Go mid is lv (v.toList ++ [s0]) h Q) := go_call (by simp [stp])
theorem g_call2_2 {mid : Nat} {is : List Instr} {lv : List Value} {hp : fH} {Q : Option Value → fH → Prop} {k : Nat} {a0 a1 : Value} {s0 s1 : Value} : Go mid (.invokeinterface k 2 :: is) lv (a1 :: a0 :: [s0, s1]) hp Q ↔ Call k [a0, a1] hp (fun v h => Go mid is lv (v.toList ++ [s0, s1]) h Q) := go_call (by simp [stp])
theorem g_call2_3 {mid : Nat} {is : List Instr} {lv : List Value} {hp : fH} {Q : Option Value → fH → Prop} {k : Nat} {a0 a1 : Value} {s0 s1 s2 : Value} : Go mid (.invokeinterface k 2 :: is) lv (a1 :: a0 :: [s0, s1, s2]) hp Q ↔ Call k [a0, a1] hp (fun v h => Go mid is lv (v.toList ++ [s0, s1, s2]) h Q) := go_call (by simp [stp])
theorem g_call2_4 {mid : Nat} {is : List Instr} {lv : List Value} {hp : fH} {Q : Option Value → fH → Prop} {k : Nat} {a0 a1 : Value} {s0 s1 s2 s3 : Value} : Go mid (.invokeinterface k 2 :: is) lv (a1 :: a0 :: [s0, s1, s2, s3]) hp Q ↔ Call k [a0, a1] hp (fun v h => Go mid is lv (v.toList ++ [s0, s1, s2, s3]) h Q) := go_call (by simp [stp])
theorem g_call3_0 {mid : Nat} {is : List Instr} {lv : List Value} {hp : fH} {Q : Option Value → fH → Prop} {k : Nat} {a0 a1 a2 : Value}  : Go mid (.invokeinterface k 3 :: is) lv (a2 :: a1 :: a0 :: []) hp Q ↔ Call k [a0, a1, a2] hp (fun v h => Go mid is lv (v.toList ++ []) h Q) := go_call (by simp [stp])
theorem g_call3_1 {mid : Nat} {is : List Instr} {lv : List Value} {hp : fH} {Q : Option Value → fH → Prop} {k : Nat} {a0 a1 a2 : Value} {s0 : Value} : Go mid (.invokeinterface k 3 :: is) lv (a2 :: a1 :: a0 :: [s0]) hp Q ↔ Call k [a0, a1, a2] hp (fun v h => Go mid is lv (v.toList ++ [s0]) h Q) := go_call (by simp [stp])
theorem g_call3_2 {mid : Nat} {is : List Instr} {lv : List Value} {hp : fH} {Q : Option Value → fH → Prop} {k : Nat} {a0 a1 a2 : Value} {s0 s1 : Value} : Go mid (.invokeinterface k 3 :: is) lv (a2 :: a1 :: a0 :: [s0, s1]) hp Q ↔ Call k [a0, a1, a2] hp (fun v h => Go mid is lv (v.toList ++ [s0, s1]) h Q) := go_call (by simp [stp])
theorem g_call3_3 {mid : Nat} {is : List Instr} {lv : List Value} {hp : fH} {Q : Option Value → fH → Prop} {k : Nat} {a0 a1 a2 : Value} {s0 s1 s2 : Value} : Go mid (.invokeinterface k 3 :: is) lv (a2 :: a1 :: a0 :: [s0, s1, s2]) hp Q ↔ Call k [a0, a1, a2] hp (fun v h => Go mid is lv (v.toList ++ [s0, s1, s2]) h Q) := go_call (by simp [stp])
theorem g_call3_4 {mid : Nat} {is : List Instr} {lv : List Value} {hp : fH} {Q : Option Value → fH → Prop} {k : Nat} {a0 a1 a2 : Value} {s0 s1 s2 s3 : Value} : Go mid (.invokeinterface k 3 :: is) lv (a2 :: a1 :: a0 :: [s0, s1, s2, s3]) hp Q ↔ Call k [a0, a1, a2] hp (fun v h => Go mid is lv (v.toList ++ [s0, s1, s2, s3]) h Q) := go_call (by simp [stp])
theorem g_call4_0 {mid : Nat} {is : List Instr} {lv : List Value} {hp : fH} {Q : Option Value → fH → Prop} {k : Nat} {a0 a1 a2 a3 : Value}  : Go mid (.invokeinterface k 4 :: is) lv (a3 :: a2 :: a1 :: a0 :: []) hp Q ↔ Call k [a0, a1, a2, a3] hp (fun v h => Go mid is lv (v.toList ++ []) h Q) := go_call (by simp [stp])
theorem g_call4_1 {mid : Nat} {is : List Instr} {lv : List Value} {hp : fH} {Q : Option Value → fH → Prop} {k : Nat} {a0 a1 a2 a3 : Value} {s0 : Value} : Go mid (.invokeinterface k 4 :: is) lv (a3 :: a2 :: a1 :: a0 :: [s0]) hp Q ↔ Call k [a0, a1, a2, a3] hp (fun v h => Go mid is lv (v.toList ++ [s0]) h Q) := go_call (by simp [stp])
theorem g_call4_2 {mid : Nat} {is : List Instr} {lv : List Value} {hp : fH} {Q : Option Value → fH → Prop} {k : Nat} {a0 a1 a2 a3 : Value} {s0 s1 : Value} : Go mid (.invokeinterface k 4 :: is) lv (a3 :: a2 :: a1 :: a0 :: [s0, s1]) hp Q ↔ Call k [a0, a1, a2, a3] hp (fun v h => Go mid is lv (v.toList ++ [s0, s1]) h Q) := go_call (by simp [stp])
theorem g_call4_3 {mid : Nat} {is : List Instr} {lv : List Value} {hp : fH} {Q : Option Value → fH → Prop} {k : Nat} {a0 a1 a2 a3 : Value} {s0 s1 s2 : Value} : Go mid (.invokeinterface k 4 :: is) lv (a3 :: a2 :: a1 :: a0 :: [s0, s1, s2]) hp Q ↔ Call k [a0, a1, a2, a3] hp (fun v h => Go mid is lv (v.toList ++ [s0, s1, s2]) h Q) := go_call (by simp [stp])
theorem g_call4_4 {mid : Nat} {is : List Instr} {lv : List Value} {hp : fH} {Q : Option Value → fH → Prop} {k : Nat} {a0 a1 a2 a3 : Value} {s0 s1 s2 s3 : Value} : Go mid (.invokeinterface k 4 :: is) lv (a3 :: a2 :: a1 :: a0 :: [s0, s1, s2, s3]) hp Q ↔ Call k [a0, a1, a2, a3] hp (fun v h => Go mid is lv (v.toList ++ [s0, s1, s2, s3]) h Q) := go_call (by simp [stp])
theorem g_call5_0 {mid : Nat} {is : List Instr} {lv : List Value} {hp : fH} {Q : Option Value → fH → Prop} {k : Nat} {a0 a1 a2 a3 a4 : Value}  : Go mid (.invokeinterface k 5 :: is) lv (a4 :: a3 :: a2 :: a1 :: a0 :: []) hp Q ↔ Call k [a0, a1, a2, a3, a4] hp (fun v h => Go mid is lv (v.toList ++ []) h Q) := go_call (by simp [stp])
theorem g_call5_1 {mid : Nat} {is : List Instr} {lv : List Value} {hp : fH} {Q : Option Value → fH → Prop} {k : Nat} {a0 a1 a2 a3 a4 : Value} {s0 : Value} : Go mid (.invokeinterface k 5 :: is) lv (a4 :: a3 :: a2 :: a1 :: a0 :: [s0]) hp Q ↔ Call k [a0, a1, a2, a3, a4] hp (fun v h => Go mid is lv (v.toList ++ [s0]) h Q) := go_call (by simp [stp])
theorem g_call5_2 {mid : Nat} {is : List Instr} {lv : List Value} {hp : fH} {Q : Option Value → fH → Prop} {k : Nat} {a0 a1 a2 a3 a4 : Value} {s0 s1 : Value} : Go mid (.invokeinterface k 5 :: is) lv (a4 :: a3 :: a2 :: a1 :: a0 :: [s0, s1]) hp Q ↔ Call k [a0, a1, a2, a3, a4] hp (fun v h => Go mid is lv (v.toList ++ [s0, s1]) h Q) := go_call (by simp [stp])
theorem g_call5_3 {mid : Nat} {is : List Instr} {lv : List Value} {hp : fH} {Q : Option Value → fH → Prop} {k : Nat} {a0 a1 a2 a3 a4 : Value} {s0 s1 s2 : Value} : Go mid (.invokeinterface k 5 :: is) lv (a4 :: a3 :: a2 :: a1 :: a0 :: [s0, s1, s2]) hp Q ↔ Call k [a0, a1, a2, a3, a4] hp (fun v h => Go mid is lv (v.toList ++ [s0, s1, s2]) h Q) := go_call (by simp [stp])
theorem g_call5_4 {mid : Nat} {is : List Instr} {lv : List Value} {hp : fH} {Q : Option Value → fH → Prop} {k : Nat} {a0 a1 a2 a3 a4 : Value} {s0 s1 s2 s3 : Value} : Go mid (.invokeinterface k 5 :: is) lv (a4 :: a3 :: a2 :: a1 :: a0 :: [s0, s1, s2, s3]) hp Q ↔ Call k [a0, a1, a2, a3, a4] hp (fun v h => Go mid is lv (v.toList ++ [s0, s1, s2, s3]) h Q) := go_call (by simp [stp])
theorem g_call6_0 {mid : Nat} {is : List Instr} {lv : List Value} {hp : fH} {Q : Option Value → fH → Prop} {k : Nat} {a0 a1 a2 a3 a4 a5 : Value}  : Go mid (.invokeinterface k 6 :: is) lv (a5 :: a4 :: a3 :: a2 :: a1 :: a0 :: []) hp Q ↔ Call k [a0, a1, a2, a3, a4, a5] hp (fun v h => Go mid is lv (v.toList ++ []) h Q) := go_call (by simp [stp])
theorem g_call6_1 {mid : Nat} {is : List Instr} {lv : List Value} {hp : fH} {Q : Option Value → fH → Prop} {k : Nat} {a0 a1 a2 a3 a4 a5 : Value} {s0 : Value} : Go mid (.invokeinterface k 6 :: is) lv (a5 :: a4 :: a3 :: a2 :: a1 :: a0 :: [s0]) hp Q ↔ Call k [a0, a1, a2, a3, a4, a5] hp (fun v h => Go mid is lv (v.toList ++ [s0]) h Q) := go_call (by simp [stp])
theorem g_call6_2 {mid : Nat} {is : List Instr} {lv : List Value} {hp : fH} {Q : Option Value → fH → Prop} {k : Nat} {a0 a1 a2 a3 a4 a5 : Value} {s0 s1 : Value} : Go mid (.invokeinterface k 6 :: is) lv (a5 :: a4 :: a3 :: a2 :: a1 :: a0 :: [s0, s1]) hp Q ↔ Call k [a0, a1, a2, a3, a4, a5] hp (fun v h => Go mid is lv (v.toList ++ [s0, s1]) h Q) := go_call (by simp [stp])
theorem g_call6_3 {mid : Nat} {is : List Instr} {lv : List Value} {hp : fH} {Q : Option Value → fH → Prop} {k : Nat} {a0 a1 a2 a3 a4 a5 : Value} {s0 s1 s2 : Value} : Go mid (.invokeinterface k 6 :: is) lv (a5 :: a4 :: a3 :: a2 :: a1 :: a0 :: [s0, s1, s2]) hp Q ↔ Call k [a0, a1, a2, a3, a4, a5] hp (fun v h => Go mid is lv (v.toList ++ [s0, s1, s2]) h Q) := go_call (by simp [stp])
theorem g_call6_4 {mid : Nat} {is : List Instr} {lv : List Value} {hp : fH} {Q : Option Value → fH → Prop} {k : Nat} {a0 a1 a2 a3 a4 a5 : Value} {s0 s1 s2 s3 : Value} : Go mid (.invokeinterface k 6 :: is) lv (a5 :: a4 :: a3 :: a2 :: a1 :: a0 :: [s0, s1, s2, s3]) hp Q ↔ Call k [a0, a1, a2, a3, a4, a5] hp (fun v h => Go mid is lv (v.toList ++ [s0, s1, s2, s3]) h Q) := go_call (by simp [stp])
theorem g_mabs_0 {mid : Nat} {is : List Instr} {lv : List Value} {hp : fH} {Q : Option Value → fH → Prop} {x : Int32}  : Go mid (.fneg :: is) lv (.int x :: []) hp Q ↔ Go mid is lv (.int (if 0 ≤ x then x else 0 - x) :: []) hp Q := go_next (by simp [stp])
theorem g_mmax_0 {mid : Nat} {is : List Instr} {lv : List Value} {hp : fH} {Q : Option Value → fH → Prop} {x y : Int32}  : Go mid (.fadd :: is) lv (.int y :: .int x :: []) hp Q ↔ Go mid is lv (.int (if x < y then y else x) :: []) hp Q := go_next (by simp [stp])
theorem g_mmin_0 {mid : Nat} {is : List Instr} {lv : List Value} {hp : fH} {Q : Option Value → fH → Prop} {x y : Int32}  : Go mid (.fsub :: is) lv (.int y :: .int x :: []) hp Q ↔ Go mid is lv (.int (if y < x then y else x) :: []) hp Q := go_next (by simp [stp])
theorem g_mabs_1 {mid : Nat} {is : List Instr} {lv : List Value} {hp : fH} {Q : Option Value → fH → Prop} {x : Int32} {s0 : Value} : Go mid (.fneg :: is) lv (.int x :: [s0]) hp Q ↔ Go mid is lv (.int (if 0 ≤ x then x else 0 - x) :: [s0]) hp Q := go_next (by simp [stp])
theorem g_mmax_1 {mid : Nat} {is : List Instr} {lv : List Value} {hp : fH} {Q : Option Value → fH → Prop} {x y : Int32} {s0 : Value} : Go mid (.fadd :: is) lv (.int y :: .int x :: [s0]) hp Q ↔ Go mid is lv (.int (if x < y then y else x) :: [s0]) hp Q := go_next (by simp [stp])
theorem g_mmin_1 {mid : Nat} {is : List Instr} {lv : List Value} {hp : fH} {Q : Option Value → fH → Prop} {x y : Int32} {s0 : Value} : Go mid (.fsub :: is) lv (.int y :: .int x :: [s0]) hp Q ↔ Go mid is lv (.int (if y < x then y else x) :: [s0]) hp Q := go_next (by simp [stp])
theorem g_mabs_2 {mid : Nat} {is : List Instr} {lv : List Value} {hp : fH} {Q : Option Value → fH → Prop} {x : Int32} {s0 s1 : Value} : Go mid (.fneg :: is) lv (.int x :: [s0, s1]) hp Q ↔ Go mid is lv (.int (if 0 ≤ x then x else 0 - x) :: [s0, s1]) hp Q := go_next (by simp [stp])
theorem g_mmax_2 {mid : Nat} {is : List Instr} {lv : List Value} {hp : fH} {Q : Option Value → fH → Prop} {x y : Int32} {s0 s1 : Value} : Go mid (.fadd :: is) lv (.int y :: .int x :: [s0, s1]) hp Q ↔ Go mid is lv (.int (if x < y then y else x) :: [s0, s1]) hp Q := go_next (by simp [stp])
theorem g_mmin_2 {mid : Nat} {is : List Instr} {lv : List Value} {hp : fH} {Q : Option Value → fH → Prop} {x y : Int32} {s0 s1 : Value} : Go mid (.fsub :: is) lv (.int y :: .int x :: [s0, s1]) hp Q ↔ Go mid is lv (.int (if y < x then y else x) :: [s0, s1]) hp Q := go_next (by simp [stp])
theorem g_mabs_3 {mid : Nat} {is : List Instr} {lv : List Value} {hp : fH} {Q : Option Value → fH → Prop} {x : Int32} {s0 s1 s2 : Value} : Go mid (.fneg :: is) lv (.int x :: [s0, s1, s2]) hp Q ↔ Go mid is lv (.int (if 0 ≤ x then x else 0 - x) :: [s0, s1, s2]) hp Q := go_next (by simp [stp])
theorem g_mmax_3 {mid : Nat} {is : List Instr} {lv : List Value} {hp : fH} {Q : Option Value → fH → Prop} {x y : Int32} {s0 s1 s2 : Value} : Go mid (.fadd :: is) lv (.int y :: .int x :: [s0, s1, s2]) hp Q ↔ Go mid is lv (.int (if x < y then y else x) :: [s0, s1, s2]) hp Q := go_next (by simp [stp])
theorem g_mmin_3 {mid : Nat} {is : List Instr} {lv : List Value} {hp : fH} {Q : Option Value → fH → Prop} {x y : Int32} {s0 s1 s2 : Value} : Go mid (.fsub :: is) lv (.int y :: .int x :: [s0, s1, s2]) hp Q ↔ Go mid is lv (.int (if y < x then y else x) :: [s0, s1, s2]) hp Q := go_next (by simp [stp])
theorem g_ireturn {mid : Nat} {is : List Instr} {lv : List Value} {hp : fH} {Q : Option Value → fH → Prop} {v : Int32} : Go mid (.ireturn :: is) lv [.int v] hp Q ↔ Q (some (.int v)) hp := go_end rfl
theorem g_lreturn {mid : Nat} {is : List Instr} {lv : List Value} {hp : fH} {Q : Option Value → fH → Prop} {v : Int64} : Go mid (.lreturn :: is) lv [.long v] hp Q ↔ Q (some (.long v)) hp := go_end rfl
theorem g_return {mid : Nat} {is : List Instr} {lv : List Value} {hp : fH} {Q : Option Value → fH → Prop} : Go mid (.return_ :: is) lv [] hp Q ↔ Q none hp := go_end rfl
theorem g_zreturn {mid : Nat} {is : List Instr} {lv : List Value} {hp : fH} {Q : Option Value → fH → Prop} {v : Int32} : Go mid (.freturn :: is) lv [.int v] hp Q ↔ (v = 0 ∨ v = 1) ∧ Q (some (.int v)) hp := by
  by_cases h : v = 0 ∨ v = 1
  · rw [go_end (v := some (.int v)) (by simp [stp, h])]; exact ⟨fun g => ⟨h, g⟩, fun g => g.2⟩
  · exact ⟨fun g => absurd g (go_none (by simp [stp, h])), fun g => absurd g.1 h⟩
theorem fg_st (h : fH) (a b : Nat) (e : fE) : f_get (f_st h a e) b = if b = a then e else f_get h b := rfl
theorem fg_st_s (h : fH) (a : Nat) (e : fE) : f_get (f_st h a e) a = e := by simp [fg_st]
theorem fg_st_n {h : fH} {a b : Nat} {e : fE} (hn : b ≠ a) : f_get (f_st h a e) b = f_get h b := by simp [fg_st, hn]
theorem sto_0 (a : Value) (t : List Value) (v : Value) : sto (a :: t) 0 v = some (v :: t) := rfl
theorem sto_s (a : Value) (t : List Value) (i : Nat) (v : Value) : sto (a :: t) (i + 1) v = (sto t i v).map (fun r => (if i = 0 ∧ isL a = true then jk else a) :: r) := rfl
theorem sto2_0 (a : Value) (t : List Value) (v : Value) : sto2 (a :: t) 0 v = (sto t 0 jk).map (fun r => v :: r) := rfl
theorem sto2_s (a : Value) (t : List Value) (i : Nat) (v : Value) : sto2 (a :: t) (i + 1) v = (sto2 t i v).map (fun r => (if i = 0 ∧ isL a = true then jk else a) :: r) := rfl
theorem isL_i (x : Int32) : isL (.int x) = false := rfl
theorem isL_r (x : Nat) : isL (.ref x) = false := rfl
theorem isL_l (x : Int64) : isL (.long x) = true := rfl
theorem isL_j : isL jk = false := rfl
theorem ldI_0 (n : Nat) (f : Nat → Int32) (i : Int32) (K : Int32 → Prop) : oB (ldI (.inl (0, n, .inl f)) i) K ↔ vp_in i n ∧ K (f i.toNatClampNeg) := by simp only [ldI, oB_ite, oB_some, vp_in]
theorem ldI_9 (n : Nat) (f : Nat → Int32) (i : Int32) (K : Int32 → Prop) : oB (ldI (.inl (9, n, .inl f)) i) K ↔ vp_in i n ∧ K (f i.toNatClampNeg) := by simp only [ldI, oB_ite, oB_some, vp_in]
theorem ldZ_2 (n : Nat) (f : Nat → Int32) (i : Int32) (K : Int32 → Prop) : oB (ldZ (.inl (2, n, .inl f)) i) K ↔ vp_in i n ∧ K (f i.toNatClampNeg) := by simp only [ldZ, oB_ite, oB_some, vp_in]
theorem ldL_1 (n : Nat) (f : Nat → Int64) (i : Int32) (K : Int64 → Prop) : oB (ldL (.inl (1, n, .inr (.inl f))) i) K ↔ vp_in i n ∧ K (f i.toNatClampNeg) := by simp only [ldL, oB_ite, oB_some, vp_in]
theorem ldQ_3 (n : Nat) (f : Nat → Option Nat) (i : Int32) (K : Nat → Prop) : oB (ldQ (.inl (3, n, .inr (.inr (.inr (.inr f))))) i) K ↔ vp_in i n ∧ oB (f i.toNatClampNeg) K := by simp only [ldQ, oB_ite, vp_in]
theorem stI_0 (n : Nat) (f : Nat → Int32) (i x : Int32) (K : fE → Prop) : oB (stI (.inl (0, n, .inl f)) i x) K ↔ vp_in i n ∧ K (.inl (0, n, .inl (upd f i.toNatClampNeg x))) := by simp only [stI, oB_ite, oB_some, vp_in]
theorem stL_1 (n : Nat) (f : Nat → Int64) (i : Int32) (x : Int64) (K : fE → Prop) : oB (stL (.inl (1, n, .inr (.inl f))) i x) K ↔ vp_in i n ∧ K (.inl (1, n, .inr (.inl (vp_updL f i.toNatClampNeg x)))) := by simp only [stL, oB_ite, oB_some, vp_in]
theorem stZ_2 (n : Nat) (f : Nat → Int32) (i x : Int32) (K : fE → Prop) : oB (stZ (.inl (2, n, .inl f)) i x) K ↔ vp_in i n ∧ (x = 0 ∨ x = 1) ∧ K (.inl (2, n, .inl (upd f i.toNatClampNeg x))) := by
  simp only [stZ, oB_ite, oB_some, vp_in]
  constructor
  · rintro ⟨h, k⟩
    exact ⟨fun q => h (q.elim Or.inl (fun q => Or.inr (Or.inl q))), Classical.byContradiction (fun q => h (Or.inr (Or.inr q))), k⟩
  · rintro ⟨h, h1, k⟩
    exact ⟨fun q => q.elim (fun q => h (Or.inl q)) (fun q => q.elim (fun q => h (Or.inr q)) (fun q => q h1)), k⟩
theorem gF_o (ci : Nat) (fs : List Value) (n : Nat) (K : Value → Prop) : oB (gF (.inr (ci, fs)) n) K ↔ ci = n / 32 ∧ oB (fs[n % 32]?) K := by simp only [gF, oB_ite2]
theorem pF_o (ci : Nat) (fs : List Value) (n : Nat) (x : Value) (K : fE → Prop) : oB (pF (.inr (ci, fs)) n x) K ↔ (ci = n / 32 ∧ n % 32 < fs.length ∧ fit (fk n) x = true) ∧ K (.inr (ci, fs.set (n % 32) x)) := by simp only [pF, oB_ite2, oB_some]
theorem lenA_9 (n : Nat) (f : Nat → Int32) (K : Int32 → Prop) : oB (lenA (.inl (9, n, .inl f))) K ↔ K (Int32.ofNat n) := by simp only [lenA, oB_some]
